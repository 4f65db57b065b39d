/** A call told by its name and arguments, so that tests can keep calls in lists and name them when they fail. */
record Call(String name, int... arguments) {
  private int argument(int k) {
    return k < arguments.length ? arguments[k] : 0;
  }

  int on(JammedBodies x) {
    int a = argument(0);
    int b = argument(1);
    int c = argument(2);
    switch (name) {
      case "box": return x.box(a, b);
      case "put": return x.put();
      case "remove": return x.remove(a);
      case "empty": return x.empty();
      case "slide": return x.slide(a, b, c);
      case "turn": return x.turn(a);
      case "settle": return x.settle(a);
      case "bodyOf": return x.bodyOf(a, b);
      case "parts": return x.parts(a, b, c);
      case "way": return x.way(a, b, c);
      case "bodies": return x.bodies(a);
      case "group": return x.group(a);
      case "density": return x.density();
      case "keystone": return x.keystone(a, b);
      case "count": return x.count(a);
      case "undo": return x.undo();
      case "type": return x.type(a);
      case "clearText": return x.clearText();
      case "fault": return x.fault(a);
      default: throw new IllegalArgumentException(name);
    }
  }

  String told() {
    StringBuilder told = new StringBuilder(name).append('(');
    for (int k = 0; k < arguments.length; k++) {
      told.append(k > 0 ? ", " : "").append(arguments[k]);
    }
    return told.append(')').toString();
  }
}
