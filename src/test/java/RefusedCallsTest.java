import java.util.ArrayList;
import java.util.List;
import java.util.function.Supplier;

/** A call that returns an error changes nothing: all that is told, also about the history, is as it was before. */
public final class RefusedCallsTest {
  private static final int[] EXTREMES = {Integer.MIN_VALUE, Integer.MAX_VALUE, 1 << 16, 1 << 31 | 1};

  private final Supplier<JammedBodies> made;
  private final String before;
  private final int bodies;

  private RefusedCallsTest(Supplier<JammedBodies> made) {
    this.made = made;
    this.before = Told.of(made);
    this.bodies = made.get().count(0);
  }

  public static void main(String[] args) {
    ofANewObject();
    ofOneBody();
    ofAFullHistory();
    ofAnEmptiedBox();
    ofEightBodies();
    ofAFullText();
    ofAHistoryThatHasGoneRound();
    Due.end();
  }

  private void refused(int error, String name, int... arguments) {
    Call call = new Call(name, arguments);
    Due.is(call.told(), call.on(made.get()), error);
    Due.same("all behind " + call.told(), Told.of(() -> {
      JammedBodies x = made.get();
      call.on(x);
      return x;
    }), before);
  }

  /** Each argument of each call just outside its range, and far outside it; the others inside theirs. */
  private void wrongArguments() {
    int some = Math.max(0, bodies - 1);
    for (int body : outside(-1, bodies)) {
      refused(Due.INVALID, "remove", body);
      refused(Due.INVALID, "slide", body, 2, 1);
      refused(Due.INVALID, "turn", body);
      refused(Due.INVALID, "bodyOf", body, 0);
      refused(Due.INVALID, "way", body, 2, 0);
      refused(Due.INVALID, "parts", body, some, 0);
      refused(Due.INVALID, "parts", some, body, 0);
    }
    for (int direction : outside(-1, 8)) {
      refused(Due.INVALID, "slide", some, direction, 1);
      refused(Due.INVALID, "settle", direction);
      refused(Due.INVALID, "way", some, direction, 0);
      refused(Due.INVALID, "keystone", direction, 0);
    }
    for (int size : outside(9, 61)) {
      refused(Due.INVALID, "box", size, 60);
      refused(Due.INVALID, "box", 60, size);
    }
    for (int most : outside(0, 61)) {
      refused(Due.INVALID, "slide", some, 0, most);
    }
    for (int character : outside(31, 127)) {
      refused(Due.INVALID, "type", character);
    }
    refused(Due.INVALID, "parts", some, some, 0);
    refused(Due.INVALID, "group", -2);
    refused(Due.INVALID, "group", Integer.MIN_VALUE);
    refused(Due.MISSING, "group", bodies);
    refused(Due.MISSING, "group", Integer.MAX_VALUE);
    wrongWhats(some);
  }

  private void wrongWhats(int some) {
    for (int what : outside(-1, 22)) {
      refused(Due.INVALID, "bodyOf", some, what);
    }
    for (int what : outside(-1, 3)) {
      refused(Due.INVALID, "parts", 0, 1, what);
      refused(Due.INVALID, "way", some, 0, what);
      refused(Due.INVALID, "fault", what);
    }
    for (int what : outside(-1, 4)) {
      refused(Due.INVALID, "bodies", what);
    }
    for (int what : outside(-1, 2)) {
      refused(Due.INVALID, "keystone", 0, what);
    }
    for (int what : outside(-1, 8)) {
      refused(Due.INVALID, "count", what);
    }
  }

  private static List<Integer> outside(int below, int above) {
    List<Integer> all = new ArrayList<>(List.of(below, above));
    for (int extreme : EXTREMES) {
      all.add(extreme);
    }
    return all;
  }

  private static void ofANewObject() {
    RefusedCallsTest test = new RefusedCallsTest(JammedBodies::new);
    test.wrongArguments();
    test.refused(Due.IMPOSSIBLE, "undo");
    test.refused(Due.IMPOSSIBLE, "put");
    test.refused(Due.MISSING, "keystone", 0, 0);
    test.refused(Due.MISSING, "keystone", 7, 1);
    test.refused(Due.MISSING, "group", 0);
  }

  private static void ofOneBody() {
    RefusedCallsTest test = new RefusedCallsTest(() -> {
      JammedBodies x = new JammedBodies();
      x.box(20, 12);
      Due.put(x, Due.rectangle(0, 0, 20, 12));
      return Due.typed(x, "21,1;2,1;1,3");
    });
    test.wrongArguments();
    for (int direction = 0; direction < 8; direction++) {
      test.refused(Due.IMPOSSIBLE, "slide", 0, direction, 1);
      test.refused(Due.IMPOSSIBLE, "slide", 0, direction, 60);
    }
    test.refused(Due.IMPOSSIBLE, "turn", 0);
    test.refused(Due.IMPOSSIBLE, "put");
    test.refused(Due.IMPOSSIBLE, "box", 19, 12);
    test.refused(Due.IMPOSSIBLE, "box", 20, 11);
    test.refused(Due.IMPOSSIBLE, "box", 10, 60);
    test.refused(Due.MISSING, "bodyOf", 0, 18);
    test.refused(Due.MISSING, "bodyOf", 0, 21);
    test.refused(Due.MISSING, "group", 1);
  }

  private static void ofAFullHistory() {
    RefusedCallsTest test = new RefusedCallsTest(() -> {
      JammedBodies x = new JammedBodies();
      x.box(15, 17);
      Due.put(x, Due.rectangle(4, 4, 5, 8));
      Due.put(x, Due.rectangle(7, 4, 9, 6));
      Due.put(x, "9,0;15,0;15,2");
      x.slide(2, 2, 13);
      return Due.typed(x, "1,1;2,1;2,2");
    });
    test.wrongArguments();
    test.refused(Due.IMPOSSIBLE, "turn", 0);
    test.refused(Due.IMPOSSIBLE, "turn", 2);
    test.refused(Due.IMPOSSIBLE, "slide", 2, 0, 1);
    test.refused(Due.IMPOSSIBLE, "slide", 2, 7, 60);
    test.refused(Due.IMPOSSIBLE, "box", 14, 17);
    test.refused(Due.MISSING, "fault", 0);
    test.refused(Due.MISSING, "fault", 2);
    test.refused(Due.MISSING, "bodyOf", 2, 16);
  }

  private static void ofAnEmptiedBox() {
    RefusedCallsTest test = new RefusedCallsTest(() -> {
      JammedBodies x = new JammedBodies();
      Due.put(x, Due.rectangle(4, 4, 5, 8));
      x.empty();
      return Due.typed(x, "1,1;2,1;1");
    });
    test.wrongArguments();
    test.refused(Due.IMPOSSIBLE, "put");
    test.refused(Due.MISSING, "keystone", 3, 0);
  }

  private static void ofEightBodies() {
    RefusedCallsTest test = new RefusedCallsTest(() -> {
      JammedBodies x = new JammedBodies();
      x.box(10, 10);
      for (int k = 0; k < 8; k++) {
        Due.put(x, Due.rectangle(k, 0, k + 1, 9));
      }
      return Due.typed(x, Due.rectangle(8, 0, 9, 9));
    });
    test.wrongArguments();
    test.refused(Due.LIMIT, "put");
    test.refused(Due.MISSING, "fault", 1);
    test.refused(Due.IMPOSSIBLE, "slide", 3, 0, 1);
    test.refused(Due.IMPOSSIBLE, "slide", 0, 4, 1);
    test.refused(Due.IMPOSSIBLE, "turn", 7);
    test.refused(Due.IMPOSSIBLE, "turn", 0);
  }

  private static void ofAFullText() {
    RefusedCallsTest test = new RefusedCallsTest(() -> {
      JammedBodies x = new JammedBodies();
      Due.put(x, "5,5;9,5;9,9");
      return Due.typed(x, "1,1;2,1;2,2;" + "1,0;".repeat(12));
    });
    Due.is("its length", test.made.get().count(7), 60);
    test.wrongArguments();
    test.refused(Due.LIMIT, "type", 32);
    test.refused(Due.LIMIT, "type", 48);
    test.refused(Due.LIMIT, "type", 126);
    test.refused(Due.IMPOSSIBLE, "put");
  }

  private static void ofAHistoryThatHasGoneRound() {
    RefusedCallsTest test = new RefusedCallsTest(() -> {
      JammedBodies x = new JammedBodies();
      Due.put(x, "5,5;9,5;9,9");
      Due.put(x, "0,0;4,0;4,1;0,1");
      for (int k = 0; k < 5; k++) {
        x.slide(0, 2, 1);
      }
      x.undo();
      x.undo();
      x.undo();
      x.turn(0);
      return x;
    });
    Due.is("its states", test.made.get().count(6), 2);
    test.wrongArguments();
    test.refused(Due.IMPOSSIBLE, "slide", 1, 4, 1);
    test.refused(Due.IMPOSSIBLE, "box", 10, 10);
    test.refused(Due.IMPOSSIBLE, "put");
  }
}
