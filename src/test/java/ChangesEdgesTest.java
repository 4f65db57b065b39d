import java.util.List;

/** The boundaries of "Changes and errors", and of promise 17: the history, and which error comes first. */
public final class ChangesEdgesTest {
  public static void main(String[] args) {
    eachChangeIsRecorded();
    noOtherCallIsAChange();
    atMost4States();
    theOldestIsDropped();
    theHistoryGoesRoundAndRound();
    everythingButTheText();
    undoIsNoChange();
    invalidRatherThanNotPossible();
    notPossibleRatherThanLimit();
    invalidRatherThanLimit();
    invalidRatherThanNotFound();
    noBodyWithTheNumber();
    theConstants();
    Due.end();
  }

  /** With two bodies, of which the first one can slide to the right, and a history of two states. */
  private static JammedBodies two() {
    JammedBodies x = new JammedBodies();
    Due.put(x, "1,1;4,1;4,3;1,3");
    Due.put(x, "10,10;14,12;12,15");
    return x;
  }

  private static String state(JammedBodies x) {
    StringBuilder told = new StringBuilder(x.count(1) + " " + x.count(2));
    for (int k = 0; k < x.count(0); k++) {
      told.append(' ').append(Due.corners(x, k));
    }
    return told.toString();
  }

  /** Also those that come out at the same state: the document speaks of the calls that return no error. */
  private static void eachChangeIsRecorded() {
    List<Call> changes = List.of(new Call("box", 20, 21), new Call("box", 20, 20), new Call("put"), new Call("remove", 0),
        new Call("remove", 1), new Call("slide", 0, 0, 1), new Call("slide", 1, 5, 60), new Call("turn", 0),
        new Call("turn", 1), new Call("settle", 0), new Call("settle", 7), new Call("empty"));
    for (Call change : changes) {
      JammedBodies x = Due.typed(two(), "7,7;8,7;7,8");
      String before = state(x);
      Due.isTrue(change.told() + " returns no error", change.on(x) >= 0);
      Due.is("count(6) behind " + change.told(), x.count(6), 3);
      Due.is("undo() of " + change.told(), x.undo(), 2);
      Due.same("the state", state(x), before);
    }
    JammedBodies x = new JammedBodies();
    Due.is("settle(3) of nothing", x.settle(3), 0);
    Due.is("count(6)", x.count(6), 1);
    Due.is("empty() of nothing", x.empty(), 0);
    Due.is("count(6)", x.count(6), 2);
    Due.is("box() of the same size", x.box(20, 20), 2020);
    Due.is("count(6)", x.count(6), 3);
  }

  private static void noOtherCallIsAChange() {
    List<Call> calls = List.of(new Call("bodyOf", 0, 8), new Call("bodyOf", 1, 9), new Call("parts", 0, 1, 2),
        new Call("parts", 1, 0, 0), new Call("way", 0, 1, 0), new Call("way", 1, 6, 1), new Call("way", 0, 4, 2),
        new Call("bodies", 0), new Call("bodies", 3), new Call("group", -1), new Call("group", 0), new Call("density"),
        new Call("keystone", 0, 0), new Call("keystone", 5, 1), new Call("count", 5), new Call("count", 6),
        new Call("fault", 1), new Call("fault", 0));
    for (Call call : calls) {
      Due.same("all behind " + call.told(), Told.of(() -> behind(two(), call)), Told.of(ChangesEdgesTest::two));
    }
    JammedBodies x = two();
    String before = state(x);
    Due.is("clearText()", x.clearText(), 17);
    Due.is("type(48)", x.type(48), 1);
    Due.is("count(6)", x.count(6), 2);
    Due.same("the state", state(x), before);
  }

  private static JammedBodies behind(JammedBodies x, Call call) {
    call.on(x);
    return x;
  }

  private static void atMost4States() {
    for (int changes = 0; changes <= 12; changes++) {
      JammedBodies x = new JammedBodies();
      for (int k = 0; k < changes; k++) {
        Due.is("count(6)", x.count(6), Math.min(k, 4));
        x.box(21 + k, 30);
      }
      int states = Math.min(changes, 4);
      Due.is("count(6) behind " + changes + " changes", x.count(6), states);
      for (int left = states - 1; left >= 0; left--) {
        Due.is("undo()", x.undo(), left);
        Due.is("count(6)", x.count(6), left);
      }
      Due.is("undo() of nothing behind " + changes + " changes", x.undo(), Due.IMPOSSIBLE);
      Due.is("undo() of nothing again", x.undo(), Due.IMPOSSIBLE);
      Due.is("count(6)", x.count(6), 0);
    }
  }

  private static void theOldestIsDropped() {
    for (int changes = 1; changes <= 12; changes++) {
      JammedBodies x = new JammedBodies();
      for (int k = 1; k <= changes; k++) {
        x.box(20 + k, 30);
      }
      for (int back = 1; back <= Math.min(changes, 4); back++) {
        x.undo();
        Due.is("the width " + back + " back from " + changes, x.count(1), 20 + changes - back);
        Due.is("the height", x.count(2), back == changes ? 20 : 30);
      }
      x.undo();
      Due.is("no further than that", x.count(1), 20 + Math.max(0, changes - 4));
    }
  }

  /** From each place of the history as far back as each number of states, and on again. */
  private static void theHistoryGoesRoundAndRound() {
    for (int back = 0; back <= 4; back++) {
      JammedBodies x = new JammedBodies();
      int width = 20;
      int states = 0;
      for (int round = 0; round < 9; round++) {
        for (int k = 0; k < 5 - round % 2; k++) {
          x.box(++width, 20);
          states = Math.min(4, states + 1);
        }
        Due.is("count(6)", x.count(6), states);
        for (int k = 0; k < back; k++) {
          Due.is("undo()", x.undo(), --states);
          Due.is("count(1)", x.count(1), --width);
        }
        while (width > 40) {
          x.box(--width, 20);
          states = Math.min(4, states + 1);
        }
      }
    }
  }

  private static void everythingButTheText() {
    JammedBodies x = Due.with(30, 40, "1,1;4,1;4,3;1,3", "10,10;14,12;12,15");
    String full = state(x);
    Due.is("remove(0)", x.remove(0), 1);
    Due.is("remove(0)", x.remove(0), 0);
    Due.is("box(10, 11)", x.box(10, 11), 3040);
    Due.is("put()", Due.put(x, "2,2;3,2;2,3"), 0);
    Due.typed(x, "5,5");
    Due.is("undo()", x.undo(), 3);
    Due.is("undo()", x.undo(), 2);
    Due.same("without bodies", state(x), "30 40");
    Due.is("undo()", x.undo(), 1);
    Due.is("undo()", x.undo(), 0);
    Due.same("with both", state(x), full);
    Due.is("the text stays", x.count(7), 3);
    Due.is("as it was", x.type(';'), 4);
    Due.is("as it was", x.fault(0), 4);
  }

  private static void undoIsNoChange() {
    JammedBodies x = two();
    Due.is("undo()", x.undo(), 1);
    Due.is("count(6)", x.count(6), 1);
    Due.is("undo()", x.undo(), 0);
    Due.is("undo() of nothing", x.undo(), Due.IMPOSSIBLE);
    Due.is("count(6)", x.count(6), 0);
    Due.is("count(0)", x.count(0), 0);
  }

  private static void error(JammedBodies x, int due, String name, int... arguments) {
    Call call = new Call(name, arguments);
    Due.is(call.told(), call.on(x), due);
  }

  private static void invalidRatherThanNotPossible() {
    JammedBodies x = Due.with(20, 19, Due.rectangle(0, 0, 20, 19));
    error(x, Due.IMPOSSIBLE, "box", 19, 19);
    error(x, Due.INVALID, "box", 9, 19);
    error(x, Due.INVALID, "box", 19, 61);
    error(x, Due.INVALID, "box", 19, 9);
    error(x, Due.INVALID, "box", 61, 10);
    error(x, Due.IMPOSSIBLE, "slide", 0, 0, 1);
    error(x, Due.INVALID, "slide", 0, 0, 0);
    error(x, Due.INVALID, "slide", 0, 0, 61);
    error(x, Due.INVALID, "slide", 1, 0, 1);
    error(x, Due.INVALID, "slide", -1, 0, 1);
    error(x, Due.INVALID, "slide", 0, 8, 1);
    error(x, Due.INVALID, "slide", 0, -1, 1);
    error(x, Due.IMPOSSIBLE, "turn", 0);
    error(x, Due.INVALID, "turn", 1);
    error(x, Due.INVALID, "turn", -1);
  }

  private static void notPossibleRatherThanLimit() {
    JammedBodies x = Due.with(10, 10);
    for (int k = 0; k < 8; k++) {
      Due.put(x, Due.rectangle(k, 0, k + 1, 9));
    }
    String[] faults = {"", "0,9;1,9", Due.rectangle(8, 0, 11, 9), "8,0;8,9;9,9", Due.rectangle(7, 0, 9, 9)};
    for (int reason = 0; reason < faults.length; reason++) {
      Due.is("put() of " + faults[reason], Due.put(x, faults[reason]), Due.IMPOSSIBLE);
      Due.is("its reason", x.fault(1), Math.max(1, reason));
    }
    Due.is("put() of a ninth without a fault", Due.put(x, Due.rectangle(8, 0, 9, 9)), Due.LIMIT);
    Due.is("remove(7)", x.remove(7), 7);
    Due.is("put()", x.put(), 7);
  }

  private static void invalidRatherThanLimit() {
    JammedBodies x = new JammedBodies();
    for (int k = 0; k < 60; k++) {
      x.type(48);
    }
    error(x, Due.LIMIT, "type", 48);
    error(x, Due.INVALID, "type", 127);
    error(x, Due.INVALID, "type", 31);
    error(x, Due.INVALID, "type", -1);
  }

  private static void invalidRatherThanNotFound() {
    JammedBodies x = new JammedBodies();
    error(x, Due.MISSING, "keystone", 0, 0);
    error(x, Due.INVALID, "keystone", -1, 0);
    error(x, Due.INVALID, "keystone", 8, 1);
    error(x, Due.INVALID, "keystone", 0, -1);
    error(x, Due.INVALID, "keystone", 7, 2);
    error(x, Due.MISSING, "group", 0);
    error(x, Due.INVALID, "group", -2);
    Due.put(x, "0,0;1,0;0,1");
    Due.typed(x, "3,3;4,3;3,4");
    error(x, Due.MISSING, "fault", 0);
    error(x, Due.INVALID, "fault", -1);
    error(x, Due.INVALID, "fault", 3);
    error(x, Due.MISSING, "bodyOf", 0, 16);
    error(x, Due.INVALID, "bodyOf", 1, 16);
    error(x, Due.INVALID, "bodyOf", -1, 16);
    error(x, Due.INVALID, "bodyOf", 0, 22);
  }

  /** With no body, with one, and with eight: the number just ahead of them and just behind, and far from them. */
  private static void noBodyWithTheNumber() {
    for (int bodies = 0; bodies <= 8; bodies++) {
      JammedBodies x = Due.with(10, 10);
      for (int k = 0; k < bodies; k++) {
        Due.put(x, Due.rectangle(k, 0, k + 1, 1));
      }
      int[] none = {-1, bodies, 8, 31, 32, 64, Integer.MAX_VALUE, Integer.MIN_VALUE, -8};
      for (int body : none) {
        error(x, Due.INVALID, "remove", body);
        error(x, Due.INVALID, "slide", body, 2, 1);
        error(x, Due.INVALID, "turn", body);
        error(x, Due.INVALID, "bodyOf", body, 0);
        error(x, Due.INVALID, "way", body, 2, 0);
        error(x, Due.INVALID, "parts", body, 0, 0);
        error(x, Due.INVALID, "parts", 0, body, 0);
        error(x, Due.INVALID, "parts", body, body, 0);
      }
      for (int body = 0; body < bodies; body++) {
        error(x, body, "bodyOf", body, 2);
        error(x, 9, "way", body, 2, 0);
        error(x, 1, "turn", body);
        error(x, 1, "slide", body, 2, 1);
      }
      error(x, bodies == 0 ? Due.INVALID : bodies - 1, "remove", bodies - 1);
    }
  }

  private static void theConstants() {
    Due.is("INVALID_ARGUMENT", JammedBodies.INVALID_ARGUMENT, -1000001);
    Due.is("NOT_POSSIBLE", JammedBodies.NOT_POSSIBLE, -1000002);
    Due.is("LIMIT_REACHED", JammedBodies.LIMIT_REACHED, -1000003);
    Due.is("NOT_FOUND", JammedBodies.NOT_FOUND, -1000004);
  }
}
