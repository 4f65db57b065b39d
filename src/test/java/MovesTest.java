/** Promises 6 to 8: slide, turn, settle. */
public final class MovesTest {
  public static void main(String[] args) {
    promise6Directions();
    promise6WhatStops();
    promise6WhatIsBetweenDoesNotMatter();
    promise6Wrong();
    promise7Turn();
    promise7NotPossible();
    promise8Rounds();
    promise8Directions();
    promise8Wrong();
    Due.end();
  }

  private static void promise6Directions() {
    String[] places = {"11,10;12,10;11,11", "11,11;12,11;11,12", "10,11;11,11;10,12", "9,11;10,11;9,12",
        "9,10;10,10;9,11", "9,9;10,9;9,10", "10,9;11,9;10,10", "11,9;12,9;11,10"};
    int[] farthest = {9, 9, 9, 9, 10, 10, 10, 9};
    for (int direction = 0; direction < 8; direction++) {
      JammedBodies x = Due.with(20, 20, "10,10;11,10;10,11");
      Due.is("slide(0, " + direction + ", 1)", x.slide(0, direction, 1), 1);
      Due.same("the body behind direction " + direction, Due.corners(x, 0), places[direction]);
      Due.is("slide(0, " + direction + ", 60)", x.slide(0, direction, 60), farthest[direction] - 1);
      Due.is("slide(0, " + direction + ", 60) at the wall", x.slide(0, direction, 60), Due.IMPOSSIBLE);
    }
  }

  private static void promise6WhatStops() {
    JammedBodies x = Due.with(20, 20, Due.rectangle(0, 0, 2, 2), Due.rectangle(9, 1, 11, 3));
    Due.is("slide(0, 0, 3)", x.slide(0, 0, 3), 3);
    Due.is("slide(0, 0, 60) as far as the other one", x.slide(0, 0, 60), 4);
    Due.is("bodyOf(0, 3)", x.bodyOf(0, 3), 9);
    Due.is("count(6)", x.count(6), 4);
    Due.is("slide(0, 0, 60) at the other one", x.slide(0, 0, 60), Due.IMPOSSIBLE);
    Due.is("slide(0, 0, 1) at the other one", x.slide(0, 0, 1), Due.IMPOSSIBLE);
    Due.is("slide(0, 2, 60) along it", x.slide(0, 2, 60), 18);
    Due.is("slide(0, 0, 60) above it", x.slide(0, 0, 60), 11);
  }

  private static void promise6WhatIsBetweenDoesNotMatter() {
    JammedBodies x = Due.with(10, 10, Due.rectangle(0, 0, 1, 1), Due.rectangle(1, 0, 2, 1), Due.rectangle(0, 1, 1, 2));
    Due.is("slide(0, 1, 1) between two bodies", x.slide(0, 1, 1), 1);
    Due.is("bodyOf(0, 7)", x.bodyOf(0, 7), 6);
    JammedBodies y = Due.with(10, 10, Due.rectangle(0, 0, 1, 1), "2,0;4,0;4,2", Due.rectangle(3, 2, 4, 3));
    Due.is("slide(0, 0, 60) to a body with a slope", y.slide(0, 0, 60), 1);
  }

  private static void promise6Wrong() {
    JammedBodies x = Due.with(20, 20, Due.rectangle(0, 0, 2, 2));
    int[][] wrong = {{1, 0, 1}, {-1, 0, 1}, {0, 8, 1}, {0, -1, 1}, {0, 0, 0}, {0, 0, 61}, {0, 0, -1},
        {0, 4, 0}, {0, 4, 61}, {Integer.MIN_VALUE, 0, 1}, {0, Integer.MAX_VALUE, 1}, {0, 0, Integer.MAX_VALUE}};
    for (int[] call : wrong) {
      Due.is("slide(" + call[0] + ", " + call[1] + ", " + call[2] + ")", x.slide(call[0], call[1], call[2]), Due.INVALID);
    }
    Due.is("slide(0, 4, 60) at the wall", x.slide(0, 4, 60), Due.IMPOSSIBLE);
    Due.is("count(6) behind errors", x.count(6), 2);
    Due.is("slide(0, 0, 60)", x.slide(0, 0, 60), 18);
  }

  private static void promise7Turn() {
    JammedBodies x = Due.with(20, 20, "3,2;8,3;8,4;4,5");
    Due.is("turn(0)", x.turn(0), 3);
    Due.same("the body", Due.corners(x, 0), "6,2;5,7;4,7;3,3");
    Due.is("turn(0)", x.turn(0), 5);
    Due.same("the body", Due.corners(x, 0), "8,5;3,4;3,3;7,2");
    Due.is("turn(0)", x.turn(0), 3);
    Due.is("turn(0)", x.turn(0), 5);
    Due.same("the body turned around", Due.corners(x, 0), "3,2;8,3;8,4;4,5");
    Due.is("count(6)", x.count(6), 4);
    JammedBodies square = Due.with(10, 10, Due.rectangle(0, 0, 10, 10));
    Due.is("turn(0) of the whole box", square.turn(0), 10);
    Due.same("the whole box", Due.corners(square, 0), "10,0;10,10;0,10;0,0");
  }

  private static void promise7NotPossible() {
    JammedBodies x = Due.with(20, 20, Due.rectangle(0, 18, 3, 20), Due.rectangle(18, 0, 20, 3), Due.rectangle(5, 5, 9, 6),
        Due.rectangle(4, 7, 6, 8));
    Due.is("turn(0) beyond the wall above", x.turn(0), Due.IMPOSSIBLE);
    Due.is("turn(1) beyond the wall to the right", x.turn(1), Due.IMPOSSIBLE);
    Due.is("turn(2) into another body", x.turn(2), Due.IMPOSSIBLE);
    Due.is("turn(-1)", x.turn(-1), Due.INVALID);
    Due.is("turn(4)", x.turn(4), Due.INVALID);
    Due.is("count(6) behind errors", x.count(6), 4);
    Due.same("the body", Due.corners(x, 2), Due.rectangle(5, 5, 9, 6));
    Due.is("slide(3, 0, 1)", x.slide(3, 4, 1), 1);
    Due.is("turn(2), so that it touches the other one", x.turn(2), 1);
    Due.is("bodyOf(2, 7)", x.bodyOf(2, 7), 8);
  }

  private static void promise8Rounds() {
    JammedBodies x = Due.with(20, 20, Due.rectangle(0, 0, 2, 2), Due.rectangle(5, 0, 7, 2), Due.rectangle(10, 1, 12, 3));
    Due.is("settle(0): 3 and 3 and 8, then 3 and 8, then 8", x.settle(0), 14 + 11 + 8);
    Due.same("body 0", Due.corners(x, 0), Due.rectangle(14, 0, 16, 2));
    Due.same("body 1", Due.corners(x, 1), Due.rectangle(16, 0, 18, 2));
    Due.same("body 2", Due.corners(x, 2), Due.rectangle(18, 1, 20, 3));
    Due.is("settle(0) again", x.settle(0), 0);
    Due.is("count(6)", x.count(6), 4);
    Due.is("undo() of the one without steps", x.undo(), 3);
    Due.is("bodyOf(0, 2)", x.bodyOf(0, 2), 14);
    Due.is("undo() of the other one", x.undo(), 2);
    Due.is("bodyOf(0, 2)", x.bodyOf(0, 2), 0);
  }

  private static void promise8Directions() {
    JammedBodies x = Due.with(10, 10, Due.rectangle(4, 8, 6, 9), Due.rectangle(7, 5, 9, 6));
    Due.is("settle(7): 2 and 1, then 1 behind the other one", x.settle(7), 3 + 1);
    Due.same("body 0", Due.corners(x, 0), Due.rectangle(7, 5, 9, 6));
    Due.same("body 1", Due.corners(x, 1), Due.rectangle(8, 4, 10, 5));
    int[] steps = {4, 1, 1, 1, 4, 4, 8, 4};
    for (int direction = 0; direction < 8; direction++) {
      JammedBodies one = Due.with(10, 10, Due.rectangle(4, 8, 6, 9));
      Due.is("settle(" + direction + ") of one body", one.settle(direction), steps[direction]);
    }
  }

  private static void promise8Wrong() {
    JammedBodies x = Due.with(10, 10);
    Due.is("settle(-1)", x.settle(-1), Due.INVALID);
    Due.is("settle(8)", x.settle(8), Due.INVALID);
    Due.is("count(6) behind errors", x.count(6), 1);
    Due.is("settle(0) of nothing", x.settle(0), 0);
    Due.is("count(6)", x.count(6), 2);
  }
}
