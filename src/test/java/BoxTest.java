/** Promises 1 to 5: a new object, box, put, remove, empty. */
public final class BoxTest {
  public static void main(String[] args) {
    promise1NewObject();
    promise2Box();
    promise2BoxWithBodies();
    promise3Put();
    promise3PutWithFaults();
    promise3Limit();
    promise4Remove();
    promise5Empty();
    Due.end();
  }

  private static void promise1NewObject() {
    JammedBodies x = new JammedBodies();
    int[] counts = {0, 20, 20, 0, 0, 0, 0, 0};
    for (int what = 0; what < counts.length; what++) {
      Due.is("new count(" + what + ")", x.count(what), counts[what]);
    }
    Due.is("new undo()", x.undo(), Due.IMPOSSIBLE);
    Due.is("new clearText()", x.clearText(), 0);
    Due.put(x, "0,0;4,0;4,4");
    JammedBodies other = new JammedBodies();
    Due.is("count(0) of another new object", other.count(0), 0);
    Due.is("count(7) of another new object", other.count(7), 0);
  }

  private static void promise2Box() {
    JammedBodies x = new JammedBodies();
    Due.is("box(10, 60)", x.box(10, 60), 2020);
    Due.is("count(1)", x.count(1), 10);
    Due.is("count(2)", x.count(2), 60);
    Due.is("box(60, 10)", x.box(60, 10), 1060);
    Due.is("box(60, 10) again", x.box(60, 10), 6010);
    Due.is("the same box is a change too", x.count(6), 3);
    int[][] wrong = {{9, 20}, {61, 20}, {20, 9}, {20, 61}, {0, 0}, {-20, 20}, {20, -20},
        {Integer.MAX_VALUE, 20}, {20, Integer.MIN_VALUE}};
    for (int[] size : wrong) {
      Due.is("box(" + size[0] + ", " + size[1] + ")", x.box(size[0], size[1]), Due.INVALID);
    }
    Due.is("count(1) behind errors", x.count(1), 60);
    Due.is("count(2) behind errors", x.count(2), 10);
    Due.is("count(6) behind errors", x.count(6), 3);
  }

  private static void promise2BoxWithBodies() {
    JammedBodies x = Due.with(30, 40, "1,1;2,1;1,2", "12,3;15,3;14,18");
    Due.is("box(14, 40)", x.box(14, 40), Due.IMPOSSIBLE);
    Due.is("box(30, 17)", x.box(30, 17), Due.IMPOSSIBLE);
    Due.is("box(9, 17), with a body that would be outside", x.box(9, 17), Due.INVALID);
    Due.is("box(14, 61), with a body that would be outside", x.box(14, 61), Due.INVALID);
    Due.is("count(6) behind errors", x.count(6), 3);
    Due.is("box(15, 18)", x.box(15, 18), 3040);
    JammedBodies first = Due.with(30, 40, "12,3;15,3;14,18", "1,1;2,1;1,2");
    Due.is("box(14, 40)", first.box(14, 40), Due.IMPOSSIBLE);
    Due.is("walls", x.bodyOf(1, 6), 10);
  }

  private static void promise3Put() {
    JammedBodies x = new JammedBodies();
    Due.is("put()", Due.put(x, "00,01;4,1;04,05"), 0);
    Due.is("the text stays", x.count(7), 15);
    Due.same("the body", Due.corners(x, 0), "0,1;4,1;4,5");
    Due.is("put() again", x.put(), Due.IMPOSSIBLE);
    Due.is("put() beside it, touching", Due.put(x, "0,1;4,5;0,5"), 1);
    Due.is("put() of a body with six corners", Due.put(x, "11,10;13,10;14,12;13,14;11,14;10,12"), 2);
    Due.same("the body", Due.corners(x, 2), "11,10;13,10;14,12;13,14;11,14;10,12");
    Due.is("count(0)", x.count(0), 3);
    Due.is("count(6)", x.count(6), 3);
    Due.is("put() of the whole box", Due.put(new JammedBodies(), "0,0;20,0;20,20;0,20"), 0);
  }

  private static void promise3PutWithFaults() {
    JammedBodies x = Due.with(20, 20, "0,0;4,0;4,4");
    String[] faults = {"", "0,0;4,0", "9,0;12,0;12,4;", "9,0;21,0;9,4", "9,0;9,4;12,0", "9,0;12,0;15,0", "3,0;9,0;9,9"};
    for (String fault : faults) {
      Due.is("put() of " + fault, Due.put(x, fault), Due.IMPOSSIBLE);
    }
    Due.is("count(0)", x.count(0), 1);
    Due.is("count(6)", x.count(6), 2);
  }

  private static void promise3Limit() {
    JammedBodies x = Due.with(20, 20);
    for (int k = 0; k < 8; k++) {
      Due.is("put() number " + k, Due.put(x, Due.rectangle(2 * k, 0, 2 * k + 2, 2)), k);
    }
    Due.is("put() of a ninth", Due.put(x, Due.rectangle(16, 0, 18, 2)), Due.LIMIT);
    Due.is("put() of a ninth with a fault", Due.put(x, Due.rectangle(15, 0, 18, 2)), Due.IMPOSSIBLE);
    Due.is("count(0)", x.count(0), 8);
    Due.is("undo()", x.undo(), 3);
    Due.is("count(0) behind undo", x.count(0), 7);
    Due.is("put() as the eighth", Due.put(x, Due.rectangle(16, 0, 18, 2)), 7);
  }

  private static void promise4Remove() {
    JammedBodies x = Due.with(20, 20, "0,0;1,0;0,1", "2,0;4,0;4,2;2,2", "5,0;8,0;5,3", "9,0;13,0;9,4");
    Due.is("remove(-1)", x.remove(-1), Due.INVALID);
    Due.is("remove(4)", x.remove(4), Due.INVALID);
    Due.is("remove(MAX)", x.remove(Integer.MAX_VALUE), Due.INVALID);
    Due.is("remove(1)", x.remove(1), 3);
    Due.same("body 0", Due.corners(x, 0), "0,0;1,0;0,1");
    Due.same("body 1", Due.corners(x, 1), "5,0;8,0;5,3");
    Due.same("body 2", Due.corners(x, 2), "9,0;13,0;9,4");
    Due.is("bodyOf(3, 0)", x.bodyOf(3, 0), Due.INVALID);
    Due.is("remove(2)", x.remove(2), 2);
    Due.is("remove(0)", x.remove(0), 1);
    Due.same("body 0", Due.corners(x, 0), "5,0;8,0;5,3");
    Due.is("remove(0)", x.remove(0), 0);
    Due.is("remove(0) of none", x.remove(0), Due.INVALID);
    Due.is("count(6)", x.count(6), 4);
    Due.is("undo()", x.undo(), 3);
    Due.same("body 0", Due.corners(x, 0), "5,0;8,0;5,3");
  }

  private static void promise5Empty() {
    JammedBodies x = Due.with(20, 30, "0,0;1,0;0,1", "2,0;4,0;4,2;2,2");
    Due.is("empty()", x.empty(), 2);
    Due.is("count(0)", x.count(0), 0);
    Due.is("the box stays", x.count(2), 30);
    Due.is("the text stays", x.count(7), 15);
    Due.is("empty() again", x.empty(), 0);
    Due.is("it is a change too, and the oldest is dropped", x.count(6), 4);
    Due.is("undo()", x.undo(), 3);
    Due.is("count(0)", x.count(0), 0);
    Due.is("undo()", x.undo(), 2);
    Due.is("count(0)", x.count(0), 2);
    Due.same("body 1", Due.corners(x, 1), "2,0;4,0;4,2;2,2");
  }
}
