/** Promises 9 to 17: bodyOf, parts, way, bodies, group, density, keystone, count, undo. */
public final class WhatThereIsTest {
  public static void main(String[] args) {
    promise9BodyOf();
    promise9Contacts();
    promise9Jammed();
    promise9Extent();
    promise9Wrong();
    promise10Parts();
    promise10EachSide();
    promise10NearestCorner();
    promise10Wrong();
    promise11Way();
    promise11Wrong();
    promise12Bodies();
    promise12Jammed();
    promise13Group();
    promise14Density();
    promise15Keystone();
    promise15Wrong();
    promise16Count();
    promise17Undo();
    promise17LongHistory();
    promise17EveryChange();
    Due.end();
  }

  private static void promise9BodyOf() {
    JammedBodies x = Due.with(20, 30, "5,7;9,6;12,9;11,13;6,12");
    int[] due = {5, 69, 5, 12, 6, 13, 0, 0, 255, 0, 5, 7, 9, 6, 12, 9, 11, 13, 6, 12, Due.MISSING, Due.MISSING};
    for (int what = 0; what < due.length; what++) {
      Due.is("bodyOf(0, " + what + ")", x.bodyOf(0, what), due[what]);
    }
    JammedBodies triangle = Due.with(20, 20, "0,0;1,0;0,1");
    Due.is("twice the area of half a square", triangle.bodyOf(0, 1), 1);
    Due.is("the x of a fourth corner", triangle.bodyOf(0, 16), Due.MISSING);
    Due.is("the y of a sixth corner", triangle.bodyOf(0, 21), Due.MISSING);
    Due.is("the y of the last corner", triangle.bodyOf(0, 15), 1);
    JammedBodies six = Due.with(20, 20, "2,0;4,0;6,2;4,4;2,4;0,2");
    Due.is("the x of the sixth corner", six.bodyOf(0, 20), 0);
    Due.is("the y of the sixth corner", six.bodyOf(0, 21), 2);
  }

  private static void promise9Contacts() {
    JammedBodies x = Due.with(10, 12, "0,5;2,4;2,6", "8,4;10,5;8,6", "5,0;7,0;6,2", "6,10;7,12;5,12");
    int[] walls = {1, 2, 4, 8};
    for (int k = 0; k < 4; k++) {
      Due.is("walls of body " + k, x.bodyOf(k, 6), walls[k]);
    }
    JammedBodies y = Due.with(10, 10, Due.rectangle(4, 4, 6, 6), "6,6;8,6;8,8", "2,5;4,5;2,7", "0,0;7,1;6,2", "6,3;7,2;9,4;7,5");
    Due.is("a corner at a corner, a corner at a side", y.bodyOf(0, 7), 2 + 4);
    Due.is("bodyOf(1, 7)", y.bodyOf(1, 7), 1);
    Due.is("bodyOf(2, 7)", y.bodyOf(2, 7), 1);
    Due.is("bodyOf(3, 7)", y.bodyOf(3, 7), 0);
    Due.is("bodyOf(4, 7)", y.bodyOf(4, 7), 0);
    Due.is("the whole box touches all walls", Due.with(10, 10, Due.rectangle(0, 0, 10, 10)).bodyOf(0, 6), 15);
    JammedBodies line = Due.with(10, 10, Due.rectangle(0, 0, 3, 3), Due.rectangle(5, 3, 8, 6));
    Due.is("on one line, but apart", line.bodyOf(0, 7), 0);
  }

  private static void promise9Jammed() {
    JammedBodies x = Due.with(10, 10, Due.rectangle(0, 0, 1, 1), Due.rectangle(1, 0, 2, 1), Due.rectangle(0, 1, 1, 2));
    Due.is("free directions of a body in the corner", x.bodyOf(0, 8), 2);
    Due.is("a body that is free aslant alone is jammed", x.bodyOf(0, 9), 1);
    Due.is("free directions of the body to the right", x.bodyOf(1, 8), 7);
    Due.is("the body to the right", x.bodyOf(1, 9), 0);
    Due.is("slide(1, 0, 1)", x.slide(1, 0, 1), 1);
    Due.is("free directions", x.bodyOf(0, 8), 3);
    Due.is("not jammed", x.bodyOf(0, 9), 0);
    String[] bars = {Due.rectangle(0, 0, 10, 9), Due.rectangle(0, 0, 9, 10), Due.rectangle(0, 1, 10, 10), Due.rectangle(1, 0, 10, 10)};
    int[] free = {4, 1, 64, 16};
    for (int k = 0; k < 4; k++) {
      JammedBodies one = Due.with(10, 10, bars[k]);
      Due.is("free directions of " + bars[k], one.bodyOf(0, 8), free[k]);
      Due.is("not jammed: " + bars[k], one.bodyOf(0, 9), 0);
    }
    Due.is("all of the box is jammed", Due.with(10, 10, Due.rectangle(0, 0, 10, 10)).bodyOf(0, 9), 1);
  }

  /** Whichever corner is the farthest one, it counts. */
  private static void promise9Extent() {
    String[] places = {"4,1", "7,2", "8,5", "6,8", "2,7", "1,3"};
    for (int first = 0; first < 6; first++) {
      StringBuilder text = new StringBuilder();
      for (int k = 0; k < 6; k++) {
        text.append(k > 0 ? ";" : "").append(places[(first + k) % 6]);
      }
      JammedBodies x = Due.with(10, 10, text.toString());
      int[] due = {1, 8, 1, 8};
      for (int what = 2; what < 6; what++) {
        Due.is("bodyOf(0, " + what + ") of " + text, x.bodyOf(0, what), due[what - 2]);
      }
      Due.is("twice the area of " + text, x.bodyOf(0, 1), 68);
      int[] steps = {2, 2, 2, 1, 1, 1, 1, 1};
      for (int direction = 0; direction < 8; direction++) {
        Due.is("way(0, " + direction + ", 0) of " + text, x.way(0, direction, 0), steps[direction]);
      }
    }
  }

  private static void promise9Wrong() {
    JammedBodies x = Due.with(20, 20, "0,0;4,0;4,4");
    Due.is("bodyOf(-1, 0)", x.bodyOf(-1, 0), Due.INVALID);
    Due.is("bodyOf(1, 0)", x.bodyOf(1, 0), Due.INVALID);
    Due.is("bodyOf(8, 0)", x.bodyOf(8, 0), Due.INVALID);
    Due.is("bodyOf(0, -1)", x.bodyOf(0, -1), Due.INVALID);
    Due.is("bodyOf(0, 22)", x.bodyOf(0, 22), Due.INVALID);
    Due.is("bodyOf(1, 21)", x.bodyOf(1, 21), Due.INVALID);
    Due.is("bodyOf(0, MAX)", x.bodyOf(0, Integer.MAX_VALUE), Due.INVALID);
    Due.is("bodyOf(0, MIN)", x.bodyOf(0, Integer.MIN_VALUE), Due.INVALID);
  }

  private static void promise10Parts() {
    JammedBodies x = Due.with(20, 20, "0,0;8,0;0,8", Due.rectangle(6, 3, 8, 5));
    Due.is("parts(0, 1, 0)", x.parts(0, 1, 0), 1);
    Due.is("parts(0, 1, 1)", x.parts(0, 1, 1), 0);
    Due.is("parts(0, 1, 2)", x.parts(0, 1, 2), 8);
    Due.is("parts(1, 0, 0): its own sides do not part", x.parts(1, 0, 0), 11);
    Due.is("parts(1, 0, 1)", x.parts(1, 0, 1), 0);
    Due.is("parts(1, 0, 2)", x.parts(1, 0, 2), 8);
    JammedBodies y = Due.with(20, 20, Due.rectangle(0, 0, 4, 4), Due.rectangle(6, 6, 9, 9));
    Due.is("of two sides that part the first one", y.parts(0, 1, 0), 1);
    Due.is("parts(0, 1, 2)", y.parts(0, 1, 2), 8);
    Due.is("parts(1, 0, 0)", y.parts(1, 0, 0), 0);
    Due.is("parts(1, 0, 1)", y.parts(1, 0, 1), 2);
    Due.is("parts(1, 0, 2)", y.parts(1, 0, 2), 6);
    JammedBodies last = Due.with(20, 20, Due.rectangle(6, 0, 9, 4), Due.rectangle(0, 0, 5, 4));
    Due.is("the side from the last corner to the first one", last.parts(0, 1, 0), 3);
    Due.is("parts(0, 1, 2)", last.parts(0, 1, 2), 4);
  }

  /** Each side of a body alone parts it from a body that touches it there, whichever side comes first. */
  private static void promise10EachSide() {
    String[] places = {"8,8", "12,8", "12,12", "8,12"};
    String[] others = {Due.rectangle(6, 4, 14, 8), Due.rectangle(12, 6, 16, 14), Due.rectangle(6, 12, 14, 16),
        Due.rectangle(4, 6, 8, 14)};
    for (int first = 0; first < 4; first++) {
      StringBuilder text = new StringBuilder();
      for (int k = 0; k < 4; k++) {
        text.append(k > 0 ? ";" : "").append(places[(first + k) % 4]);
      }
      for (int other = 0; other < 4; other++) {
        JammedBodies x = Due.with(20, 20, text.toString(), others[other]);
        Due.is("parts(0, 1, 0) of " + text + " and " + others[other], x.parts(0, 1, 0), (other + 4 - first) % 4);
        Due.is("parts(1, 0, 0)", x.parts(1, 0, 0), (other + 2) % 4);
        Due.is("they touch", x.bodyOf(0, 7), 2);
      }
    }
    JammedBodies corner = Due.with(10, 10, "0,0;3,0;0,3", "2,1;4,1;4,3");
    Due.is("a corner at a slope", corner.parts(1, 0, 0), 11);
    Due.is("they touch there", corner.bodyOf(1, 7), 1);
    JammedBodies hair = Due.with(20, 20, "0,0;7,0;0,5", "3,3;9,3;9,6");
    Due.is("as near as can be without a contact", hair.parts(0, 1, 2), 1);
    Due.is("no contact", hair.bodyOf(0, 7), 0);
    JammedBodies across = Due.with(20, 20, "0,0;7,0;0,5");
    Due.is("as little as can be across a side", Due.put(across, "4,2;9,5;5,6"), Due.IMPOSSIBLE);
  }

  private static void promise10NearestCorner() {
    JammedBodies x = Due.with(20, 20, Due.rectangle(0, 0, 4, 4), "9,1;9,3;7,4;7,2");
    Due.is("of two corners as near the one with the lower number", x.parts(0, 1, 1), 2);
    Due.is("parts(0, 1, 2)", x.parts(0, 1, 2), 12);
    JammedBodies y = Due.with(20, 20, Due.rectangle(0, 0, 4, 4), "4,2;8,0;8,4");
    Due.is("a corner on the line", y.parts(0, 1, 1), 0);
    Due.is("its triangle", y.parts(0, 1, 2), 0);
    JammedBodies z = Due.with(20, 20, Due.rectangle(0, 0, 4, 4), "8,4;5,2;8,0");
    Due.is("the nearest is neither the first nor the last", z.parts(0, 1, 1), 1);
    Due.is("its triangle", z.parts(0, 1, 2), 4);
  }

  private static void promise10Wrong() {
    JammedBodies x = Due.with(20, 20, Due.rectangle(0, 0, 4, 4), Due.rectangle(6, 6, 9, 9));
    int[][] wrong = {{0, 2, 0}, {2, 0, 0}, {-1, 0, 0}, {0, -1, 0}, {0, 0, 0}, {1, 1, 0}, {0, 1, -1}, {0, 1, 3},
        {0, Integer.MAX_VALUE, 0}, {Integer.MIN_VALUE, 1, 0}, {0, 1, Integer.MAX_VALUE}, {2, 2, 0}};
    for (int[] call : wrong) {
      Due.is("parts(" + call[0] + ", " + call[1] + ", " + call[2] + ")", x.parts(call[0], call[1], call[2]), Due.INVALID);
    }
  }

  private static void promise11Way() {
    JammedBodies x = Due.with(20, 20, Due.rectangle(0, 8, 2, 12), Due.rectangle(7, 6, 9, 9), Due.rectangle(7, 9, 9, 14),
        Due.rectangle(0, 14, 2, 16));
    int[][] due = {{5, 6, 0}, {8, 0, 8}, {2, 8, 0}, {0, 0, 1}, {0, 0, 1}, {0, 0, 1}, {8, 0, 4}, {8, 0, 4}};
    for (int direction = 0; direction < 8; direction++) {
      for (int what = 0; what < 3; what++) {
        Due.is("way(0, " + direction + ", " + what + ")", x.way(0, direction, what), due[direction][what]);
      }
    }
    Due.is("nothing has moved", x.bodyOf(0, 4), 8);
    Due.is("count(6)", x.count(6), 4);
    JammedBodies thin = Due.with(10, 10, Due.rectangle(0, 0, 1, 1), Due.rectangle(4, 0, 5, 1), Due.rectangle(5, 0, 6, 1),
        "0,5;2,6;0,6");
    Due.is("one step more, not two", thin.way(0, 0, 1), 2);
    Due.is("one step more, not two", thin.way(0, 2, 1), 0 + 8);
    JammedBodies corner = Due.with(10, 10, Due.rectangle(0, 0, 10, 10));
    int[] walls = {2, 10, 8, 9, 1, 5, 4, 6};
    for (int direction = 0; direction < 8; direction++) {
      Due.is("way(0, " + direction + ", 0)", corner.way(0, direction, 0), 0);
      Due.is("way(0, " + direction + ", 1)", corner.way(0, direction, 1), 0);
      Due.is("way(0, " + direction + ", 2)", corner.way(0, direction, 2), walls[direction]);
    }
    JammedBodies both = Due.with(10, 10, Due.rectangle(0, 0, 2, 2), Due.rectangle(1, 2, 3, 4));
    Due.is("a body that it would touch alone beyond the box", both.way(0, 3, 1), 0);
    Due.is("slide(0, 0, 2)", both.slide(0, 0, 2), 2);
    Due.is("slide(1, 4, 1)", both.slide(1, 4, 1), 1);
    Due.is("way(1, 5, 1)", both.way(1, 5, 1), 0);
    Due.is("way(1, 7, 1)", both.way(1, 7, 1), 1);
    JammedBodies beyond = Due.with(10, 10, Due.rectangle(0, 0, 3, 3), Due.rectangle(0, 3, 4, 5));
    Due.is("steps", beyond.way(0, 3, 0), 0);
    Due.is("a body in the way beyond the box", beyond.way(0, 3, 1), 2);
    Due.is("and a wall", beyond.way(0, 3, 2), 1);
  }

  private static void promise11Wrong() {
    JammedBodies x = Due.with(20, 20, Due.rectangle(0, 0, 4, 4));
    int[][] wrong = {{1, 0, 0}, {-1, 0, 0}, {0, -1, 0}, {0, 8, 0}, {0, 0, -1}, {0, 0, 3},
        {Integer.MAX_VALUE, 0, 0}, {0, Integer.MIN_VALUE, 0}, {0, 0, Integer.MAX_VALUE}};
    for (int[] call : wrong) {
      Due.is("way(" + call[0] + ", " + call[1] + ", " + call[2] + ")", x.way(call[0], call[1], call[2]), Due.INVALID);
    }
  }

  private static void promise12Bodies() {
    JammedBodies x = Due.with(20, 20, Due.rectangle(8, 8, 10, 10), Due.rectangle(5, 0, 7, 2), Due.rectangle(7, 2, 9, 4),
        Due.rectangle(7, 4, 8, 7), Due.rectangle(0, 12, 2, 14), Due.rectangle(18, 12, 20, 14), Due.rectangle(9, 18, 11, 20),
        Due.rectangle(10, 10, 12, 12));
    JammedBodies first = Due.with(20, 20, Due.rectangle(0, 0, 2, 2), Due.rectangle(6, 6, 8, 8), Due.rectangle(8, 8, 9, 9));
    Due.is("those that touch no body", first.bodies(1), 1);
    Due.is("those that touch a wall", first.bodies(2), 1);
    Due.is("those that hang together with the wall below", first.bodies(3), 1);
    Due.is("jammed", x.bodies(0), 0);
    Due.is("those that touch no body", x.bodies(1), 16 + 32 + 64);
    Due.is("those that touch a wall", x.bodies(2), 2 + 16 + 32 + 64);
    Due.is("those that hang together with the wall below", x.bodies(3), 2 + 4 + 8);
    Due.is("slide(3, 0, 1)", x.slide(3, 2, 1), 1);
    Due.is("those that touch no body, with the corner at a corner", x.bodies(1), 16 + 32 + 64);
    Due.is("those that hang together with the wall below", x.bodies(3), 2 + 4);
    int[] wrong = {-1, 4, Integer.MAX_VALUE, Integer.MIN_VALUE};
    for (int what : wrong) {
      Due.is("bodies(" + what + ")", x.bodies(what), Due.INVALID);
    }
    JammedBodies none = new JammedBodies();
    for (int what = 0; what < 4; what++) {
      Due.is("bodies(" + what + ") of none", none.bodies(what), 0);
    }
  }

  private static void promise12Jammed() {
    JammedBodies x = Due.with(10, 10, Due.rectangle(0, 0, 10, 3), Due.rectangle(0, 3, 5, 9), Due.rectangle(5, 3, 10, 10));
    Due.is("jammed", x.bodies(0), 5);
    JammedBodies chain = Due.with(10, 10, Due.rectangle(0, 7, 1, 8), Due.rectangle(0, 6, 1, 7), Due.rectangle(0, 5, 1, 6),
        Due.rectangle(0, 4, 1, 5), Due.rectangle(0, 3, 1, 4), Due.rectangle(0, 2, 1, 3), Due.rectangle(0, 1, 1, 2),
        Due.rectangle(0, 0, 1, 1));
    Due.is("a chain from the last body to the first one", chain.bodies(3), 255);
    Due.is("a group of all", chain.group(0), 255);
  }

  private static void promise13Group() {
    JammedBodies x = Due.with(20, 20, Due.rectangle(0, 0, 2, 2), Due.rectangle(10, 0, 12, 2), Due.rectangle(6, 0, 8, 2),
        Due.rectangle(2, 2, 4, 4), Due.rectangle(12, 1, 14, 3), Due.rectangle(4, 3, 6, 5));
    Due.is("group(-1)", x.group(-1), 3);
    Due.is("group(0)", x.group(0), 1 + 8 + 32);
    Due.is("group(1)", x.group(1), 2 + 16);
    Due.is("group(2)", x.group(2), 4);
    Due.is("group(3)", x.group(3), Due.MISSING);
    Due.is("group(MAX)", x.group(Integer.MAX_VALUE), Due.MISSING);
    Due.is("group(-2)", x.group(-2), Due.INVALID);
    Due.is("group(MIN)", x.group(Integer.MIN_VALUE), Due.INVALID);
    JammedBodies none = new JammedBodies();
    Due.is("group(-1) of none", none.group(-1), 0);
    Due.is("group(0) of none", none.group(0), Due.MISSING);
    Due.is("group(-2) of none", none.group(-2), Due.INVALID);
  }

  private static void promise14Density() {
    JammedBodies x = new JammedBodies();
    Due.is("density() of none", x.density(), 0);
    Due.put(x, "0,0;1,0;0,1");
    Due.is("density() of 1 / 800", x.density(), Float.floatToIntBits(1f / 800f));
    x.box(60, 60);
    Due.is("density() of 1 / 7200", x.density(), Float.floatToIntBits(1f / 7200f));
    Due.put(x, Due.rectangle(20, 20, 47, 59));
    Due.is("density() of 2107 / 7200", x.density(), Float.floatToIntBits(2107f / 7200f));
    Due.is("the whole box", Due.with(10, 60, Due.rectangle(0, 0, 10, 60)).density(), 0x3f800000);
    Due.is("half the box", Due.with(10, 60, Due.rectangle(0, 0, 10, 30)).density(), 0x3f000000);
    for (int width = 1; width <= 37; width++) {
      JammedBodies one = Due.with(37, 59, Due.rectangle(0, 0, width, width));
      float due = (float) (2 * width * width) / (float) (2 * 37 * 59);
      Due.is("density() of a square of " + width, one.density(), Float.floatToIntBits(due));
    }
  }

  private static void promise15Keystone() {
    JammedBodies x = Due.with(10, 20, Due.rectangle(0, 10, 2, 12), Due.rectangle(0, 4, 10, 5), Due.rectangle(8, 7, 10, 9));
    Due.is("without body 0: 4, 6; without 1: 10 and 7; without 2: 9 and 4", x.keystone(6, 0), 1);
    Due.is("keystone(6, 1)", x.keystone(6, 1), 17);
    Due.is("to the right body 0 alone goes: of those without which it does the lowest", x.keystone(0, 0), 1);
    Due.is("keystone(0, 1)", x.keystone(0, 1), 8);
    Due.is("without body 0: 2, 11, 11; without 1: 8 and 11; without 2: 8 and 13", x.keystone(2, 0), 0);
    Due.is("keystone(2, 1)", x.keystone(2, 1), 24);
    Due.is("nothing has moved", x.bodyOf(0, 4), 10);
    Due.is("count(0)", x.count(0), 3);
    Due.is("count(6)", x.count(6), 4);
    JammedBodies one = Due.with(10, 10, Due.rectangle(0, 0, 2, 2));
    Due.is("the only body", one.keystone(0, 0), 0);
    Due.is("without it none goes", one.keystone(0, 1), 0);
    JammedBodies same = Due.with(10, 10, Due.rectangle(0, 0, 2, 2), Due.rectangle(0, 4, 2, 6));
    Due.is("of several the lowest", same.keystone(0, 0), 0);
    Due.is("keystone(0, 1)", same.keystone(0, 1), 8);
  }

  private static void promise15Wrong() {
    JammedBodies x = new JammedBodies();
    Due.is("keystone(0, 0) of none", x.keystone(0, 0), Due.MISSING);
    Due.is("keystone(7, 1) of none", x.keystone(7, 1), Due.MISSING);
    int[][] wrong = {{-1, 0}, {8, 0}, {0, -1}, {0, 2}, {Integer.MAX_VALUE, 0}, {0, Integer.MIN_VALUE}};
    for (int[] call : wrong) {
      Due.is("keystone(" + call[0] + ", " + call[1] + ") of none", x.keystone(call[0], call[1]), Due.INVALID);
    }
    Due.put(x, Due.rectangle(0, 0, 2, 2));
    for (int[] call : wrong) {
      Due.is("keystone(" + call[0] + ", " + call[1] + ")", x.keystone(call[0], call[1]), Due.INVALID);
    }
  }

  private static void promise16Count() {
    JammedBodies x = Due.with(30, 40, Due.rectangle(0, 0, 2, 2), "2,0;5,0;2,3", "5,0;8,0;8,3;6,3", "10,10;12,9;14,11;12,13;9,12");
    int[] due = {4, 30, 40, 8 + 9 + 15 + 23, 4 + 3 + 4 + 5, 2, 4, 27};
    for (int what = 0; what < 8; what++) {
      Due.is("count(" + what + ")", x.count(what), due[what]);
    }
    JammedBodies four = Due.with(10, 10, Due.rectangle(0, 0, 2, 2), Due.rectangle(2, 0, 4, 2), Due.rectangle(0, 2, 2, 4),
        Due.rectangle(2, 2, 4, 4));
    Due.is("pairs of four that meet at a corner", four.count(5), 6);
    int[] wrong = {-1, 8, Integer.MAX_VALUE, Integer.MIN_VALUE};
    for (int what : wrong) {
      Due.is("count(" + what + ")", x.count(what), Due.INVALID);
    }
  }

  private static void promise17Undo() {
    JammedBodies x = Due.with(30, 40, Due.rectangle(0, 0, 2, 2));
    Due.typed(x, "12,12;14,12;14,14");
    Due.is("undo() of put", x.undo(), 1);
    Due.is("count(0)", x.count(0), 0);
    Due.is("the text stays", x.count(7), 17);
    Due.is("undo() of box", x.undo(), 0);
    Due.is("count(1)", x.count(1), 20);
    Due.is("count(2)", x.count(2), 20);
    Due.is("undo() of nothing", x.undo(), Due.IMPOSSIBLE);
    Due.is("put()", x.put(), 0);
    for (int k = 0; k < 5; k++) {
      Due.is("slide(0, 4, 1)", x.slide(0, 4, 1), 1);
    }
    Due.is("at most four states", x.count(6), 4);
    for (int left = 3; left >= 0; left--) {
      Due.is("undo()", x.undo(), left);
      Due.is("bodyOf(0, 2)", x.bodyOf(0, 2), 11 - left);
    }
    Due.is("the oldest ones are dropped", x.undo(), Due.IMPOSSIBLE);
    for (int k = 0; k < 3; k++) {
      Due.is("slide(0, 4, 1)", x.slide(0, 4, 1), 1);
    }
    Due.is("undo()", x.undo(), 2);
    Due.is("slide(0, 2, 1)", x.slide(0, 2, 1), 1);
    Due.is("undo()", x.undo(), 2);
    Due.is("undo()", x.undo(), 1);
    Due.is("bodyOf(0, 2)", x.bodyOf(0, 2), 10);
    Due.is("bodyOf(0, 4)", x.bodyOf(0, 4), 12);
  }

  private static void promise17LongHistory() {
    JammedBodies x = Due.with(60, 10, Due.rectangle(0, 0, 1, 1));
    for (int changes = 1; changes <= 40; changes++) {
      Due.is("slide(0, 0, 1)", x.slide(0, 0, 1), 1);
      Due.is("count(6)", x.count(6), Math.min(4, changes + 2));
      if (changes % 5 == 0) {
        for (int back = 1; back <= 4; back++) {
          Due.is("undo()", x.undo(), 4 - back);
          Due.is("bodyOf(0, 2)", x.bodyOf(0, 2), changes - back);
        }
        Due.is("undo() of what was dropped", x.undo(), Due.IMPOSSIBLE);
        for (int again = 1; again <= 4; again++) {
          Due.is("slide(0, 0, 1)", x.slide(0, 0, 1), 1);
        }
      } else {
        Due.is("undo()", x.undo(), Math.min(4, changes + 2) - 1);
        Due.is("bodyOf(0, 2)", x.bodyOf(0, 2), changes - 1);
        Due.is("slide(0, 0, 1)", x.slide(0, 0, 1), 1);
      }
    }
  }

  private static void promise17EveryChange() {
    JammedBodies x = Due.with(30, 40, "0,0;4,0;4,2", Due.rectangle(10, 10, 12, 11));
    int[] answers = {x.slide(0, 0, 3), x.turn(1), x.settle(2), x.remove(0)};
    int[] due = {3, 1, 38 + 28, 1};
    for (int k = 0; k < 4; k++) {
      Due.is("change " + k, answers[k], due[k]);
    }
    Due.is("undo() of remove", x.undo(), 3);
    Due.same("body 0", Due.corners(x, 0), "3,38;7,38;7,40");
    Due.same("body 1", Due.corners(x, 1), "11,38;11,40;10,40;10,38");
    Due.is("undo() of settle", x.undo(), 2);
    Due.same("body 0", Due.corners(x, 0), "3,0;7,0;7,2");
    Due.same("body 1", Due.corners(x, 1), "11,10;11,12;10,12;10,10");
    Due.is("undo() of turn", x.undo(), 1);
    Due.same("body 1", Due.corners(x, 1), Due.rectangle(10, 10, 12, 11));
    Due.is("undo() of slide", x.undo(), 0);
    Due.same("body 0", Due.corners(x, 0), "0,0;4,0;4,2");
    Due.is("empty()", x.empty(), 2);
    Due.is("errors are no changes", x.slide(0, 0, 1) + x.turn(0) + x.settle(9) + x.remove(0), 4 * Due.INVALID);
    Due.is("count(6)", x.count(6), 1);
    Due.is("undo() of empty", x.undo(), 0);
    Due.is("count(0)", x.count(0), 2);
  }
}
