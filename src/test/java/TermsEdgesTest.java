/** The boundaries that "Terms" names ahead of the promises: the box, bodies, directions and steps. */
public final class TermsEdgesTest {
  private static final int APART = 0;
  private static final int TOUCH = 1;
  private static final int OVERLAP = 2;

  public static void main(String[] args) {
    boxAtFirst();
    boxSizes();
    placesFrom0ToTheWidthAndHeight();
    atMost8Bodies();
    numbersBehindARemovedBody();
    threeToSixCorners();
    aCornerReallyTurnsToTheLeft();
    theLastSideGoesToTheFirstCorner();
    insidesAndPointsInCommon();
    insidesAndPointsOnSlopes();
    wallsArePointsOnThem();
    cornersOnTheLineOrToTheRight();
    onlyOneSideOfBothParts();
    directions0To7();
    stepsAtTheWalls();
    stepsIntoBodies();
    jammedByStraightStepsAlone();
    Due.end();
  }

  private static void boxAtFirst() {
    JammedBodies x = new JammedBodies();
    Due.is("the width at first", x.count(1), 20);
    Due.is("the height at first", x.count(2), 20);
    Due.is("box() tells them", x.box(11, 12), 2020);
    Due.is("the whole box at first", Due.put(new JammedBodies(), Due.rectangle(0, 0, 20, 20)), 0);
    Due.is("wider than the box at first", Due.put(new JammedBodies(), Due.rectangle(0, 0, 21, 20)), Due.IMPOSSIBLE);
    Due.is("higher than the box at first", Due.put(new JammedBodies(), Due.rectangle(0, 0, 20, 21)), Due.IMPOSSIBLE);
  }

  private static void boxSizes() {
    int[] other = {10, 33, 60};
    for (int size : other) {
      JammedBodies x = new JammedBodies();
      Due.is("a width of 10", x.box(10, size), 2020);
      Due.is("a width of 60", x.box(60, size), 1000 + size);
      Due.is("a width of 9", x.box(9, size), Due.INVALID);
      Due.is("a width of 61", x.box(61, size), Due.INVALID);
      Due.is("the width", x.count(1), 60);
      Due.is("the height", x.count(2), size);
      JammedBodies y = new JammedBodies();
      Due.is("a height of 10", y.box(size, 10), 2020);
      Due.is("a height of 60", y.box(size, 60), 100 * size + 10);
      Due.is("a height of 9", y.box(size, 9), Due.INVALID);
      Due.is("a height of 61", y.box(size, 61), Due.INVALID);
      Due.is("the width", y.count(1), size);
      Due.is("the height", y.count(2), 60);
    }
  }

  private static void placesFrom0ToTheWidthAndHeight() {
    int[][] sizes = {{10, 10}, {20, 20}, {60, 60}, {12, 35}, {35, 12}};
    for (int[] size : sizes) {
      int w = size[0];
      int h = size[1];
      Due.is("from 0 to the width and the height", Due.put(Due.with(w, h), Due.rectangle(0, 0, w, h)), 0);
      Due.is("one beyond the width", Due.put(Due.with(w, h), Due.rectangle(0, 0, w + 1, h)), Due.IMPOSSIBLE);
      Due.is("one beyond the height", Due.put(Due.with(w, h), Due.rectangle(0, 0, w, h + 1)), Due.IMPOSSIBLE);
    }
  }

  private static void atMost8Bodies() {
    JammedBodies x = Due.with(10, 10);
    for (int k = 0; k < 8; k++) {
      Due.is("count(0)", x.count(0), k);
      Due.is("body " + k, Due.put(x, Due.rectangle(k, 0, k + 1, 9)), k);
    }
    Due.is("a ninth body", Due.put(x, Due.rectangle(8, 0, 9, 9)), Due.LIMIT);
    Due.is("count(0)", x.count(0), 8);
    Due.is("the eighth is there", x.bodyOf(7, 2), 7);
    Due.is("the ninth is not", x.bodyOf(8, 2), Due.INVALID);
    Due.is("remove(0)", x.remove(0), 7);
    Due.is("the ninth as the eighth", x.put(), 7);
    Due.is("its place", x.bodyOf(7, 2), 8);
  }

  private static void numbersBehindARemovedBody() {
    for (int removed = 0; removed < 8; removed++) {
      JammedBodies x = Due.with(10, 10);
      for (int k = 0; k < 8; k++) {
        Due.put(x, "0," + k + ";9," + k + ";" + (k + 1) + "," + (k + 1) + ";0," + (k + 1));
      }
      Due.is("remove(" + removed + ")", x.remove(removed), 7);
      for (int k = 0; k < 7; k++) {
        int was = k < removed ? k : k + 1;
        Due.is("body " + k + " behind remove(" + removed + ")", x.bodyOf(k, 4), was);
        Due.is("the third corner of body " + k, x.bodyOf(k, 14), was + 1);
      }
      Due.is("bodyOf(7, 0)", x.bodyOf(7, 0), Due.INVALID);
      Due.is("remove(7)", x.remove(7), Due.INVALID);
    }
  }

  private static void threeToSixCorners() {
    String[] corners = {"4,0", "7,0", "9,2", "9,5", "7,7", "4,7", "2,4"};
    StringBuilder text = new StringBuilder();
    for (int many = 1; many <= 7; many++) {
      text.append(many > 1 ? ";" : "").append(corners[many - 1]);
      JammedBodies x = Due.with(10, 10);
      boolean body = many >= 3 && many <= 6;
      Due.is("put() of " + many + " corners", Due.put(x, text.toString()), body ? 0 : Due.IMPOSSIBLE);
      Due.is("its corners", x.bodyOf(0, 0), body ? many : Due.INVALID);
      Due.is("fault(1)", x.fault(1), body ? 4 : 1);
    }
  }

  /** Told from each corner, so that each number is that of the corner in question once. */
  private static void aCornerReallyTurnsToTheLeft() {
    String[][] bodies = {{"0,0", "2,1", "5,3", "0,10"}, {"0,0", "2,1", "4,2", "0,10"}, {"0,0", "3,2", "5,3", "0,10"},
        {"5,3", "5,3", "6,9", "0,10"}, {"0,0", "6,6", "3,3", "0,9"}};
    int[][] notToTheLeft = {{}, {1}, {1}, {0, 1}, {1, 2}};
    for (int kind = 0; kind < bodies.length; kind++) {
      for (int first = 0; first < 4; first++) {
        StringBuilder text = new StringBuilder();
        for (int k = 0; k < 4; k++) {
          text.append(k > 0 ? ";" : "").append(bodies[kind][(first + k) % 4]);
        }
        int cause = 4;
        for (int corner : notToTheLeft[kind]) {
          cause = Math.min(cause, (corner + 4 - first) % 4);
        }
        JammedBodies x = Due.typed(new JammedBodies(), text.toString());
        Due.is("fault(2) of " + text, x.fault(2), cause == 4 ? Due.MISSING : cause);
        Due.is("fault(1) of " + text, x.fault(1), cause == 4 ? Due.MISSING : 3);
        Due.is("put() of " + text, x.put(), cause == 4 ? 0 : Due.IMPOSSIBLE);
      }
    }
  }

  private static void theLastSideGoesToTheFirstCorner() {
    String slope = "6,2;4,4;2,4;0,2;2,0;4,0";
    JammedBodies x = Due.with(10, 10, Due.rectangle(5, 0, 7, 1), slope);
    Due.is("the last side of the other one", x.parts(0, 1, 0), 15);
    Due.is("the nearest corner", x.parts(0, 1, 1), 3);
    Due.is("the triangle", x.parts(0, 1, 2), 0);
    Due.is("the last side of the one", x.parts(1, 0, 0), 5);
    Due.is("they touch there", x.bodyOf(0, 7), 2);
    JammedBodies first = Due.with(10, 10, Due.rectangle(5, 0, 7, 1), "4,0;6,2;4,4;2,4;0,2;2,0");
    Due.is("the same side as the first one", first.parts(0, 1, 0), 10);
    Due.is("the same side as the first one", first.parts(1, 0, 0), 0);
    JammedBodies triangle = Due.with(10, 10, "4,9;0,9;0,5", Due.rectangle(3, 5, 5, 7));
    Due.is("the last side of a triangle", triangle.parts(0, 1, 0), 2);
    Due.is("and as that of the other one", triangle.parts(1, 0, 0), 12);
  }

  /** The second body is put beside the first one, which says whether they overlap; then it is asked for contacts. */
  private static void relation(String one, String other, int due) {
    JammedBodies x = Due.with(20, 20, one);
    String name = one + " and " + other;
    Due.is("put() of " + name, Due.put(x, other), due == OVERLAP ? Due.IMPOSSIBLE : 1);
    if (due == OVERLAP) {
      Due.is("the reason of " + name, x.fault(1), 4);
      return;
    }
    Due.is("bodyOf(0, 7) of " + name, x.bodyOf(0, 7), due == TOUCH ? 2 : 0);
    Due.is("bodyOf(1, 7) of " + name, x.bodyOf(1, 7), due == TOUCH ? 1 : 0);
    Due.is("count(5) of " + name, x.count(5), due == TOUCH ? 1 : 0);
    Due.is("bodies(1) of " + name, x.bodies(1), due == TOUCH ? 0 : 3);
    Due.is("group(-1) of " + name, x.group(-1), due == TOUCH ? 1 : 2);
  }

  private static void bothWays(String one, String other, int due) {
    relation(one, other, due);
    relation(other, one, due);
  }

  private static void insidesAndPointsInCommon() {
    String middle = Due.rectangle(8, 8, 12, 12);
    int[][] beside = {{12, 8, 14, 12}, {12, 9, 14, 11}, {12, 6, 14, 14}, {12, 11, 14, 16}, {12, 12, 14, 14},
        {6, 8, 8, 12}, {6, 6, 8, 8}, {6, 12, 8, 14}, {12, 6, 14, 8}, {8, 12, 12, 14}, {8, 6, 12, 8}};
    for (int[] at : beside) {
      bothWays(middle, Due.rectangle(at[0], at[1], at[2], at[3]), TOUCH);
    }
    int[][] away = {{13, 8, 15, 12}, {13, 12, 15, 14}, {12, 13, 14, 15}, {5, 8, 7, 12}, {8, 13, 12, 15}, {8, 5, 12, 7},
        {6, 13, 8, 14}, {12, 5, 14, 7}, {13, 13, 15, 15}};
    for (int[] at : away) {
      bothWays(middle, Due.rectangle(at[0], at[1], at[2], at[3]), APART);
    }
    int[][] over = {{11, 8, 14, 12}, {11, 11, 14, 14}, {6, 6, 9, 9}, {8, 8, 9, 9}, {9, 9, 11, 11}, {7, 7, 13, 13},
        {8, 8, 12, 12}, {9, 0, 11, 20}, {0, 9, 20, 11}, {8, 8, 12, 13}, {6, 11, 9, 14}, {11, 6, 14, 9}};
    for (int[] at : over) {
      bothWays(middle, Due.rectangle(at[0], at[1], at[2], at[3]), OVERLAP);
    }
    bothWays(middle, "12,10;14,9;14,11", TOUCH);
    bothWays(middle, "11,10;13,9;13,11", OVERLAP);
    bothWays(middle, "13,10;15,9;15,11", APART);
  }

  /** From a slope the corner in question is one unit of twice the area to the right, on it, or to the left. */
  private static void insidesAndPointsOnSlopes() {
    bothWays("0,0;7,0;0,5", "3,3;9,3;9,6", APART);
    bothWays("0,0;7,0;0,5", "4,2;9,5;5,6", OVERLAP);
    bothWays("0,0;7,0;0,5", "7,0;9,0;9,3", TOUCH);
    bothWays("0,0;6,0;0,4", "3,2;8,4;4,5", TOUCH);
    bothWays("0,0;7,0;0,5", "0,5;3,8;0,9", TOUCH);
    bothWays("0,0;6,0;0,4", "6,0;6,4;0,4", TOUCH);
    bothWays("0,0;6,0;0,4", "3,2;6,0;6,4", TOUCH);
    bothWays("0,0;6,0;0,4", "9,0;9,4;3,4", APART);
    bothWays("0,0;6,0;0,4", "0,0;6,4;0,4", OVERLAP);
    bothWays("0,0;6,0;0,4", "6,0;8,0;8,2", TOUCH);
    bothWays("0,0;6,0;0,4", "7,0;9,0;9,2", APART);
  }

  private static void wallsArePointsOnThem() {
    for (int away = 0; away < 2; away++) {
      for (int other = 0; other < 2; other++) {
        JammedBodies x = Due.with(13, 17, Due.rectangle(away, other, 13 - other, 17 - away));
        int walls = (away == 0 ? 1 + 8 : 0) + (other == 0 ? 2 + 4 : 0);
        Due.is("walls, " + away + " and " + other + " away", x.bodyOf(0, 6), walls);
        Due.is("bodies(2)", x.bodies(2), walls == 0 ? 0 : 1);
        Due.is("bodies(3)", x.bodies(3), other == 0 ? 1 : 0);
      }
    }
    String[] corners = {"0,8;5,6;5,10", "13,8;8,10;8,6", "6,0;8,5;4,5", "6,17;4,12;8,12"};
    String[] away = {"1,8;5,6;5,10", "12,8;8,10;8,6", "6,1;8,5;4,5", "6,16;4,12;8,12"};
    for (int wall = 0; wall < 4; wall++) {
      Due.is("a corner at wall " + wall, Due.with(13, 17, corners[wall]).bodyOf(0, 6), 1 << wall);
      Due.is("a corner one away from wall " + wall, Due.with(13, 17, away[wall]).bodyOf(0, 6), 0);
    }
  }

  private static void cornersOnTheLineOrToTheRight() {
    String square = Due.rectangle(0, 0, 4, 4);
    JammedBodies on = Due.with(20, 20, square, Due.rectangle(4, 4, 6, 6));
    Due.is("on the line of the side 1", on.parts(0, 1, 0), 1);
    Due.is("the nearest corner", on.parts(0, 1, 1), 0);
    Due.is("the triangle", on.parts(0, 1, 2), 0);
    JammedBodies left = Due.with(20, 20, square, Due.rectangle(3, 4, 6, 6));
    Due.is("one to the left of the side 1", left.parts(0, 1, 0), 2);
    JammedBodies right = Due.with(20, 20, square, Due.rectangle(5, 4, 6, 6));
    Due.is("one to the right of the side 1", right.parts(0, 1, 0), 1);
    Due.is("the triangle", right.parts(0, 1, 2), 4);
    JammedBodies back = Due.with(20, 20, Due.rectangle(5, 4, 6, 6), square);
    Due.is("on the line of the side 0", back.parts(0, 1, 0), 0);
    JammedBodies slope = Due.with(20, 20, "0,0;7,0;0,5", "3,3;9,3;9,6");
    Due.is("as little as can be to the right", slope.parts(0, 1, 0), 1);
    Due.is("the triangle", slope.parts(0, 1, 2), 1);
  }

  private static void onlyOneSideOfBothParts() {
    String hexagon = "2,0;4,0;6,2;4,4;2,4;0,2";
    String[] others = {"5,0;7,0;7,1;5,1", "5,3;7,3;7,4;5,4", "0,3;1,3;1,4;0,4", "0,0;1,0;1,1;0,1"};
    int[] sides = {1, 2, 4, 5};
    for (int k = 0; k < 4; k++) {
      JammedBodies x = Due.with(10, 10, hexagon, others[k]);
      Due.is("parts(0, 1, 0) of " + others[k], x.parts(0, 1, 0), sides[k]);
      Due.is("parts(1, 0, 0) of " + others[k], x.parts(1, 0, 0), 10 + sides[k]);
      Due.is("parts(1, 0, 2) of " + others[k], x.parts(1, 0, 2), 0);
    }
  }

  private static void directions0To7() {
    int[] wrong = {-1, 8};
    int[] right = {0, 7};
    for (int k = 0; k < 2; k++) {
      JammedBodies x = Due.with(20, 20, Due.rectangle(4, 4, 5, 5));
      Due.is("slide into " + wrong[k], x.slide(0, wrong[k], 1), Due.INVALID);
      Due.is("settle(" + wrong[k] + ")", x.settle(wrong[k]), Due.INVALID);
      Due.is("way into " + wrong[k], x.way(0, wrong[k], 0), Due.INVALID);
      Due.is("keystone(" + wrong[k] + ")", x.keystone(wrong[k], 0), Due.INVALID);
      Due.is("way into " + right[k], x.way(0, right[k], 0), k == 0 ? 15 : 4);
      Due.is("keystone(" + right[k] + ")", x.keystone(right[k], 0), 0);
      Due.is("slide into " + right[k], x.slide(0, right[k], 1), 1);
      Due.is("settle(" + right[k] + ")", x.settle(right[k]), k == 0 ? 14 : 3);
    }
  }

  /** Bodies as long as the box but for one place, so that one step in one way is free and no more. */
  private static void stepsAtTheWalls() {
    for (int right = 0; right < 2; right++) {
      for (int up = 0; up < 2; up++) {
        JammedBodies x = Due.with(10, 12, Due.rectangle(1 - right, 1 - up, 10 - right, 12 - up));
        int inX = right == 1 ? 1 : 16;
        int inY = up == 1 ? 4 : 64;
        int aslant = right == 1 ? up == 1 ? 2 : 128 : up == 1 ? 8 : 32;
        Due.is("free directions, " + right + " and " + up, x.bodyOf(0, 8), inX + inY + aslant);
        for (int direction = 0; direction < 8; direction++) {
          boolean free = (inX + inY + aslant >> direction & 1) == 1;
          Due.is("way(0, " + direction + ", 0)", x.way(0, direction, 0), free ? 1 : 0);
          JammedBodies y = Due.with(10, 12, Due.rectangle(1 - right, 1 - up, 10 - right, 12 - up));
          Due.is("slide(0, " + direction + ", 60)", y.slide(0, direction, 60), free ? 1 : Due.IMPOSSIBLE);
        }
      }
    }
  }

  /** Up to a contact a step is free, also through what is between; into another one it is not. */
  private static void stepsIntoBodies() {
    JammedBodies x = Due.with(10, 10, Due.rectangle(4, 4, 5, 5), Due.rectangle(5, 4, 6, 5), Due.rectangle(4, 6, 5, 7));
    Due.is("free directions", x.bodyOf(0, 8), 255 - 1);
    Due.is("way(0, 2, 0), up to a contact", x.way(0, 2, 0), 1);
    JammedBodies between = Due.with(10, 10, Due.rectangle(4, 4, 5, 5), "5,3;6,4;5,5", "4,5;5,5;4,6");
    Due.is("between two bodies", between.slide(0, 1, 1), 1);
    JammedBodies thin = Due.with(10, 10, "0,0;1,0;0,1", "1,0;1,1;0,1");
    Due.is("from one side of another one to the other side", thin.slide(0, 1, 1), 1);
    Due.is("the body behind it", thin.bodyOf(0, 2), 1);
    Due.is("they touch", thin.bodyOf(0, 7), 2);
    JammedBodies over = Due.with(10, 10, "0,0;2,0;0,2", "2,0;2,2;0,2");
    Due.is("not over another one", over.slide(0, 1, 1), Due.IMPOSSIBLE);
    Due.is("way(0, 1, 1)", over.way(0, 1, 1), 2);
  }

  private static void jammedByStraightStepsAlone() {
    String block = Due.rectangle(4, 4, 6, 6);
    String[] around = {Due.rectangle(6, 5, 7, 6), Due.rectangle(4, 6, 5, 7), Due.rectangle(3, 4, 4, 5),
        Due.rectangle(5, 3, 6, 4)};
    for (int number = 0; number <= 4; number++) {
      String[] all = new String[5];
      for (int k = 0; k < 5; k++) {
        all[k] = k == number ? block : around[k < number ? k : k - 1];
      }
      JammedBodies x = Due.with(10, 10, all);
      for (int k = 0; k < 5; k++) {
        Due.is("body " + k + ", where " + number + " is jammed on four sides", x.bodyOf(k, 9), k == number ? 1 : 0);
      }
      Due.is("its free directions", x.bodyOf(number, 8), 0);
      Due.is("bodies(0)", x.bodies(0), 1 << number);
    }
    for (int open = 0; open < 4; open++) {
      String[] three = new String[3];
      for (int k = 0; k < 3; k++) {
        three[k] = around[(open + 1 + k) % 4];
      }
      JammedBodies x = Due.with(10, 10, block, three[0], three[1], three[2]);
      Due.is("free in the direction " + 2 * open, x.bodyOf(0, 8) & 1 << 2 * open, 1 << 2 * open);
      Due.is("so it is not jammed", x.bodyOf(0, 9), 0);
      Due.is("bodies(0)", x.bodies(0), 0);
    }
    JammedBodies corner = Due.with(10, 10, Due.rectangle(0, 0, 1, 1), Due.rectangle(1, 0, 2, 1), Due.rectangle(0, 1, 1, 2));
    Due.is("free aslant alone", corner.bodyOf(0, 8), 2);
    Due.is("it is jammed", corner.bodyOf(0, 9), 1);
    Due.is("bodies(0)", corner.bodies(0), 1);
  }
}
