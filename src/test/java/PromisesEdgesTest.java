/** The boundaries that the promises 1 to 17 name, each promise by itself. */
public final class PromisesEdgesTest {
  public static void main(String[] args) {
    promise1ANewObject();
    promise2SizesAsTheyWere();
    promise2ABodyWouldNotBeInTheBox();
    promise3ItsNumberAndTheText();
    promise4HowManyThereAre();
    promise5HowManyThereWere();
    promise6HowManyStepsAtMost();
    promise6AsLongAsStepsAreFree();
    promise7InTheBox();
    promise7IntoAnotherBody();
    promise7CornersKeepTheirNumbers();
    promise8UntilARoundInWhichNoneGoes();
    promise8InOrder();
    promise9What();
    promise9NoSuchCorner();
    promise10What();
    promise10TheFirstSide();
    promise10TheLeastOfTheCorners();
    promise11What();
    promise11OneStepMore();
    promise12What();
    promise12AndSoOn();
    promise13Index();
    promise13LowestBodies();
    promise14Bits();
    promise15What();
    promise15OfSeveralTheLowest();
    promise15NoBodyAndOne();
    promise16What();
    promise17Empty();
    Due.end();
  }

  private static String bar(int k) {
    return Due.rectangle(k, 0, k + 1, 1);
  }

  private static JammedBodies bars(int many) {
    JammedBodies x = Due.with(10, 10);
    for (int k = 0; k < many; k++) {
      Due.is("put() of bar " + k, Due.put(x, bar(k)), k);
    }
    return x;
  }

  private static void promise1ANewObject() {
    JammedBodies x = new JammedBodies();
    int[] counts = {0, 20, 20, 0, 0, 0, 0, 0};
    for (int what = 0; what < 8; what++) {
      Due.is("count(" + what + ")", x.count(what), counts[what]);
    }
    for (int what = 0; what < 4; what++) {
      Due.is("bodies(" + what + ")", x.bodies(what), 0);
    }
    Due.is("group(-1)", x.group(-1), 0);
    Due.is("group(0)", x.group(0), Due.MISSING);
    Due.is("density()", x.density(), 0);
    Due.is("keystone(0, 0)", x.keystone(0, 0), Due.MISSING);
    Due.is("bodyOf(0, 0)", x.bodyOf(0, 0), Due.INVALID);
    Due.is("undo()", x.undo(), Due.IMPOSSIBLE);
    Due.is("fault(1)", x.fault(1), 1);
  }

  private static void promise2SizesAsTheyWere() {
    JammedBodies x = new JammedBodies();
    int[][] sizes = {{10, 10}, {60, 60}, {10, 60}, {60, 10}, {59, 11}, {11, 59}};
    int was = 2020;
    for (int[] size : sizes) {
      Due.is("box(" + size[0] + ", " + size[1] + ")", x.box(size[0], size[1]), was);
      was = 100 * size[0] + size[1];
    }
    Due.is("box(61, 11)", x.box(61, 11), Due.INVALID);
    Due.is("box(20, 20)", x.box(20, 20), 1159);
  }

  /** Of several bodies each one may be that which would not be in the box. */
  private static void promise2ABodyWouldNotBeInTheBox() {
    String[] orders = {"10,1;11,1;11,2", "1,12;2,12;2,13", "1,1;2,1;2,2"};
    for (int first = 0; first < 3; first++) {
      JammedBodies x = Due.with(20, 20, orders[first], orders[(first + 1) % 3], orders[(first + 2) % 3]);
      Due.is("one less than the width it needs", x.box(10, 20), Due.IMPOSSIBLE);
      Due.is("one less than the height it needs", x.box(20, 12), Due.IMPOSSIBLE);
      Due.is("one less in both", x.box(10, 12), Due.IMPOSSIBLE);
      Due.is("count(1)", x.count(1), 20);
      Due.is("count(2)", x.count(2), 20);
      Due.is("just the width and the height", x.box(11, 13), 2020);
      Due.is("count(1)", x.count(1), 11);
      Due.is("count(2)", x.count(2), 13);
    }
  }

  private static void promise3ItsNumberAndTheText() {
    JammedBodies x = bars(7);
    Due.is("the eighth", Due.put(x, bar(7)), 7);
    Due.is("the text stays", x.count(7), 15);
    Due.is("it overlaps its own body now", x.put(), Due.IMPOSSIBLE);
    Due.is("the text stays", x.count(7), 15);
    Due.is("a ninth", Due.put(x, bar(8)), Due.LIMIT);
    Due.is("the text stays", x.count(7), 15);
    Due.is("remove(3)", x.remove(3), 7);
    Due.is("the ninth", x.put(), 7);
  }

  private static void promise4HowManyThereAre() {
    for (int many = 1; many <= 8; many++) {
      JammedBodies first = bars(many);
      JammedBodies last = bars(many);
      for (int left = many - 1; left >= 0; left--) {
        Due.is("remove() of the first one", first.remove(0), left);
        Due.is("remove() of one behind the last one", last.remove(left + 1), Due.INVALID);
        Due.is("remove() of the last one", last.remove(left), left);
        Due.is("count(0)", first.count(0), left);
        Due.is("the first one then", first.bodyOf(0, 2), left == 0 ? Due.INVALID : many - left);
        Due.is("the first one still", last.bodyOf(0, 2), left == 0 ? Due.INVALID : 0);
      }
      Due.is("remove(0) of none", first.remove(0), Due.INVALID);
    }
  }

  private static void promise5HowManyThereWere() {
    for (int many = 0; many <= 8; many++) {
      JammedBodies x = bars(many);
      Due.is("empty() of " + many, x.empty(), many);
      Due.is("count(0)", x.count(0), 0);
      Due.is("bodyOf(0, 0)", x.bodyOf(0, 0), Due.INVALID);
      Due.is("empty() again", x.empty(), 0);
      Due.is("put() of another one", Due.put(x, bar(0)), 0);
    }
  }

  private static void promise6HowManyStepsAtMost() {
    int[] mosts = {0, 1, 2, 57, 58, 59, 60, 61};
    int[] steps = {Due.INVALID, 1, 2, 57, 58, 59, 59, Due.INVALID};
    for (int k = 0; k < mosts.length; k++) {
      JammedBodies x = Due.with(60, 10, Due.rectangle(0, 0, 1, 1));
      Due.is("slide(0, 0, " + mosts[k] + ")", x.slide(0, 0, mosts[k]), steps[k]);
      Due.is("its place", x.bodyOf(0, 2), Math.max(0, steps[k]));
    }
  }

  private static void promise6AsLongAsStepsAreFree() {
    for (int gap = 0; gap <= 3; gap++) {
      for (int most = 1; most <= 4; most++) {
        JammedBodies x = Due.with(10, 10, Due.rectangle(0, 0, 2, 2), Due.rectangle(2 + gap, 1, 4 + gap, 3));
        int due = Math.min(gap, most);
        Due.is("slide(0, 0, " + most + ") over " + gap, x.slide(0, 0, most), due == 0 ? Due.IMPOSSIBLE : due);
        Due.is("its place", x.bodyOf(0, 2), due);
        Due.is("count(6)", x.count(6), due == 0 ? 3 : 4);
        JammedBodies y = Due.with(10, 10, Due.rectangle(0, 8 - gap, 2, 10 - gap));
        Due.is("slide(0, 2, " + most + ") over " + gap, y.slide(0, 2, most), due == 0 ? Due.IMPOSSIBLE : due);
        Due.is("its place", y.bodyOf(0, 5), 10 - gap + due);
        JammedBodies z = Due.with(10, 10, Due.rectangle(gap, 5, 2 + gap, 7));
        Due.is("slide(0, 5, " + most + ") over " + gap, z.slide(0, 5, most), due == 0 ? Due.IMPOSSIBLE : due);
        Due.is("its place", z.bodyOf(0, 4), 5 - due);
      }
    }
  }

  /** A bar that is higher than wide needs room to the right when it is turned, and one that is wide room above. */
  private static void promise7InTheBox() {
    JammedBodies high = Due.with(12, 10, Due.rectangle(7, 0, 8, 5));
    Due.is("just to the wall", high.turn(0), 5);
    Due.same("the body", Due.corners(high, 0), "12,0;12,1;7,1;7,0");
    JammedBodies tooHigh = Due.with(12, 10, Due.rectangle(8, 0, 9, 5));
    Due.is("one beyond the wall", tooHigh.turn(0), Due.IMPOSSIBLE);
    Due.same("the body", Due.corners(tooHigh, 0), Due.rectangle(8, 0, 9, 5));
    JammedBodies wide = Due.with(10, 12, Due.rectangle(0, 7, 5, 8));
    Due.is("just to the wall", wide.turn(0), 1);
    Due.same("the body", Due.corners(wide, 0), "1,7;1,12;0,12;0,7");
    JammedBodies tooWide = Due.with(10, 12, Due.rectangle(0, 8, 5, 9));
    Due.is("one beyond the wall", tooWide.turn(0), Due.IMPOSSIBLE);
    Due.same("the body", Due.corners(tooWide, 0), Due.rectangle(0, 8, 5, 9));
  }

  private static void promise7IntoAnotherBody() {
    JammedBodies touch = Due.with(12, 12, Due.rectangle(2, 2, 3, 6), Due.rectangle(6, 2, 8, 4));
    Due.is("just to another one", touch.turn(0), 4);
    Due.is("they touch", touch.bodyOf(0, 7), 2);
    JammedBodies over = Due.with(12, 12, Due.rectangle(2, 2, 3, 6), Due.rectangle(5, 2, 8, 4));
    Due.is("one into another one", over.turn(0), Due.IMPOSSIBLE);
    Due.same("the body", Due.corners(over, 0), Due.rectangle(2, 2, 3, 6));
    JammedBodies under = Due.with(12, 12, Due.rectangle(5, 2, 8, 4), Due.rectangle(2, 2, 3, 6));
    Due.is("one into a lower one", under.turn(1), Due.IMPOSSIBLE);
    JammedBodies own = Due.with(12, 12, Due.rectangle(2, 2, 6, 6));
    Due.is("a body is not in its own way", own.turn(0), 4);
  }

  private static void promise7CornersKeepTheirNumbers() {
    JammedBodies x = Due.with(20, 20, "5,3;8,4;9,7;6,9;3,8;3,5");
    Due.is("turn(0)", x.turn(0), 6);
    Due.same("the body", Due.corners(x, 0), "9,5;8,8;5,9;3,6;4,3;7,3");
    Due.is("twice its area", x.bodyOf(0, 1), 51);
    Due.is("turn(0)", x.turn(0), 6);
    Due.is("turn(0)", x.turn(0), 6);
    Due.is("turn(0)", x.turn(0), 6);
    Due.same("the body", Due.corners(x, 0), "5,3;8,4;9,7;6,9;3,8;3,5");
  }

  private static void promise8UntilARoundInWhichNoneGoes() {
    JammedBodies none = new JammedBodies();
    Due.is("settle(0) of none", none.settle(0), 0);
    JammedBodies still = bars(8);
    Due.is("settle(6) of bodies that can't go", still.settle(6), 0);
    Due.is("settle(4) of bodies that can't go", still.settle(4), 0);
    Due.is("settle(0): eight rounds of one body each, and one in which none goes", still.settle(0), 16);
    for (int k = 0; k < 8; k++) {
      Due.is("bar " + k, still.bodyOf(k, 2), k + 2);
    }
    Due.is("settle(0) again", still.settle(0), 0);
    JammedBodies all = Due.with(60, 60);
    for (int k = 0; k < 8; k++) {
      Due.put(all, bar(k));
    }
    Due.is("eight bodies as far as can be", all.settle(0), 8 * 52);
    Due.is("and up", all.settle(2), 8 * 59);
    JammedBodies aslant = Due.with(60, 60, bar(0), Due.rectangle(1, 1, 2, 2), Due.rectangle(2, 2, 3, 3));
    Due.is("three rounds aslant", aslant.settle(1), 57 * 3);
  }

  /** A body goes as far as it goes before the next one does, so that the order tells where they come to rest. */
  private static void promise8InOrder() {
    String low = Due.rectangle(0, 2, 2, 4);
    String high = Due.rectangle(2, 5, 4, 7);
    JammedBodies one = Due.with(10, 10, low, high);
    Due.is("settle(7)", one.settle(7), 5 + 2);
    Due.same("the first one", Due.corners(one, 0), Due.rectangle(2, 0, 4, 2));
    Due.same("the other one", Due.corners(one, 1), Due.rectangle(7, 0, 9, 2));
    JammedBodies step = Due.with(10, 10, Due.rectangle(0, 0, 2, 2), Due.rectangle(3, 0, 5, 2));
    Due.is("settle(0): 1 and 5, then 5", step.settle(0), 11);
    Due.is("settle(4): 6, then 6", step.settle(4), 6 + 6);
  }

  private static void promise9What() {
    JammedBodies x = Due.with(10, 12, "2,0;4,0;6,2;4,4;2,4;0,2", Due.rectangle(6, 2, 9, 12));
    int[] due = {6, 32, 0, 6, 0, 4, 5, 2, 4, 0, 2, 0, 4, 0, 6, 2, 4, 4, 2, 4, 0, 2};
    Due.is("bodyOf(0, -1)", x.bodyOf(0, -1), Due.INVALID);
    for (int what = 0; what < due.length; what++) {
      Due.is("bodyOf(0, " + what + ")", x.bodyOf(0, what), due[what]);
    }
    Due.is("bodyOf(0, 22)", x.bodyOf(0, 22), Due.INVALID);
    Due.is("bodyOf(0, 23)", x.bodyOf(0, 23), Due.INVALID);
    Due.is("bodyOf(1, 22)", x.bodyOf(1, 22), Due.INVALID);
    Due.is("bodyOf(1, 18)", x.bodyOf(1, 18), Due.MISSING);
    Due.is("bodyOf(2, 0)", x.bodyOf(2, 0), Due.INVALID);
    Due.is("bodyOf(-1, 0)", x.bodyOf(-1, 0), Due.INVALID);
    Due.is("bodyOf(MIN, MIN)", x.bodyOf(Integer.MIN_VALUE, Integer.MIN_VALUE), Due.INVALID);
  }

  private static void promise9NoSuchCorner() {
    String[] corners = {"2,0", "4,0", "6,2", "4,4", "2,4", "0,2"};
    StringBuilder text = new StringBuilder("2,0;4,0");
    for (int many = 3; many <= 6; many++) {
      JammedBodies x = Due.with(10, 10, text.append(';').append(corners[many - 1]).toString());
      for (int corner = 0; corner < 6; corner++) {
        boolean there = corner < many;
        int inX = corners[corner].charAt(0) - '0';
        int inY = corners[corner].charAt(2) - '0';
        Due.is("the x of corner " + corner + " of " + many, x.bodyOf(0, 10 + 2 * corner), there ? inX : Due.MISSING);
        Due.is("the y of corner " + corner + " of " + many, x.bodyOf(0, 11 + 2 * corner), there ? inY : Due.MISSING);
      }
      Due.is("the corner 6", x.bodyOf(0, 22), Due.INVALID);
    }
  }

  private static void promise10What() {
    JammedBodies x = Due.with(20, 20, Due.rectangle(0, 0, 4, 4), Due.rectangle(6, 0, 9, 3));
    int[] due = {Due.INVALID, 1, 0, 8, Due.INVALID};
    int[] back = {Due.INVALID, 3, 1, 6, Due.INVALID};
    for (int what = -1; what <= 3; what++) {
      Due.is("parts(0, 1, " + what + ")", x.parts(0, 1, what), due[what + 1]);
      Due.is("parts(1, 0, " + what + ")", x.parts(1, 0, what), back[what + 1]);
      Due.is("parts(0, 0, " + what + ")", x.parts(0, 0, what), Due.INVALID);
      Due.is("parts(1, 1, " + what + ")", x.parts(1, 1, what), Due.INVALID);
      Due.is("parts(0, 2, " + what + ")", x.parts(0, 2, what), Due.INVALID);
      Due.is("parts(2, 0, " + what + ")", x.parts(2, 0, what), Due.INVALID);
      Due.is("parts(-1, 0, " + what + ")", x.parts(-1, 0, what), Due.INVALID);
      Due.is("parts(0, -1, " + what + ")", x.parts(0, -1, what), Due.INVALID);
    }
  }

  private static void promise10TheFirstSide() {
    int[][] beside = {{6, 6, 8, 8}, {6, 0, 8, 2}, {0, 6, 2, 8}, {6, 12, 8, 14}, {12, 6, 14, 8}, {12, 12, 14, 14},
        {0, 12, 2, 14}, {12, 0, 14, 2}, {0, 0, 2, 2}};
    int[] sides = {-1, 0, 3, 2, 1, 1, 2, 0, 0};
    for (int k = 1; k < beside.length; k++) {
      int[] at = beside[k];
      JammedBodies x = Due.with(20, 20, Due.rectangle(4, 4, 10, 10), Due.rectangle(at[0], at[1], at[2], at[3]));
      Due.is("the first side that parts it from " + Due.corners(x, 1), x.parts(0, 1, 0), sides[k]);
    }
  }

  /** The nearest corner, and with it the triangle, for each number; of two at the same distance the lower one. */
  private static void promise10TheLeastOfTheCorners() {
    String[] corners = {"8,2", "10,0", "12,2", "10,4"};
    for (int first = 0; first < 4; first++) {
      StringBuilder text = new StringBuilder();
      for (int k = 0; k < 4; k++) {
        text.append(k > 0 ? ";" : "").append(corners[(first + k) % 4]);
      }
      JammedBodies x = Due.with(20, 20, Due.rectangle(0, 0, 4, 4), text.toString());
      Due.is("the nearest corner of " + text, x.parts(0, 1, 1), (4 - first) % 4);
      Due.is("the triangle", x.parts(0, 1, 2), 16);
    }
    int[] due = {0, 2, 1, 0};
    String[] square = {"8,0", "10,0", "10,2", "8,2"};
    for (int first = 0; first < 4; first++) {
      StringBuilder text = new StringBuilder();
      for (int k = 0; k < 4; k++) {
        text.append(k > 0 ? ";" : "").append(square[(first + k) % 4]);
      }
      JammedBodies x = Due.with(20, 20, Due.rectangle(0, 0, 4, 4), text.toString());
      Due.is("the nearest corner of " + text, x.parts(0, 1, 1), due[first]);
    }
    JammedBodies low = Due.with(10, 10, "0,2;4,6;0,6", "4,0;4,4;0,0");
    Due.is("two corners along a slope, of which one is at 0,0", low.parts(0, 1, 1), 1);
    Due.is("the triangle", low.parts(0, 1, 2), 8);
  }

  private static void promise11What() {
    JammedBodies x = Due.with(10, 10, Due.rectangle(0, 0, 2, 2), Due.rectangle(5, 1, 7, 3));
    int[] due = {Due.INVALID, 3, 2, 0, Due.INVALID};
    for (int what = -1; what <= 3; what++) {
      Due.is("way(0, 0, " + what + ")", x.way(0, 0, what), due[what + 1]);
      Due.is("way(2, 0, " + what + ")", x.way(2, 0, what), Due.INVALID);
      Due.is("way(-1, 0, " + what + ")", x.way(-1, 0, what), Due.INVALID);
      Due.is("way(0, -1, " + what + ")", x.way(0, -1, what), Due.INVALID);
      Due.is("way(0, 8, " + what + ")", x.way(0, 8, what), Due.INVALID);
    }
    JammedBodies wide = Due.with(60, 60, Due.rectangle(0, 0, 1, 1));
    Due.is("as many steps as can be", wide.way(0, 0, 0), 59);
    Due.is("aslant", wide.way(0, 1, 0), 59);
    Due.is("both walls", wide.way(0, 1, 2), 2 + 8);
    Due.is("no body", wide.way(0, 1, 1), 0);
  }

  private static void promise11OneStepMore() {
    JammedBodies x = Due.with(10, 10, Due.rectangle(0, 0, 4, 2), Due.rectangle(0, 5, 1, 6), Due.rectangle(1, 5, 2, 7),
        Due.rectangle(3, 6, 5, 7), Due.rectangle(4, 5, 6, 6));
    Due.is("way(0, 2, 0)", x.way(0, 2, 0), 3);
    Due.is("several bodies at once, and none that it would touch", x.way(0, 2, 1), 2 + 4);
    Due.is("way(0, 2, 2)", x.way(0, 2, 2), 0);
    JammedBodies beyond = Due.with(10, 10, Due.rectangle(7, 0, 9, 2), Due.rectangle(8, 3, 10, 5), Due.rectangle(5, 3, 7, 5));
    Due.is("way(0, 1, 0)", beyond.way(0, 1, 0), 1);
    Due.is("a body beyond the box", beyond.way(0, 1, 1), 2);
    Due.is("and the wall", beyond.way(0, 1, 2), 2);
    JammedBodies lone = Due.with(10, 10, Due.rectangle(0, 0, 10, 10));
    int[] walls = {2, 2 + 8, 8, 1 + 8, 1, 1 + 4, 4, 2 + 4};
    for (int direction = 0; direction < 8; direction++) {
      Due.is("no step in the direction " + direction, lone.way(0, direction, 0), 0);
      Due.is("its walls", lone.way(0, direction, 2), walls[direction]);
    }
  }

  private static void promise12What() {
    JammedBodies x = bars(8);
    int[] due = {Due.INVALID, 0, 0, 255, 255, Due.INVALID};
    for (int what = -1; what <= 4; what++) {
      Due.is("bodies(" + what + ")", x.bodies(what), due[what + 1]);
    }
    JammedBodies apart = Due.with(20, 20);
    for (int k = 0; k < 8; k++) {
      Due.put(apart, Due.rectangle(2 * k + 1, 1, 2 * k + 2, 2));
    }
    Due.is("all touch none", apart.bodies(1), 255);
    Due.is("no walls", apart.bodies(2), 0);
    Due.is("none hangs together with the wall below", apart.bodies(3), 0);
    JammedBodies one = Due.with(10, 10, Due.rectangle(0, 0, 10, 10));
    Due.is("all the box is jammed", one.bodies(0), 1);
  }

  /** A chain of eight from the wall below, in each of two orders; it breaks where a body goes one step aside. */
  private static void promise12AndSoOn() {
    for (int broken = 0; broken < 9; broken++) {
      JammedBodies up = Due.with(20, 20);
      JammedBodies down = Due.with(20, 20);
      for (int k = 0; k < 8; k++) {
        Due.put(up, link(k, broken));
        Due.put(down, link(7 - k, broken));
      }
      Due.is("upwards, broken at " + broken, up.bodies(3), (1 << Math.min(8, broken)) - 1);
      Due.is("downwards, broken at " + broken, down.bodies(3), 256 - (1 << 8 - Math.min(8, broken)));
    }
  }

  private static String link(int k, int broken) {
    int up = k >= broken ? 1 : 0;
    return Due.rectangle(2, 2 * k + up, 4, 2 * k + 2 + up);
  }

  private static void promise13Index() {
    for (int many = 0; many <= 8; many++) {
      JammedBodies x = Due.with(20, 20);
      for (int k = 0; k < many; k++) {
        Due.put(x, Due.rectangle(2 * k, 0, 2 * k + 1, 1));
      }
      Due.is("group(-2)", x.group(-2), Due.INVALID);
      Due.is("group(-1)", x.group(-1), many);
      for (int index = 0; index < many; index++) {
        Due.is("group(" + index + ")", x.group(index), 1 << index);
      }
      Due.is("group(" + many + ")", x.group(many), Due.MISSING);
      Due.is("group(8)", x.group(8), Due.MISSING);
      Due.is("group(MAX)", x.group(Integer.MAX_VALUE), Due.MISSING);
      Due.is("group(MIN)", x.group(Integer.MIN_VALUE), Due.INVALID);
    }
    JammedBodies all = bars(8);
    Due.is("one group of all", all.group(-1), 1);
    Due.is("group(0)", all.group(0), 255);
    Due.is("group(1)", all.group(1), Due.MISSING);
  }

  private static void promise13LowestBodies() {
    JammedBodies x = Due.with(20, 20, bar(9), bar(0), bar(4), bar(1), bar(10), bar(5), bar(15), bar(6));
    Due.is("group(-1)", x.group(-1), 4);
    Due.is("group(0)", x.group(0), 1 + 16);
    Due.is("group(1)", x.group(1), 2 + 8);
    Due.is("group(2)", x.group(2), 4 + 32 + 128);
    Due.is("group(3)", x.group(3), 64);
    Due.is("group(4)", x.group(4), Due.MISSING);
  }

  private static void promise14Bits() {
    Due.is("none", new JammedBodies().density(), 0);
    Due.is("none of the largest box", Due.with(60, 60).density(), 0);
    Due.is("the least: 1 / 7200", Due.with(60, 60, "0,0;1,0;0,1").density(), 0x3911A2B4);
    Due.is("all", Due.with(60, 60, Due.rectangle(0, 0, 60, 60)).density(), 0x3F800000);
    Due.is("all by two", Due.with(10, 10, "0,0;10,0;0,10", "10,0;10,10;0,10").density(), 0x3F800000);
    Due.is("1 less than all", Due.with(60, 60, "0,0;60,0;60,59;59,60;0,60").density(), Float.floatToIntBits(7199f / 7200f));
    Due.is("half", Due.with(10, 10, "0,0;10,0;0,10").density(), 0x3F000000);
    Due.is("a quarter", Due.with(10, 10, Due.rectangle(0, 0, 5, 5)).density(), 0x3E800000);
    Due.is("a third, which is rounded", Due.with(12, 10, Due.rectangle(0, 0, 4, 10)).density(), 0x3EAAAAAB);
    for (int height = 10; height <= 60; height++) {
      JammedBodies x = Due.with(59, height, Due.rectangle(0, 0, 17, 9), "17,0;59,0;59,7");
      Due.is("density() at a height of " + height, x.density(), Float.floatToIntBits(600f / (float) (118 * height)));
    }
  }

  private static void promise15What() {
    JammedBodies x = Due.with(10, 10, Due.rectangle(0, 0, 2, 2), Due.rectangle(4, 0, 6, 2));
    int[] due = {Due.INVALID, 1, 8, Due.INVALID};
    for (int what = -1; what <= 2; what++) {
      Due.is("keystone(0, " + what + ")", x.keystone(0, what), due[what + 1]);
      Due.is("keystone(-1, " + what + ")", x.keystone(-1, what), Due.INVALID);
      Due.is("keystone(8, " + what + ")", x.keystone(8, what), Due.INVALID);
    }
    Due.is("keystone(7, 0): none goes", x.keystone(7, 0), 0);
    Due.is("keystone(7, 1)", x.keystone(7, 1), 0);
    Due.is("the bodies are still there", x.count(0), 2);
    Due.is("at their places", x.bodyOf(0, 2) + x.bodyOf(1, 2), 4);
  }

  private static void promise15OfSeveralTheLowest() {
    for (int alone = 0; alone < 8; alone++) {
      JammedBodies x = Due.with(20, 20);
      for (int k = 0; k < 8; k++) {
        int up = k == alone ? 0 : 3;
        Due.put(x, Due.rectangle(2 * k, up, 2 * k + 1, up + 1));
      }
      Due.is("the one that does not go", x.keystone(6, 0), alone);
      Due.is("the steps of the others", x.keystone(6, 1), 7 * 3);
      Due.is("undo() of the last one", x.undo(), 3);
      Due.is("the lowest, or the one that does not go", x.keystone(6, 0), alone == 7 ? 0 : alone);
    }
    JammedBodies same = bars(8);
    Due.is("all the same", same.keystone(2, 0), 0);
    Due.is("the steps of seven", same.keystone(2, 1), 7 * 9);
  }

  private static void promise15NoBodyAndOne() {
    JammedBodies x = new JammedBodies();
    for (int direction = 0; direction < 8; direction++) {
      Due.is("no body", x.keystone(direction, 0), Due.MISSING);
      Due.is("no body", x.keystone(direction, 1), Due.MISSING);
    }
    Due.put(x, Due.rectangle(4, 4, 6, 6));
    for (int direction = 0; direction < 8; direction++) {
      Due.is("the only body", x.keystone(direction, 0), 0);
      Due.is("no steps without it", x.keystone(direction, 1), 0);
    }
    Due.is("remove(0)", x.remove(0), 0);
    Due.is("no body", x.keystone(0, 0), Due.MISSING);
  }

  private static void promise16What() {
    JammedBodies x = bars(8);
    int[] due = {Due.INVALID, 8, 10, 10, 16, 32, 7, 4, 15, Due.INVALID};
    for (int what = -1; what <= 8; what++) {
      Due.is("count(" + what + ")", x.count(what), due[what + 1]);
    }
    JammedBodies six = Due.with(60, 60);
    for (int k = 0; k < 8; k++) {
      int at = 6 * k;
      Due.put(six, at + 2 + ",0;" + (at + 4) + ",0;" + (at + 6) + ",2;" + (at + 4) + ",4;" + (at + 2) + ",4;" + at + ",2");
    }
    Due.is("the most corners", six.count(4), 48);
    Due.is("their area", six.count(3), 8 * 32);
    Due.is("pairs", six.count(5), 7);
    JammedBodies fan = Due.with(10, 10, "5,5;10,5;10,7", "5,5;10,7;10,10", "5,5;10,10;5,10", "5,5;5,10;0,10", "5,5;0,10;0,5",
        "5,5;0,5;0,0", "5,5;0,0;5,0", "5,5;5,0;10,5");
    Due.is("all pairs of eight, at one corner", fan.count(5), 28);
    Due.is("all of one", fan.group(0), 255);
  }

  private static void promise17Empty() {
    JammedBodies x = new JammedBodies();
    Due.is("undo() of nothing", x.undo(), Due.IMPOSSIBLE);
    Due.is("put()", Due.put(x, bar(0)), 0);
    Due.is("undo()", x.undo(), 0);
    Due.is("undo() of nothing", x.undo(), Due.IMPOSSIBLE);
    Due.is("count(0)", x.count(0), 0);
    Due.is("count(6)", x.count(6), 0);
    Due.is("put()", x.put(), 0);
    Due.is("count(6)", x.count(6), 1);
  }
}
