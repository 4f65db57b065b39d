/** Promises 18 to 20: type, clearText, fault. */
public final class TextsTest {
  public static void main(String[] args) {
    promise18Type();
    promise18Limit();
    promise19ClearText();
    promise20Form();
    promise20Outside();
    promise20Shape();
    promise20Overlap();
    promise20NoFault();
    Due.end();
  }

  private static void promise18Type() {
    JammedBodies x = new JammedBodies();
    int length = 0;
    for (int character = 32; character <= 126; character += 2) {
      Due.is("type(" + character + ")", x.type(character), ++length);
    }
    int[] wrong = {31, 127, 0, -1, 10, 128, 65 + 65536, Integer.MAX_VALUE, Integer.MIN_VALUE};
    for (int character : wrong) {
      Due.is("type(" + character + ")", x.type(character), Due.INVALID);
    }
    Due.is("count(7)", x.count(7), length);
    Due.is("the text is no part of the states", x.count(6), 0);
  }

  private static void promise18Limit() {
    JammedBodies x = new JammedBodies();
    for (int k = 1; k <= 60; k++) {
      Due.is("type(48)", x.type(48), k);
    }
    Due.is("a 61st", x.type(48), Due.LIMIT);
    Due.is("a wrong 61st", x.type(127), Due.INVALID);
    Due.is("count(7)", x.count(7), 60);
    Due.is("clearText()", x.clearText(), 60);
    Due.is("type(48)", x.type(48), 1);
  }

  private static void promise19ClearText() {
    JammedBodies x = Due.typed(new JammedBodies(), "0,0;4,0;4,4");
    Due.is("put()", x.put(), 0);
    Due.is("clearText()", x.clearText(), 11);
    Due.is("clearText() again", x.clearText(), 0);
    Due.is("count(7)", x.count(7), 0);
    Due.is("count(6)", x.count(6), 1);
    Due.is("count(0)", x.count(0), 1);
    Due.typed(x, "6,6");
    Due.is("nothing of the old text is left", x.fault(0), 3);
  }

  private static void fault(JammedBodies x, String text, int place, int reason, int cause) {
    Due.typed(x, text);
    Due.is("fault(0) of " + text, x.fault(0), place);
    Due.is("fault(1) of " + text, x.fault(1), reason);
    Due.is("fault(2) of " + text, x.fault(2), cause);
  }

  private static void promise20Form() {
    JammedBodies x = Due.with(20, 20, "0,0;4,0;4,4");
    String[] texts = {"", "1", "12", "1,", "1,2", "1,2;", "1,2;3", "1,2;3,4", "1,2;3,4;", "1,2;3,4;5", "1,2;3,4;5,",
        "1,2;3,4;5,6;", "1,2;3,4;5,6;7,8;9,9;9,9;", "1,2;3,4;5,6;7,8;9,9;9,9;9", "12,13;14,15;16,17;18,19;11,12;13,14;15,16",
        "123,4", "1,234", ",", ";", " 1,2", "1 ,2", "1;2", "1,,2", "1,2,3", "1,2;;", "1,2;3,4;5,6 ", "1,2;3,4;5,6x", "-1,2",
        "1,2;3,4x", "x", "1,2;3,4;5,6;x", "1,2;3,4;5,678", "1/2", "1:2", "0,0;0,0;0,0;0,0;0,0;0,0,", "000,0"};
    int[] places = {0, 1, 2, 2, 3, 4, 5, 7, 8, 9, 10,
        12, 23, 23, 35,
        2, 4, 0, 0, 0, 1, 1, 2, 3, 4, 11, 11, 0,
        7, 0, 12, 12, 1, 1, 23, 2};
    for (int k = 0; k < texts.length; k++) {
      fault(x, texts[k], places[k], 1, 0);
    }
    Due.is("fault(-1)", x.fault(-1), Due.INVALID);
    Due.is("fault(3)", x.fault(3), Due.INVALID);
    Due.is("fault(MAX)", x.fault(Integer.MAX_VALUE), Due.INVALID);
    Due.is("fault(MIN)", x.fault(Integer.MIN_VALUE), Due.INVALID);
  }

  private static void promise20Outside() {
    JammedBodies x = Due.with(20, 30, "0,0;4,0;4,4");
    fault(x, "21,0;4,0;4,4", 0, 2, 0);
    fault(x, "0,0;4,31;4,4", 0, 2, 1);
    fault(x, "0,0;4,0;4,99", 0, 2, 2);
    fault(x, "0,0;20,30;21,31;99,99", 0, 2, 2);
    fault(x, "20,0;20,30;18,30;17,30;16,30;16,31", 0, 2, 5);
    fault(x, "0,0;0,0;21,0", 0, 2, 2);
  }

  private static void promise20Shape() {
    JammedBodies x = Due.with(20, 20, "0,0;4,0;4,4");
    fault(x, "10,10;14,10;12,10", 0, 3, 0);
    fault(x, "10,10;14,14;14,10", 0, 3, 0);
    fault(x, "10,10;12,10;14,10;14,14", 0, 3, 1);
    fault(x, "10,10;14,10;14,10;14,14", 0, 3, 1);
    fault(x, "10,10;14,10;11,11;10,14", 0, 3, 2);
    fault(x, "10,10;14,10;14,14;10,14;10,12", 0, 3, 4);
    fault(x, "10,10;14,10;14,14;12,14;10,14;11,11", 0, 3, 3);
    fault(x, "0,0;0,0;0,0", 0, 3, 0);
    fault(x, "10,14;8,8;14,12;6,12;12,8", 0, 3, 5);
    fault(x, "8,8;12,8;8,12;8,8;12,8;8,12", 0, 3, 6);
    fault(x, "10,14;8,8;13,12;7,12;12,8;11,11", 0, 3, 5);
    fault(x, "0,0;4,4;4,0", 0, 3, 0);
    int[][] star = {{30, 50}, {18, 14}, {49, 36}, {11, 36}, {42, 14}};
    int[][] twice = {{20, 10}, {40, 10}, {30, 30}, {20, 11}, {41, 10}, {30, 31}};
    for (int quarter = 0; quarter < 4; quarter++) {
      for (int first = 0; first < 6; first++) {
        JammedBodies large = Due.with(60, 60);
        fault(large, turned(star, first % 5, quarter), 0, 3, 5);
        fault(large, turned(twice, first, quarter), 0, 3, 6);
        int[][] small = {{50, 14}, {48, 8}, {54, 12}, {46, 12}, {52, 8}};
        fault(large, turned(small, first % 5, quarter), 0, 3, 5);
      }
    }
  }

  /** Told from another corner, and turned by quarters around the middle of a box of 60. */
  private static String turned(int[][] corners, int first, int quarters) {
    StringBuilder text = new StringBuilder();
    for (int k = 0; k < corners.length; k++) {
      int[] corner = corners[(first + k) % corners.length];
      int x = corner[0];
      int y = corner[1];
      for (int quarter = 0; quarter < quarters; quarter++) {
        int old = x;
        x = 60 - y;
        y = old;
      }
      text.append(k > 0 ? ";" : "").append(x).append(',').append(y);
    }
    return text.toString();
  }

  private static void promise20Overlap() {
    JammedBodies x = Due.with(20, 20, Due.rectangle(10, 10, 12, 12), Due.rectangle(4, 4, 6, 6), Due.rectangle(7, 4, 9, 6));
    fault(x, Due.rectangle(5, 5, 8, 6), 0, 4, 1);
    fault(x, Due.rectangle(8, 4, 9, 5), 0, 4, 2);
    fault(x, Due.rectangle(0, 0, 20, 20), 0, 4, 0);
    fault(x, Due.rectangle(4, 4, 6, 6), 0, 4, 1);
    fault(x, "10,0;11,0;11,20;10,20", 0, 4, 0);
    fault(x, "3,5;5,3;6,4;4,6", 0, 4, 1);
    Due.typed(x, "5,3;6,4;3,5");
    Due.is("a corner at a corner, a side across", x.fault(2), 1);
    Due.is("remove(1)", x.remove(1), 2);
    Due.is("the fault is gone", x.fault(1), Due.MISSING);
  }

  private static void promise20NoFault() {
    JammedBodies x = Due.with(20, 20, Due.rectangle(10, 10, 12, 12));
    String[] texts = {"0,0;4,0;4,4", "00,00;04,0;4,04", Due.rectangle(12, 10, 14, 12), Due.rectangle(12, 12, 20, 20),
        "2,0;4,0;6,2;4,4;2,4;0,2", "0,20;19,20;18,20;17,20", "20,14;18,20;12,20;10,16;14,12"};
    for (String text : texts) {
      Due.typed(x, text);
      boolean flat = text.startsWith("0,20");
      for (int what = 0; what < 3; what++) {
        Due.is("fault(" + what + ") of " + text, x.fault(what), flat ? new int[] {0, 3, 0}[what] : Due.MISSING);
      }
      Due.is("fault(3) of " + text, x.fault(3), Due.INVALID);
      Due.is("fault(-1) of " + text, x.fault(-1), Due.INVALID);
    }
    Due.is("count(0)", x.count(0), 1);
    Due.is("count(6)", x.count(6), 2);
  }
}
