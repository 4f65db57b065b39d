/** The boundaries of texts and of their faults: "Texts", and the promises 18 to 20. */
public final class TextEdgesTest {
  private static final String SIX = "10,10;14,10;16,12;16,15;12,16;10,13";
  private static final String NEVER_ALLOWED = " !+-./:<AZaxz~";

  public static void main(String[] args) {
    emptyAtFirst();
    characters32To126();
    atMost60Characters();
    wrongRatherThanFull();
    clearedToNothing();
    everyTextThatEndsTooEarly();
    everyPlaceOfACharacterThatIsNotAllowed();
    oneOrTwoDigits();
    zeroAhead();
    aSeventhCorner();
    fewerThanThreeCorners();
    theEmptyText();
    cornersInTheBox();
    theFirstCornerOutside();
    theFirstCornerThatDoesNotTurn();
    roundMoreThanOnce();
    theLowestBodyThatItOverlaps();
    theFirstOfTheReasons();
    whatIs0To2();
    noFault();
    aFaultGoesByTheBoxAndTheBodies();
    Due.end();
  }

  private static void fault(JammedBodies x, String text, int place, int reason, int cause) {
    Due.typed(x, text);
    Due.is("fault(0) of " + text, x.fault(0), place);
    Due.is("fault(1) of " + text, x.fault(1), reason);
    Due.is("fault(2) of " + text, x.fault(2), cause);
    Due.is("put() of " + text, x.put(), Due.IMPOSSIBLE);
  }

  private static void fine(JammedBodies x, String text) {
    Due.typed(x, text);
    for (int what = 0; what < 3; what++) {
      Due.is("fault(" + what + ") of " + text, x.fault(what), Due.MISSING);
    }
  }

  private static void emptyAtFirst() {
    JammedBodies x = new JammedBodies();
    Due.is("count(7)", x.count(7), 0);
    Due.is("clearText()", x.clearText(), 0);
    Due.is("fault(0)", x.fault(0), 0);
    Due.is("fault(1)", x.fault(1), 1);
    Due.is("fault(2)", x.fault(2), 0);
    Due.is("put()", x.put(), Due.IMPOSSIBLE);
    Due.is("the first character", x.type('x'), 1);
  }

  private static void characters32To126() {
    int[] characters = {31, 32, 126, 127};
    for (int character : characters) {
      boolean right = character == 32 || character == 126;
      JammedBodies x = new JammedBodies();
      Due.is("type(" + character + ")", x.type(character), right ? 1 : Due.INVALID);
      Due.is("count(7)", x.count(7), right ? 1 : 0);
    }
    int length = 0;
    JammedBodies all = new JammedBodies();
    for (int character = 32; character <= 126; character++) {
      Due.is("type(" + character + ")", all.type(character), ++length);
      if (length == 60) {
        length = 0;
        Due.is("clearText()", all.clearText(), 60);
      }
    }
    // Of each character that fits into 16 bits the same as one that is allowed, but too large.
    JammedBodies large = new JammedBodies();
    int[] wrong = {65536 + 48, -65536 + 48, 256 + 48, -48, 0, Integer.MIN_VALUE + 48, Integer.MAX_VALUE};
    for (int character : wrong) {
      Due.is("type(" + character + ")", large.type(character), Due.INVALID);
    }
    Due.is("count(7)", large.count(7), 0);
  }

  private static void atMost60Characters() {
    JammedBodies x = new JammedBodies();
    for (int k = 1; k <= 59; k++) {
      Due.is("type(32) number " + k, x.type(32), k);
    }
    Due.is("count(7)", x.count(7), 59);
    Due.is("the 60th", x.type('0'), 60);
    Due.is("the 61st", x.type('0'), Due.LIMIT);
    Due.is("the 61st again", x.type('~'), Due.LIMIT);
    Due.is("count(7)", x.count(7), 60);
    Due.is("fault(0)", x.fault(0), 0);
    Due.is("clearText()", x.clearText(), 60);
    Due.is("count(7)", x.count(7), 0);
    JammedBodies long60 = Due.typed(new JammedBodies(), SIX + ";" + SIX.substring(0, 24));
    Due.is("count(7)", long60.count(7), 60);
    Due.is("its fault", long60.fault(0), 35);
    Due.is("the 61st", long60.type('9'), Due.LIMIT);
    Due.is("its fault", long60.fault(0), 35);
  }

  private static void wrongRatherThanFull() {
    JammedBodies x = new JammedBodies();
    for (int k = 1; k <= 60; k++) {
      x.type('1');
    }
    Due.is("type(31) to 60", x.type(31), Due.INVALID);
    Due.is("type(127) to 60", x.type(127), Due.INVALID);
    Due.is("type(32) to 60", x.type(32), Due.LIMIT);
    Due.is("type(126) to 60", x.type(126), Due.LIMIT);
  }

  private static void clearedToNothing() {
    JammedBodies x = new JammedBodies();
    int[] lengths = {0, 1, 59, 60, 0};
    for (int length : lengths) {
      for (int k = 0; k < length; k++) {
        x.type('1');
      }
      Due.is("clearText()", x.clearText(), length);
      Due.is("clearText() again", x.clearText(), 0);
      Due.is("count(7)", x.count(7), 0);
      Due.is("fault(0)", x.fault(0), 0);
    }
    fine(x, "1,1;3,1;3,3");
  }

  /** Each beginning of a body with six corners: a body, if it has three corners that are whole; else its length. */
  private static void everyTextThatEndsTooEarly() {
    String[] whole = {SIX, "1,0;4,0;6,2;6,5;2,6;0,3", "01,0;4,10;6,02;16,5;2,06;0,3"};
    for (String text : whole) {
      for (int length = 0; length <= text.length(); length++) {
        String start = text.substring(0, length);
        boolean digitLast = length > 0 && Character.isDigit(start.charAt(length - 1));
        int corners = start.split(";", -1).length;
        boolean form = digitLast && corners >= 3 && start.split(",", -1).length == corners + 1;
        JammedBodies x = Due.typed(new JammedBodies(), start);
        if (form) {
          Due.isTrue("the form of " + start, x.fault(1) != 1);
        } else {
          fault(x, start, length, 1, 0);
        }
      }
    }
  }

  private static void everyPlaceOfACharacterThatIsNotAllowed() {
    for (int place = 0; place <= SIX.length(); place++) {
      String rest = SIX.substring(Math.min(place + 1, SIX.length()));
      for (char sign : NEVER_ALLOWED.toCharArray()) {
        fault(new JammedBodies(), SIX.substring(0, place) + sign + rest, place, 1, 0);
      }
    }
    String[] texts = {",1", ";1", "1;", "1,,", "1,;", "1,1,", "1,1;,", "1,1;;", "11;", "11,,", "11,;", "11,11,", "1,2;3,4;5,6,",
        "1,2;3,4;5,66,", "1,2;3,4;5,6;;", "1,2;3,4;5,6;,"};
    int[] places = {0, 0, 1, 2, 2, 3, 4, 4, 2, 3, 3, 5, 11, 12, 12, 12};
    for (int k = 0; k < texts.length; k++) {
      fault(new JammedBodies(), texts[k], places[k], 1, 0);
    }
  }

  /** For each of the twelve numbers: none, one, two and three digits. */
  private static void oneOrTwoDigits() {
    String[] numbers = {"10", "10", "14", "10", "16", "12", "16", "15", "12", "16", "10", "13"};
    for (int which = 0; which < 12; which++) {
      int start = 0;
      StringBuilder none = new StringBuilder();
      StringBuilder three = new StringBuilder();
      StringBuilder one = new StringBuilder();
      for (int k = 0; k < 12; k++) {
        String ahead = k == 0 ? "" : k % 2 == 1 ? "," : ";";
        none.append(ahead);
        three.append(ahead);
        one.append(ahead);
        start = k == which ? none.length() : start;
        none.append(k == which ? "" : numbers[k]);
        three.append(k == which ? "000" : numbers[k]);
        one.append(k == which ? "0" : numbers[k]);
      }
      fault(new JammedBodies(), none.toString(), start, 1, 0);
      fault(new JammedBodies(), three.toString(), start + 2, 1, 0);
      Due.isTrue("one digit in " + one, Due.typed(new JammedBodies(), one.toString()).fault(1) != 1);
    }
    fine(new JammedBodies(), SIX);
  }

  private static void zeroAhead() {
    JammedBodies x = new JammedBodies();
    fine(x, "00,00;09,00;09,09;00,09");
    Due.is("put()", x.put(), 0);
    Due.same("the body", Due.corners(x, 0), Due.rectangle(0, 0, 9, 9));
    fault(x, "000,0;9,0;9,9", 2, 1, 0);
    fault(x, "0,000;9,0;9,9", 4, 1, 0);
    fault(x, "0,0;009,0;9,9", 6, 1, 0);
    fault(x, "0,0;9,0;9,009", 12, 1, 0);
  }

  private static void aSeventhCorner() {
    JammedBodies x = new JammedBodies();
    fine(x, SIX);
    String[] more = {";", ";1", ";1,", ";1,1", ";10,11;", ";10,11;10,10", ";x", ";;"};
    for (String end : more) {
      fault(x, SIX + end, 35, 1, 0);
    }
    fault(x, SIX + ",", 35, 1, 0);
    fault(x, SIX + "0", 35, 1, 0);
    fault(x, "1,0;4,0;6,2;6,5;2,6;0,3;0,2", 23, 1, 0);
  }

  private static void fewerThanThreeCorners() {
    JammedBodies x = new JammedBodies();
    fault(x, "0,0", 3, 1, 0);
    fault(x, "10,10", 5, 1, 0);
    fault(x, "0,0;4,0", 7, 1, 0);
    fault(x, "10,10;14,10", 11, 1, 0);
    fault(x, "0,0;4,0;", 8, 1, 0);
    fine(x, "0,0;4,0;4,4");
    fault(x, "0,0;4,0;4,4;", 12, 1, 0);
    fine(x, "0,0;4,0;4,4;0,4");
  }

  private static void theEmptyText() {
    fault(new JammedBodies(), "", 0, 1, 0);
    fault(Due.with(10, 10, Due.rectangle(0, 0, 10, 10)), "", 0, 1, 0);
  }

  /** Of an upright rectangle to the far walls, and of one beyond them. */
  private static void cornersInTheBox() {
    int[][] sizes = {{10, 10}, {10, 60}, {60, 10}, {37, 23}};
    for (int[] size : sizes) {
      int w = size[0];
      int h = size[1];
      JammedBodies x = Due.with(w, h);
      fine(x, Due.rectangle(w - 9, h - 9, w, h));
      fine(x, Due.rectangle(0, 0, w, h));
      fault(x, Due.rectangle(w - 9, h - 9, w + 1, h), 0, 2, 1);
      fault(x, Due.rectangle(w - 9, h - 9, w, h + 1), 0, 2, 2);
      fault(x, Due.rectangle(w + 1, h - 9, w + 2, h), 0, 2, 0);
      fault(x, Due.rectangle(w - 9, h + 1, w, h + 2), 0, 2, 0);
      fault(x, Due.rectangle(0, 0, 99, h), 0, 2, 1);
      fault(x, Due.rectangle(0, 0, w, 99), 0, 2, 2);
    }
  }

  private static void theFirstCornerOutside() {
    String[] places = {"10,10", "14,10", "16,12", "16,15", "12,16", "10,13"};
    for (int first = 0; first < 6; first++) {
      for (int second = first; second < 6; second++) {
        StringBuilder text = new StringBuilder();
        for (int k = 0; k < 6; k++) {
          boolean outside = k == first || k == second;
          String beyond = (first + second) % 2 == 0 ? "21,20" : "20,21";
          text.append(k > 0 ? ";" : "").append(outside ? beyond : places[k]);
        }
        fault(new JammedBodies(), text.toString(), 0, 2, first);
      }
    }
  }

  /** Corners in the middle of the other sides; of several the first one is told. */
  private static void theFirstCornerThatDoesNotTurn() {
    fault(new JammedBodies(), "2,2;4,2;6,2;6,6;4,6;2,6", 0, 3, 1);
    fault(new JammedBodies(), "4,2;6,2;6,6;4,6;2,6;2,2", 0, 3, 0);
    fault(new JammedBodies(), "6,2;6,6;4,6;2,6;2,2;4,2", 0, 3, 2);
    fault(new JammedBodies(), "2,6;2,2;6,2;6,6;4,6", 0, 3, 4);
    fault(new JammedBodies(), "2,2;6,2;6,6;5,5;2,6", 0, 3, 3);
    fault(new JammedBodies(), "2,2;2,6;6,6;6,2", 0, 3, 0);
    fault(new JammedBodies(), "5,5;5,5;5,5;5,5;5,5;5,5", 0, 3, 0);
    fine(new JammedBodies(), "2,2;6,2;6,6;2,6");
  }

  /** Five and six corners, each turning to the left: the number is that behind the last corner. */
  private static void roundMoreThanOnce() {
    fault(new JammedBodies(), "10,14;8,8;14,12;6,12;12,8", 0, 3, 5);
    fault(new JammedBodies(), "8,8;12,8;8,12;8,8;12,8;8,12", 0, 3, 6);
    fault(new JammedBodies(), "8,8;12,8;10,12;8,9;13,8;10,13", 0, 3, 6);
    fine(new JammedBodies(), "10,14;6,12;8,8;12,8;14,12");
    // A corner that turns to the right comes first, however often it goes round.
    fault(new JammedBodies(), "10,14;8,8;13,12;7,12;12,8;11,11", 0, 3, 5);
    fault(new JammedBodies(), "11,11;10,14;8,8;13,12;7,12;12,8", 0, 3, 0);
  }

  private static void theLowestBodyThatItOverlaps() {
    String[] put = {Due.rectangle(2, 0, 4, 9), Due.rectangle(4, 0, 6, 9), Due.rectangle(6, 0, 8, 9), Due.rectangle(0, 0, 2, 9)};
    int[] order = {3, 0, 1, 2};
    for (int first = 0; first < 4; first++) {
      for (int last = first; last < 4; last++) {
        JammedBodies x = Due.with(10, 10, put);
        int lowest = 4;
        for (int k = first; k <= last; k++) {
          lowest = Math.min(lowest, order[k]);
        }
        fault(x, Due.rectangle(2 * first, 8, 2 * last + 2, 10), 0, 4, lowest);
        fine(x, Due.rectangle(2 * first, 9, 2 * last + 2, 10));
      }
    }
    JammedBodies eight = Due.with(10, 10);
    for (int k = 0; k < 8; k++) {
      Due.put(eight, Due.rectangle(k, 0, k + 1, 9));
    }
    fault(eight, Due.rectangle(7, 8, 9, 10), 0, 4, 7);
    fault(eight, Due.rectangle(0, 8, 9, 10), 0, 4, 0);
  }

  private static void theFirstOfTheReasons() {
    JammedBodies x = Due.with(20, 20, Due.rectangle(0, 0, 20, 10));
    fault(x, "21,5;21,5;21,5;", 15, 1, 0);
    fault(x, "5,5;21,5;21,5", 0, 2, 1);
    fault(x, "5,5;5,5;21,5", 0, 2, 2);
    fault(x, "5,5;6,5;7,5", 0, 3, 0);
    fault(x, "10,14;8,8;14,12;6,12;12,8", 0, 3, 5);
    fault(x, "5,5;7,5;5,7", 0, 4, 0);
    fine(x, "5,10;7,10;5,12");
  }

  private static void whatIs0To2() {
    JammedBodies x = new JammedBodies();
    Due.is("fault(-1)", x.fault(-1), Due.INVALID);
    Due.is("fault(0)", x.fault(0), 0);
    Due.is("fault(2)", x.fault(2), 0);
    Due.is("fault(3)", x.fault(3), Due.INVALID);
    Due.typed(x, "1,1;2,1;2,2");
    Due.is("fault(-1) of no fault", x.fault(-1), Due.INVALID);
    Due.is("fault(0) of no fault", x.fault(0), Due.MISSING);
    Due.is("fault(2) of no fault", x.fault(2), Due.MISSING);
    Due.is("fault(3) of no fault", x.fault(3), Due.INVALID);
  }

  private static void noFault() {
    fine(new JammedBodies(), "0,0;1,0;0,1");
    fine(new JammedBodies(), "19,19;20,19;20,20");
    fine(Due.with(60, 60), Due.rectangle(0, 0, 60, 60));
    // The eighth body is not at fault for a ninth: that is a limit.
    JammedBodies eight = Due.with(10, 10);
    for (int k = 0; k < 8; k++) {
      Due.put(eight, Due.rectangle(k, 0, k + 1, 9));
    }
    fine(eight, Due.rectangle(8, 0, 9, 9));
    Due.is("put()", eight.put(), Due.LIMIT);
  }

  private static void aFaultGoesByTheBoxAndTheBodies() {
    JammedBodies x = Due.with(20, 20);
    fine(x, Due.rectangle(12, 12, 15, 15));
    Due.is("box(14, 20)", x.box(14, 20), 2020);
    Due.is("fault(1)", x.fault(1), 2);
    Due.is("fault(2)", x.fault(2), 1);
    Due.is("box(15, 14)", x.box(15, 14), 1420);
    Due.is("fault(2)", x.fault(2), 2);
    Due.is("box(15, 15)", x.box(15, 15), 1514);
    Due.is("fault(1)", x.fault(1), Due.MISSING);
    Due.is("put()", x.put(), 0);
    Due.is("fault(1)", x.fault(1), 4);
    Due.is("slide(0, 4, 3)", x.slide(0, 4, 3), 3);
    Due.is("fault(1)", x.fault(1), Due.MISSING);
    Due.is("undo()", x.undo(), 3);
    Due.is("fault(1)", x.fault(1), 4);
    Due.is("empty()", x.empty(), 1);
    Due.is("fault(1)", x.fault(1), Due.MISSING);
  }
}
