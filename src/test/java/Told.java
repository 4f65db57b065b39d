import java.util.function.Supplier;

/**
 * What all questions answer about an object, and about the states of its history. As an object has 512 calls
 * only, each part is asked of an object of its own, which is made the same way.
 */
final class Told {
  private static final int MOST_BODIES = 8;

  private Told() {
  }

  static String of(Supplier<JammedBodies> made) {
    StringBuilder told = new StringBuilder();
    state(told, made.get());
    steps(told, made.get());
    pairs(told, made.get());
    ways(told, made.get());
    text(told, made.get());
    for (int back = 1; back <= 5; back++) {
      JammedBodies x = made.get();
      for (int k = 0; k < back; k++) {
        told.append(" undo ").append(x.undo());
      }
      state(told, x);
    }
    return told.toString();
  }

  private static void state(StringBuilder told, JammedBodies x) {
    told.append("\nstate");
    for (int what = 0; what < 8; what++) {
      told.append(' ').append(x.count(what));
    }
    for (int body = 0; body < x.count(0); body++) {
      told.append(" body");
      for (int what = 0; what < 22; what++) {
        told.append(' ').append(x.bodyOf(body, what));
      }
    }
  }

  private static void steps(StringBuilder told, JammedBodies x) {
    told.append("\nbodies");
    for (int what = 0; what < 4; what++) {
      told.append(' ').append(x.bodies(what));
    }
    for (int index = -1; index <= MOST_BODIES; index++) {
      told.append(' ').append(x.group(index));
    }
    told.append(' ').append(x.density());
    for (int direction = 0; direction < 8; direction++) {
      told.append(' ').append(x.keystone(direction, 0)).append(' ').append(x.keystone(direction, 1));
    }
  }

  private static void pairs(StringBuilder told, JammedBodies x) {
    told.append("\nparts");
    int bodies = x.count(0);
    for (int one = 0; one < bodies; one++) {
      for (int other = 0; other < bodies; other++) {
        for (int what = 0; what < 3 && one != other; what++) {
          told.append(' ').append(x.parts(one, other, what));
        }
      }
    }
  }

  private static void ways(StringBuilder told, JammedBodies x) {
    told.append("\nway");
    for (int body = 0; body < x.count(0); body++) {
      for (int call = 0; call < 24; call++) {
        told.append(' ').append(x.way(body, call / 3, call % 3));
      }
    }
  }

  /** A text is told by its faults, as it is and as it goes on. */
  private static void text(StringBuilder told, JammedBodies x) {
    told.append("\ntext");
    for (int what = 0; what < 3; what++) {
      told.append(' ').append(x.fault(what));
    }
    for (char sign : ";59,59".toCharArray()) {
      told.append(' ').append(x.type(sign)).append(' ').append(x.fault(0)).append(' ').append(x.fault(1)).append(' ').append(x.fault(2));
    }
    told.append(' ').append(x.put()).append(' ').append(x.clearText());
  }
}
