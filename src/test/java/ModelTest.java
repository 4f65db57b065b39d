import java.util.ArrayList;
import java.util.List;
import java.util.Random;

/** Long runs of calls, the same every time, on the class and on the model of the document. */
public final class ModelTest {
  private static final int RUNS = 400;
  private static final int CALLS = 512;

  private final Random random;
  private final JammedBodies real = new JammedBodies();
  private final Model model = new Model();
  private final StringBuilder told = new StringBuilder();
  private final int run;
  private int calls = 0;
  private int width = 20;
  private int height = 20;

  private ModelTest(int run) {
    this.run = run;
    this.random = new Random(7919L * run + 1);
  }

  public static void main(String[] args) {
    for (int run = 0; run < RUNS; run++) {
      new ModelTest(run).play();
    }
    Due.end();
  }

  private void play() {
    if (random.nextInt(4) > 0) {
      ask("box", 10 + random.nextInt(8), 10 + random.nextInt(8), 0);
    } else if (random.nextInt(3) == 0) {
      ask("box", 60, 60 - random.nextInt(50), 0);
    }
    while (calls < CALLS) {
      int kind = random.nextInt(100);
      if (kind < 8) {
        text();
      } else if (kind < 40) {
        change();
      } else {
        question();
      }
    }
  }

  private void text() {
    ask("clearText", 0, 0, 0);
    String body = random.nextInt(6) == 0 ? spoiled() : body();
    for (int k = 0; k < body.length(); k++) ask("type", body.charAt(k), 0, 0);
    for (int what = 0; what < 3; what++) ask("fault", what, 0, 0);
    ask("put", 0, 0, 0);
  }

  private String body() {
    int span = 1 + random.nextInt(random.nextInt(4) == 0 ? 20 : 5);
    int left = random.nextInt(Math.max(1, width + 1 - span));
    int low = random.nextInt(Math.max(1, height + 1 - span));
    List<int[]> points = new ArrayList<>();
    for (int k = 3 + random.nextInt(5); k > 0; k--) {
      points.add(new int[] {left + random.nextInt(span + 1), low + random.nextInt(span + 1)});
    }
    List<int[]> hull = Model.hull(points);
    int first = random.nextInt(Math.max(1, hull.size()));
    StringBuilder text = new StringBuilder();
    for (int k = 0; k < hull.size() && k < 6; k++) {
      int[] corner = hull.get((k + first) % hull.size());
      text.append(k > 0 ? ";" : "").append(corner[0]).append(',').append(corner[1]);
    }
    return text.toString();
  }

  private String spoiled() {
    StringBuilder text = new StringBuilder(body());
    switch (random.nextInt(5)) {
      case 0:
        text.setLength(random.nextInt(text.length() + 1));
        break;
      case 1:
        text.insert(random.nextInt(text.length() + 1), "0123456789,; x".charAt(random.nextInt(14)));
        break;
      case 2:
        return text.append(';').append(text).append(';').append(text).toString();
      case 3:
        text.setLength(0);
        for (int k = 3 + random.nextInt(4); k > 0; k--) {
          text.append(random.nextInt(12)).append(',').append(random.nextInt(12)).append(k > 1 ? ";" : "");
        }
        break;
      default:
        if (text.length() > 0) text.setCharAt(random.nextInt(text.length()), (char) (32 + random.nextInt(95)));
    }
    return text.toString();
  }

  private int anyBody() {
    int bodies = model.call("count", 0, 0, 0);
    return random.nextInt(30) == 0 ? bodies - 1 + 2 * random.nextInt(2) - bodies * random.nextInt(2) : random.nextInt(bodies + 1);
  }

  private int anyOf(int many) {
    return random.nextInt(30) == 0 ? -1 + (many + 1) * random.nextInt(2) : random.nextInt(many);
  }

  private void change() {
    switch (random.nextInt(random.nextInt(3) == 0 ? 24 : 18)) {
      case 0: case 1: case 2: case 3: case 4: case 5: case 6: case 7: case 8:
        ask("slide", anyBody(), anyOf(8), random.nextInt(3) == 0 ? random.nextInt(62) : 1 + random.nextInt(5));
        break;
      case 9: case 10: case 11: case 12:
        ask("turn", anyBody(), 0, 0);
        break;
      case 13: case 14:
        ask("settle", anyOf(8), 0, 0);
        break;
      case 15: case 16: case 17:
        ask("put", 0, 0, 0);
        break;
      case 18:
        ask("remove", anyBody(), 0, 0);
        break;
      case 19:
        if (random.nextInt(6) == 0) ask("empty", 0, 0, 0);
        break;
      case 20:
        ask("box", 9 + random.nextInt(53), 9 + random.nextInt(53), 0);
        break;
      case 21:
        ask("box", width + random.nextInt(3) - 1, height + random.nextInt(3) - 1, 0);
        break;
      default:
        ask("undo", 0, 0, 0);
    }
  }

  private void question() {
    switch (random.nextInt(10)) {
      case 0: case 1: case 2:
        ask("bodyOf", anyBody(), anyOf(22), 0);
        break;
      case 3:
        ask("parts", anyBody(), anyBody(), anyOf(3));
        break;
      case 4:
        ask("way", anyBody(), anyOf(8), anyOf(3));
        break;
      case 5:
        ask("bodies", anyOf(4), 0, 0);
        break;
      case 6:
        ask("group", random.nextInt(6) - 2, 0, 0);
        break;
      case 7:
        ask("density", 0, 0, 0);
        break;
      case 8:
        ask("keystone", anyOf(8), anyOf(2), 0);
        break;
      default:
        ask("count", anyOf(8), 0, 0);
    }
  }

  private void ask(String name, int a, int b, int c) {
    if (random.nextInt(100) == 0) {
      askAs(name, extreme(a), extreme(b), extreme(c));
    }
    askAs(name, a, b, c);
  }

  private int extreme(int argument) {
    int[] extremes = {Integer.MIN_VALUE, Integer.MAX_VALUE, -1, 8, 61, argument, argument};
    return extremes[random.nextInt(extremes.length)];
  }

  private void askAs(String name, int a, int b, int c) {
    if (calls >= CALLS) return;
    calls++;
    int got = new Call(name, a, b, c).on(real);
    int want = model.call(name, a, b, c);
    Due.is("run " + run + ", call " + calls + ": " + name + "(" + a + ", " + b + ", " + c + ")", got, want);
    if (name.equals("box") || name.equals("undo")) {
      width = model.call("count", 1, 0, 0);
      height = model.call("count", 2, 0, 0);
    }
  }
}
