import java.util.ArrayList;
import java.util.List;
import java.util.regex.Matcher;
import java.util.regex.Pattern;

/**
 * The document told a second time, by other means than the class uses, so that a mistake is not made twice:
 * contacts by the differences of corners, forms by a pattern, rounds by angles, states by copies.
 */
final class Model {
  private static final int INVALID = Due.INVALID;
  private static final int IMPOSSIBLE = Due.IMPOSSIBLE;
  private static final int LIMIT = Due.LIMIT;
  private static final int MISSING = Due.MISSING;

  private static final int[][] STEPS = {{1, 0}, {1, 1}, {0, 1}, {-1, 1}, {-1, 0}, {-1, -1}, {0, -1}, {1, -1}};
  private static final Pattern FORM = Pattern.compile("[0-9]{1,2},[0-9]{1,2}(;[0-9]{1,2},[0-9]{1,2}){2,5}");

  private static final int APART = 0;
  private static final int TOUCH = 1;
  private static final int OVERLAP = 2;

  /** The width, the height, and the bodies, each a list of corners; never changed once it is made. */
  private record State(int width, int height, List<List<int[]>> bodies) {
  }

  private State now = new State(20, 20, List.of());
  private final List<State> before = new ArrayList<>();
  private String text = "";

  int call(String name, int a, int b, int c) {
    switch (name) {
      case "box": return box(a, b);
      case "put": return put();
      case "remove": return remove(a);
      case "empty": return empty();
      case "slide": return slide(a, b, c);
      case "turn": return turn(a);
      case "settle": return settle(a);
      case "bodyOf": return bodyOf(a, b);
      case "parts": return parts(a, b, c);
      case "way": return way(a, b, c);
      case "bodies": return bodies(a);
      case "group": return group(a);
      case "density": return density();
      case "keystone": return keystone(a, b);
      case "count": return count(a);
      case "undo": return undo();
      case "type": return type(a);
      case "clearText": return clearText();
      case "fault": return fault(a);
      default: throw new IllegalArgumentException(name);
    }
  }

  private void change(State next) {
    before.add(now);
    if (before.size() == 5) before.remove(0);
    now = next;
  }

  private boolean none(int body) {
    return body < 0 || body >= now.bodies.size();
  }

  private int box(int width, int height) {
    if (width < 10 || width > 60 || height < 10 || height > 60) return INVALID;
    for (List<int[]> body : now.bodies) {
      if (!inside(body, width, height)) return IMPOSSIBLE;
    }
    int was = 100 * now.width + now.height;
    change(new State(width, height, now.bodies));
    return was;
  }

  private int put() {
    if (faults() != null) return IMPOSSIBLE;
    if (now.bodies.size() == 8) return LIMIT;
    List<List<int[]>> bodies = new ArrayList<>(now.bodies);
    bodies.add(corners());
    change(new State(now.width, now.height, bodies));
    return bodies.size() - 1;
  }

  private int remove(int body) {
    if (none(body)) return INVALID;
    change(without(now, body));
    return now.bodies.size();
  }

  private int empty() {
    int was = now.bodies.size();
    change(new State(now.width, now.height, List.of()));
    return was;
  }

  private int slide(int body, int direction, int most) {
    if (none(body) || direction < 0 || direction > 7 || most < 1 || most > 60) return INVALID;
    State next = now;
    int steps = 0;
    while (steps < most && free(step(next, body, direction), body)) {
      next = step(next, body, direction);
      steps++;
    }
    if (steps == 0) return IMPOSSIBLE;
    change(next);
    return steps;
  }

  private int turn(int body) {
    if (none(body)) return INVALID;
    List<int[]> old = now.bodies.get(body);
    int left = least(old, 0);
    int low = least(old, 1);
    int height = greatest(old, 1) - low;
    List<int[]> turned = new ArrayList<>();
    for (int[] corner : old) {
      int x = corner[0] - left;
      int y = corner[1] - low;
      turned.add(new int[] {left + (height - y), low + x});
    }
    State next = with(now, body, turned);
    if (!free(next, body)) return IMPOSSIBLE;
    change(next);
    return height;
  }

  private int settle(int direction) {
    if (direction < 0 || direction > 7) return INVALID;
    int[] steps = new int[1];
    change(settled(now, direction, steps));
    return steps[0];
  }

  private static State settled(State state, int direction, int[] steps) {
    State old;
    do {
      old = state;
      for (int k = 0; k < state.bodies.size(); k++) {
        while (free(step(state, k, direction), k)) {
          state = step(state, k, direction);
          steps[0]++;
        }
      }
    } while (state != old);
    return state;
  }

  private int bodyOf(int body, int what) {
    if (none(body) || what < 0 || what > 21) return INVALID;
    List<int[]> told = now.bodies.get(body);
    switch (what) {
      case 0: return told.size();
      case 1: return area(told);
      case 2: return least(told, 0);
      case 3: return greatest(told, 0);
      case 4: return least(told, 1);
      case 5: return greatest(told, 1);
      case 6: return walls(told);
      case 7: return touching(body);
      case 8: return freeDirections(body);
      case 9: return jammed(body) ? 1 : 0;
      default:
        int corner = (what - 10) / 2;
        return corner < told.size() ? told.get(corner)[what % 2] : MISSING;
    }
  }

  private int parts(int one, int other, int what) {
    if (none(one) || none(other) || one == other || what < 0 || what > 2) return INVALID;
    int[] told = partedBy(one, other);
    if (told == null) {
      told = partedBy(other, one);
      told[0] += 10;
    }
    return told[what];
  }

  /** The first side of one body with the other one to its right: the side, the nearest corner, the area. */
  private int[] partedBy(int owner, int far) {
    List<int[]> sides = now.bodies.get(owner);
    for (int k = 0; k < sides.size(); k++) {
      int[] from = sides.get(k);
      int[] to = sides.get((k + 1) % sides.size());
      int best = Integer.MAX_VALUE;
      int bestCorner = -1;
      boolean right = true;
      List<int[]> corners = now.bodies.get(far);
      for (int c = 0; c < corners.size(); c++) {
        int area = area(List.of(from, to, corners.get(c)));
        right &= area <= 0;
        if (-area < best) {
          best = -area;
          bestCorner = c;
        }
      }
      if (right) return new int[] {k, bestCorner, best};
    }
    return null;
  }

  private int way(int body, int direction, int what) {
    if (none(body) || direction < 0 || direction > 7 || what < 0 || what > 2) return INVALID;
    State next = now;
    int steps = 0;
    while (free(step(next, body, direction), body)) {
      next = step(next, body, direction);
      steps++;
    }
    next = step(next, body, direction);
    List<int[]> beyond = next.bodies.get(body);
    if (what == 0) return steps;
    if (what == 1) return overlapped(beyond, next, body);
    int set = 0;
    if (least(beyond, 0) == -1) set += 1;
    if (greatest(beyond, 0) == now.width + 1) set += 2;
    if (least(beyond, 1) == -1) set += 4;
    if (greatest(beyond, 1) == now.height + 1) set += 8;
    return set;
  }

  private int bodies(int what) {
    if (what < 0 || what > 3) return INVALID;
    int set = 0;
    for (int k = 0; k < now.bodies.size(); k++) {
      boolean holds;
      switch (what) {
        case 0: holds = jammed(k); break;
        case 1: holds = touching(k) == 0; break;
        case 2: holds = walls(now.bodies.get(k)) != 0; break;
        default: holds = hangs(k, new boolean[8]);
      }
      if (holds) set += 1 << k;
    }
    return set;
  }

  private boolean hangs(int body, boolean[] seen) {
    seen[body] = true;
    if ((walls(now.bodies.get(body)) & 4) != 0) return true;
    for (int k = 0; k < now.bodies.size(); k++) {
      if (!seen[k] && (touching(body) >> k & 1) == 1 && hangs(k, seen)) return true;
    }
    return false;
  }

  private int group(int index) {
    if (index < -1) return INVALID;
    int[] label = new int[now.bodies.size()];
    for (int k = 0; k < label.length; k++) label[k] = k;
    for (int a = 0; a < label.length; a++) {
      for (int b = 0; b < label.length; b++) {
        if ((touching(a) >> b & 1) == 1) {
          int low = Math.min(label[a], label[b]);
          int high = Math.max(label[a], label[b]);
          for (int k = 0; k < label.length; k++) if (label[k] == high) label[k] = low;
        }
      }
    }
    List<Integer> sets = new ArrayList<>();
    for (int lowest = 0; lowest < label.length; lowest++) {
      int set = 0;
      for (int k = 0; k < label.length; k++) if (label[k] == lowest) set |= 1 << k;
      if (set != 0) sets.add(set);
    }
    if (index == -1) return sets.size();
    return index < sets.size() ? sets.get(index) : MISSING;
  }

  private int density() {
    return Float.floatToIntBits((float) allArea() / (float) (2 * now.width * now.height));
  }

  private int keystone(int direction, int what) {
    if (direction < 0 || direction > 7 || what < 0 || what > 1) return INVALID;
    if (now.bodies.isEmpty()) return MISSING;
    int best = 0;
    int most = -1;
    for (int k = 0; k < now.bodies.size(); k++) {
      int[] steps = new int[1];
      settled(without(now, k), direction, steps);
      if (steps[0] > most) {
        most = steps[0];
        best = k;
      }
    }
    return what == 0 ? best : most;
  }

  private int count(int what) {
    int sum = 0;
    switch (what) {
      case 0: return now.bodies.size();
      case 1: return now.width;
      case 2: return now.height;
      case 3: return allArea();
      case 4:
        for (List<int[]> body : now.bodies) sum += body.size();
        return sum;
      case 5:
        for (int a = 0; a < now.bodies.size(); a++) {
          for (int b = 0; b < a; b++) if (relation(now.bodies.get(a), now.bodies.get(b)) == TOUCH) sum++;
        }
        return sum;
      case 6: return before.size();
      case 7: return text.length();
      default: return INVALID;
    }
  }

  private int undo() {
    if (before.isEmpty()) return IMPOSSIBLE;
    now = before.remove(before.size() - 1);
    return before.size();
  }

  private int type(int character) {
    if (character < 32 || character > 126) return INVALID;
    if (text.length() == 60) return LIMIT;
    text += (char) character;
    return text.length();
  }

  private int clearText() {
    int was = text.length();
    text = "";
    return was;
  }

  private int fault(int what) {
    if (what < 0 || what > 2) return INVALID;
    int[] found = faults();
    return found == null ? MISSING : found[what];
  }

  private int[] faults() {
    if (!FORM.matcher(text).matches()) {
      int place = 0;
      while (place < text.length() && canGoOn(text.substring(0, place + 1))) place++;
      return new int[] {place, 1, 0};
    }
    List<int[]> corners = corners();
    for (int k = 0; k < corners.size(); k++) {
      if (corners.get(k)[0] > now.width || corners.get(k)[1] > now.height) return new int[] {0, 2, k};
    }
    double angles = 0;
    for (int k = 0; k < corners.size(); k++) {
      int[] a = corners.get((k + corners.size() - 1) % corners.size());
      int[] b = corners.get(k);
      int[] c = corners.get((k + 1) % corners.size());
      if (area(List.of(a, b, c)) <= 0) return new int[] {0, 3, k};
      double turn = Math.atan2(c[1] - b[1], c[0] - b[0]) - Math.atan2(b[1] - a[1], b[0] - a[0]);
      angles += turn < 0 ? turn + 2 * Math.PI : turn;
    }
    if (angles > 3 * Math.PI) return new int[] {0, 3, corners.size()};
    int set = overlapped(corners, now, -1);
    if (set != 0) return new int[] {0, 4, Integer.numberOfTrailingZeros(set)};
    return null;
  }

  private static boolean canGoOn(String start) {
    Matcher matcher = FORM.matcher(start);
    return matcher.matches() || matcher.hitEnd();
  }

  private List<int[]> corners() {
    List<int[]> corners = new ArrayList<>();
    for (String told : text.split(";")) {
      String[] places = told.split(",");
      corners.add(new int[] {Integer.parseInt(places[0]), Integer.parseInt(places[1])});
    }
    return corners;
  }

  private int allArea() {
    int sum = 0;
    for (List<int[]> body : now.bodies) sum += area(body);
    return sum;
  }

  private int walls(List<int[]> body) {
    int set = 0;
    for (int[] corner : body) {
      if (corner[0] == 0) set |= 1;
      if (corner[0] == now.width) set |= 2;
      if (corner[1] == 0) set |= 4;
      if (corner[1] == now.height) set |= 8;
    }
    return set;
  }

  private int touching(int body) {
    int set = 0;
    for (int k = 0; k < now.bodies.size(); k++) {
      if (k != body && relation(now.bodies.get(body), now.bodies.get(k)) == TOUCH) set |= 1 << k;
    }
    return set;
  }

  private int freeDirections(int body) {
    int set = 0;
    for (int d = 0; d < 8; d++) if (free(step(now, body, d), body)) set |= 1 << d;
    return set;
  }

  private boolean jammed(int body) {
    int set = freeDirections(body);
    return (set & 1) == 0 && (set & 4) == 0 && (set & 16) == 0 && (set & 64) == 0;
  }

  private static State with(State state, int body, List<int[]> corners) {
    List<List<int[]>> bodies = new ArrayList<>(state.bodies);
    bodies.set(body, corners);
    return new State(state.width, state.height, bodies);
  }

  private static State without(State state, int body) {
    List<List<int[]>> bodies = new ArrayList<>(state.bodies);
    bodies.remove(body);
    return new State(state.width, state.height, bodies);
  }

  private static State step(State state, int body, int direction) {
    List<int[]> moved = new ArrayList<>();
    for (int[] corner : state.bodies.get(body)) {
      moved.add(new int[] {corner[0] + STEPS[direction][0], corner[1] + STEPS[direction][1]});
    }
    return with(state, body, moved);
  }

  private static boolean free(State state, int body) {
    List<int[]> corners = state.bodies.get(body);
    return inside(corners, state.width, state.height) && overlapped(corners, state, body) == 0;
  }

  private static boolean inside(List<int[]> body, int width, int height) {
    for (int[] corner : body) {
      if (corner[0] < 0 || corner[0] > width || corner[1] < 0 || corner[1] > height) return false;
    }
    return true;
  }

  private static int overlapped(List<int[]> corners, State state, int but) {
    int set = 0;
    for (int k = 0; k < state.bodies.size(); k++) {
      if (k != but && relation(corners, state.bodies.get(k)) == OVERLAP) set |= 1 << k;
    }
    return set;
  }

  private static int least(List<int[]> body, int axis) {
    int least = 1000;
    for (int[] corner : body) least = Math.min(least, corner[axis]);
    return least;
  }

  private static int greatest(List<int[]> body, int axis) {
    int greatest = -1000;
    for (int[] corner : body) greatest = Math.max(greatest, corner[axis]);
    return greatest;
  }

  /** By triangles that fan out from the first corner. */
  private static int area(List<int[]> corners) {
    int sum = 0;
    int[] o = corners.get(0);
    for (int k = 1; k + 1 < corners.size(); k++) {
      int[] a = corners.get(k);
      int[] b = corners.get(k + 1);
      sum += (a[0] - o[0]) * (b[1] - o[1]) - (b[0] - o[0]) * (a[1] - o[1]);
    }
    return sum;
  }

  /**
   * Two convex bodies have a point in common just if the hull of the differences of their corners has the
   * point 0,0; their insides have one just if it is inside the hull.
   */
  private static int relation(List<int[]> one, List<int[]> other) {
    if (least(one, 0) > greatest(other, 0) || least(other, 0) > greatest(one, 0)) return APART;
    if (least(one, 1) > greatest(other, 1) || least(other, 1) > greatest(one, 1)) return APART;
    List<int[]> points = new ArrayList<>();
    for (int[] a : one) for (int[] b : other) points.add(new int[] {a[0] - b[0], a[1] - b[1]});
    List<int[]> hull = hull(points);
    boolean border = false;
    for (int k = 0; k < hull.size(); k++) {
      int[] a = hull.get(k);
      int[] b = hull.get((k + 1) % hull.size());
      int turn = a[0] * b[1] - a[1] * b[0];
      if (turn < 0) return APART;
      border |= turn == 0;
    }
    return border ? TOUCH : OVERLAP;
  }

  static List<int[]> hull(List<int[]> points) {
    List<int[]> sorted = new ArrayList<>(points);
    sorted.sort((p, q) -> p[0] != q[0] ? Integer.compare(p[0], q[0]) : Integer.compare(p[1], q[1]));
    List<int[]> hull = new ArrayList<>();
    for (int pass = 0; pass < 2; pass++) {
      int bottom = hull.size();
      for (int k = 0; k < sorted.size(); k++) {
        int[] point = sorted.get(pass == 0 ? k : sorted.size() - 1 - k);
        while (hull.size() >= bottom + 2
            && area(List.of(hull.get(hull.size() - 2), hull.get(hull.size() - 1), point)) <= 0) {
          hull.remove(hull.size() - 1);
        }
        hull.add(point);
      }
      hull.remove(hull.size() - 1);
    }
    return hull;
  }
}
