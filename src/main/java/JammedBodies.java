/**
 * Convex bodies that are packed into a box, slid, turned and settled step by step.
 *
 * All rows are made by the constructors and used again, so that no call makes an object.
 */
public final class JammedBodies {
    public static final int INVALID_ARGUMENT = -1000001;
    public static final int NOT_POSSIBLE = -1000002;
    public static final int LIMIT_REACHED = -1000003;
    public static final int NOT_FOUND = -1000004;

    private static final int MOST_BODIES = 8;
    private static final int MOST_CORNERS = 6;
    private static final int LEAST_CORNERS = 3;
    private static final int MOST_STATES = 4;
    private static final int MOST_SIGNS = 60;
    private static final int LEAST_SIZE = 10;
    private static final int MOST_SIZE = 60;
    private static final int FIRST_SIZE = 20;

    /** A body is at least 1 wide and high, so that it never goes as many steps as the box is long. */
    private static final int MOST_STEPS = 60;

    /** Every round of settling but the last goes a step, and all bodies go fewer than 8 times 60. */
    private static final int MOST_ROUNDS = 1000;

    private static final int ALL_DIRECTIONS = 8;
    private static final int TO_NEXT_STRAIGHT = 2;
    private static final int[] STEP_X = {1, 1, 0, -1, -1, -1, 0, 1};
    private static final int[] STEP_Y = {0, 1, 1, 1, 0, -1, -1, -1};

    /** Below every value of cross() that places of at most two digits give. */
    private static final int FAR_TO_THE_RIGHT = -1000000;

    private static final int WALL_LEFT = 1;
    private static final int WALL_RIGHT = 2;
    private static final int WALL_BELOW = 4;
    private static final int WALL_ABOVE = 8;

    private static final int REASON_FORM = 1;
    private static final int REASON_OUTSIDE = 2;
    private static final int REASON_SHAPE = 3;
    private static final int REASON_OVERLAP = 4;

    private final Packing packing;
    private final Packing trial;
    private final History history;
    private final BodyText text;

    public JammedBodies() {
        packing = new Packing();
        trial = new Packing();
        history = new History();
        text = new BodyText();
    }

    // ---- the box

    public int box(int width, int height) {
        if (!isSize(width) || !isSize(height)) {
            return INVALID_ARGUMENT;
        }
        if (!packing.fitsInto(width, height)) {
            return NOT_POSSIBLE;
        }
        history.keep(packing);
        int before = 100 * packing.width + packing.height;
        packing.width = width;
        packing.height = height;
        return before;
    }

    public int put() {
        text.examine(packing);
        if (text.reason != 0) {
            return NOT_POSSIBLE;
        }
        if (packing.size >= MOST_BODIES) {
            return LIMIT_REACHED;
        }
        history.keep(packing);
        return packing.add(text.told);
    }

    public int remove(int body) {
        if (!packing.has(body)) {
            return INVALID_ARGUMENT;
        }
        history.keep(packing);
        packing.takeOut(body);
        return packing.size;
    }

    public int empty() {
        history.keep(packing);
        int before = packing.size;
        packing.size = 0;
        return before;
    }

    // ---- moves

    public int slide(int body, int direction, int most) {
        if (!packing.has(body) || !isDirection(direction) || most < 1 || most > MOST_STEPS) {
            return INVALID_ARGUMENT;
        }
        int steps = packing.freeSteps(body, direction, most);
        if (steps == 0) {
            return NOT_POSSIBLE;
        }
        history.keep(packing);
        packing.shift(body, direction, steps);
        return steps;
    }

    public int turn(int body) {
        if (!packing.has(body)) {
            return INVALID_ARGUMENT;
        }
        if (!packing.canTurn(body)) {
            return NOT_POSSIBLE;
        }
        history.keep(packing);
        Body turned = packing.at(body);
        turned.turnLeft();
        return turned.right() - turned.left();
    }

    public int settle(int direction) {
        if (!isDirection(direction)) {
            return INVALID_ARGUMENT;
        }
        history.keep(packing);
        return packing.settleAll(direction);
    }

    // ---- what there is

    public int bodyOf(int body, int what) {
        if (!packing.has(body) || what < 0 || what >= 10 + 2 * MOST_CORNERS) {
            return INVALID_ARGUMENT;
        }
        Body told = packing.at(body);
        switch (what) {
            case 0:
                return told.corners;
            case 1:
                return told.doubleArea();
            case 2:
                return told.left();
            case 3:
                return told.right();
            case 4:
                return told.low();
            case 5:
                return told.high();
            case 6:
                return told.wallsTouched(packing.width, packing.height);
            case 7:
                return packing.touching(body);
            case 8:
                return packing.freeDirections(body);
            case 9:
                return packing.jammed() >> body & 1;
            default:
                return placeOfCorner(told, what - 10);
        }
    }

    public int parts(int one, int other, int what) {
        if (!packing.has(one) || !packing.has(other) || one == other || what < 0 || what > 2) {
            return INVALID_ARGUMENT;
        }
        Body owner = packing.at(one);
        Body far = packing.at(other);
        int plus = 0;
        int side = owner.partingSide(far);
        if (side < 0) {
            owner = packing.at(other);
            far = packing.at(one);
            plus = 10;
            side = owner.partingSide(far);
        }
        if (what == 0) {
            return side + plus;
        }
        return what == 1 ? owner.nearestCorner(side, far) : -owner.reach(side, far);
    }

    public int way(int body, int direction, int what) {
        if (!packing.has(body) || !isDirection(direction) || what < 0 || what > 2) {
            return INVALID_ARGUMENT;
        }
        int steps = packing.freeSteps(body, direction, MOST_STEPS);
        if (what == 0) {
            return steps;
        }
        Body beyond = packing.shifted(body, direction, steps + 1);
        if (what == 1) {
            return packing.overlapped(beyond, body);
        }
        return beyond.wallsBeyond(packing.width, packing.height);
    }

    public int bodies(int what) {
        switch (what) {
            case 0:
                return packing.jammed();
            case 1:
                return packing.touchingNone();
            case 2:
                return packing.touchingWalls(WALL_LEFT | WALL_RIGHT | WALL_BELOW | WALL_ABOVE);
            case 3:
                return packing.spread(packing.touchingWalls(WALL_BELOW));
            default:
                return INVALID_ARGUMENT;
        }
    }

    public int group(int index) {
        if (index < -1) {
            return INVALID_ARGUMENT;
        }
        int seen = 0;
        int groups = 0;
        for (int k = 0; k < packing.size; k++) {
            if ((seen & 1 << k) == 0) {
                int together = packing.spread(1 << k);
                if (groups == index) {
                    return together;
                }
                seen |= together;
                groups++;
            }
        }
        return index == -1 ? groups : NOT_FOUND;
    }

    public int density() {
        float filled = (float) packing.doubleArea();
        float all = (float) (2 * packing.width * packing.height);
        return all > 0.0f ? bitsOfShare(filled / all) : 0;
    }

    public int keystone(int direction, int what) {
        if (!isDirection(direction) || what < 0 || what > 1) {
            return INVALID_ARGUMENT;
        }
        // Below every number of steps, so that the first body counts even if the others do not go.
        int farthest = NOT_FOUND;
        int body = NOT_FOUND;
        for (int k = 0; k < packing.size; k++) {
            trial.copyFrom(packing);
            trial.takeOut(k);
            int steps = trial.settleAll(direction);
            if (steps > farthest) {
                farthest = steps;
                body = k;
            }
        }
        return what == 0 ? body : farthest;
    }

    public int count(int what) {
        switch (what) {
            case 0:
                return packing.size;
            case 1:
                return packing.width;
            case 2:
                return packing.height;
            case 3:
                return packing.doubleArea();
            case 4:
                return packing.allCorners();
            case 5:
                return packing.touchingPairs();
            case 6:
                return history.size;
            case 7:
                return text.length;
            default:
                return INVALID_ARGUMENT;
        }
    }

    public int undo() {
        if (history.size == 0) {
            return NOT_POSSIBLE;
        }
        history.restore(packing);
        return history.size;
    }

    // ---- texts

    public int type(int character) {
        if (character < 32 || character > 126) {
            return INVALID_ARGUMENT;
        }
        if (text.length >= MOST_SIGNS) {
            return LIMIT_REACHED;
        }
        text.append((char) character);
        return text.length;
    }

    public int clearText() {
        int before = text.length;
        text.length = 0;
        return before;
    }

    public int fault(int what) {
        if (what < 0 || what > 2) {
            return INVALID_ARGUMENT;
        }
        text.examine(packing);
        if (text.reason == 0) {
            return NOT_FOUND;
        }
        if (what == 0) {
            return text.place;
        }
        return what == 1 ? text.reason : text.cause;
    }

    private static boolean isSize(int size) {
        return size >= LEAST_SIZE && size <= MOST_SIZE;
    }

    private static boolean isDirection(int direction) {
        return direction >= 0 && direction < ALL_DIRECTIONS;
    }

    private static int stepX(int direction) {
        return direction >= 0 && direction < STEP_X.length ? STEP_X[direction] : 0;
    }

    private static int stepY(int direction) {
        return direction >= 0 && direction < STEP_Y.length ? STEP_Y[direction] : 0;
    }

    private static int placeOfCorner(Body body, int code) {
        int corner = code >> 1;
        if (corner >= body.corners) {
            return NOT_FOUND;
        }
        return (code & 1) == 0 ? body.x(corner) : body.y(corner);
    }

    /**
     * The bits of a float from 0 to 1, found by doubling, which is exact: the language part has no call
     * that tells them.
     */
    private static int bitsOfShare(float share) {
        if (!(share > 0.0f)) {
            return 0;
        }
        int exponent = 127;
        float rest = share;
        while (rest < 1.0f && exponent > 1) {
            rest = rest * 2.0f;
            exponent--;
        }
        return (exponent << 23) + (int) ((rest - 1.0f) * 8388608.0f);
    }

    private static int lowest(int set) {
        int body = 0;
        while (body < MOST_BODIES && (set & 1 << body) == 0) {
            body++;
        }
        return body;
    }

    /** Twice the area of a triangle: above 0 if c is to the left of the way from a to b, below if to the right. */
    private static int cross(int ax, int ay, int bx, int by, int cx, int cy) {
        return (bx - ax) * (cy - ay) - (by - ay) * (cx - ax);
    }

    /** A body by its corners; those of a text that is being read may have any shape. */
    private static final class Body {
        private final int[] xs;
        private final int[] ys;
        int corners;

        Body() {
            xs = new int[MOST_CORNERS];
            ys = new int[MOST_CORNERS];
            corners = 0;
        }

        int x(int corner) {
            return corner >= 0 && corner < xs.length ? xs[corner] : 0;
        }

        int y(int corner) {
            return corner >= 0 && corner < ys.length ? ys[corner] : 0;
        }

        private void place(int corner, int x, int y) {
            if (corner >= 0 && corner < xs.length && corner < ys.length) {
                xs[corner] = x;
                ys[corner] = y;
            }
        }

        void addCorner(int x, int y) {
            if (corners < MOST_CORNERS) {
                place(corners, x, y);
                corners++;
            }
        }

        void copyFrom(Body other) {
            corners = other.corners;
            for (int k = 0; k < corners; k++) {
                place(k, other.x(k), other.y(k));
            }
        }

        void move(int right, int up) {
            for (int k = 0; k < corners; k++) {
                place(k, x(k) + right, y(k) + up);
            }
        }

        void turnLeft() {
            int left = left();
            int low = low();
            int high = high();
            for (int k = 0; k < corners; k++) {
                place(k, left + high - y(k), low + x(k) - left);
            }
        }

        private int following(int corner) {
            return corner + 1 < corners ? corner + 1 : 0;
        }

        int left() {
            int least = x(0);
            for (int k = 1; k < corners; k++) {
                least = Math.min(least, x(k));
            }
            return least;
        }

        int right() {
            int greatest = x(0);
            for (int k = 1; k < corners; k++) {
                greatest = Math.max(greatest, x(k));
            }
            return greatest;
        }

        int low() {
            int least = y(0);
            for (int k = 1; k < corners; k++) {
                least = Math.min(least, y(k));
            }
            return least;
        }

        int high() {
            int greatest = y(0);
            for (int k = 1; k < corners; k++) {
                greatest = Math.max(greatest, y(k));
            }
            return greatest;
        }

        int doubleArea() {
            int area = 0;
            for (int k = 0; k < corners; k++) {
                int next = following(k);
                area += x(k) * y(next) - x(next) * y(k);
            }
            return area;
        }

        int wallsTouched(int width, int height) {
            int walls = left() == 0 ? WALL_LEFT : 0;
            walls |= right() == width ? WALL_RIGHT : 0;
            walls |= low() == 0 ? WALL_BELOW : 0;
            walls |= high() == height ? WALL_ABOVE : 0;
            return walls;
        }

        int wallsBeyond(int width, int height) {
            int walls = left() < 0 ? WALL_LEFT : 0;
            walls |= right() > width ? WALL_RIGHT : 0;
            walls |= low() < 0 ? WALL_BELOW : 0;
            walls |= high() > height ? WALL_ABOVE : 0;
            return walls;
        }

        /** How far to the left of a side the other body reaches: the side parts them if this is not above 0. */
        int reach(int side, Body other) {
            int next = following(side);
            int fromX = x(side);
            int fromY = y(side);
            int toX = x(next);
            int toY = y(next);
            int farthest = FAR_TO_THE_RIGHT;
            for (int k = 0; k < other.corners; k++) {
                farthest = Math.max(farthest, cross(fromX, fromY, toX, toY, other.x(k), other.y(k)));
            }
            return farthest;
        }

        /**
         * The sign of the least reach of the other body over the sides: above 0 if no side parts them,
         * below 0 if one does without a point in common. Both bodies together tell all: a line that parts
         * convex bodies, with or without a point in common, runs along a side of one of them.
         */
        int leastReach(Body other) {
            int least = 1;
            for (int k = 0; k < corners && least >= 0; k++) {
                least = Math.min(least, reach(k, other));
            }
            return least;
        }

        int partingSide(Body other) {
            for (int k = 0; k < corners; k++) {
                if (reach(k, other) <= 0) {
                    return k;
                }
            }
            return -1;
        }

        int nearestCorner(int side, Body other) {
            int next = following(side);
            int farthest = reach(side, other);
            for (int k = 0; k < other.corners; k++) {
                if (cross(x(side), y(side), x(next), y(next), other.x(k), other.y(k)) == farthest) {
                    return k;
                }
            }
            return 0;
        }

        int cornerOutside(int width, int height) {
            for (int k = 0; k < corners; k++) {
                if (x(k) > width || y(k) > height) {
                    return k;
                }
            }
            return -1;
        }

        /** The cause of a fault of the shape, or -1 if the body is convex and told the left way round. */
        int causeOfShape() {
            for (int k = 0; k < corners; k++) {
                int ahead = k > 0 ? k - 1 : corners - 1;
                int next = following(k);
                if (cross(x(ahead), y(ahead), x(k), y(k), x(next), y(next)) <= 0) {
                    return k;
                }
            }
            return timesRound() > 1 ? corners : -1;
        }

        /** Each turn is less than a half, so that a side that points up behind one that points down is a round. */
        private int timesRound() {
            int times = 0;
            for (int k = 0; k < corners; k++) {
                if (!pointsUp(k) && pointsUp(following(k))) {
                    times++;
                }
            }
            return times;
        }

        /** Of the two sides that are level just the one to the right points up: one half of all directions. */
        private boolean pointsUp(int side) {
            int next = following(side);
            return y(next) > y(side) || y(next) == y(side) && x(next) > x(side);
        }
    }

    /** A state: the box and the bodies in it. */
    private static final class Packing {
        private final Body[] row;
        private final Body nobody;
        private final Body ghost;
        int size;
        int width;
        int height;

        Packing() {
            row = new Body[MOST_BODIES];
            for (int k = 0; k < row.length; k++) {
                row[k] = new Body();
            }
            nobody = new Body();
            ghost = new Body();
            size = 0;
            width = FIRST_SIZE;
            height = FIRST_SIZE;
        }

        boolean has(int number) {
            return number >= 0 && number < size;
        }

        Body at(int number) {
            if (number < 0 || number >= row.length || row[number] == null) {
                return nobody;
            }
            return row[number];
        }

        void copyFrom(Packing other) {
            size = other.size;
            width = other.width;
            height = other.height;
            for (int k = 0; k < size; k++) {
                at(k).copyFrom(other.at(k));
            }
        }

        int add(Body body) {
            at(size).copyFrom(body);
            size++;
            return size - 1;
        }

        void takeOut(int number) {
            for (int k = number; k + 1 < size; k++) {
                at(k).copyFrom(at(k + 1));
            }
            size--;
        }

        boolean fitsInto(int newWidth, int newHeight) {
            for (int k = 0; k < size; k++) {
                if (at(k).wallsBeyond(newWidth, newHeight) != 0) {
                    return false;
                }
            }
            return true;
        }

        /** The bodies that a body would overlap where it is told, but for the one with its own number. */
        int overlapped(Body body, int own) {
            int set = 0;
            for (int k = 0; k < size; k++) {
                if (k != own && body.leastReach(at(k)) > 0 && at(k).leastReach(body) > 0) {
                    set |= 1 << k;
                }
            }
            return set;
        }

        int touching(int number) {
            Body body = at(number);
            int set = 0;
            for (int k = 0; k < size; k++) {
                if (k != number && Math.min(body.leastReach(at(k)), at(k).leastReach(body)) == 0) {
                    set |= 1 << k;
                }
            }
            return set;
        }

        int touchingNone() {
            int set = 0;
            for (int k = 0; k < size; k++) {
                if (touching(k) == 0) {
                    set |= 1 << k;
                }
            }
            return set;
        }

        int touchingPairs() {
            int twice = 0;
            for (int k = 0; k < size; k++) {
                twice += Integer.bitCount(touching(k));
            }
            return twice >> 1;
        }

        int touchingWalls(int walls) {
            int set = 0;
            for (int k = 0; k < size; k++) {
                if ((at(k).wallsTouched(width, height) & walls) != 0) {
                    set |= 1 << k;
                }
            }
            return set;
        }

        /** The bodies that hang together with those of a set: each is asked once for those that it touches. */
        int spread(int set) {
            int all = set;
            int asked = 0;
            for (int turns = 0; turns < MOST_BODIES && asked != all; turns++) {
                int next = lowest(all & ~asked);
                asked |= 1 << next;
                all |= touching(next);
            }
            return all;
        }

        /** How many steps a body would go; tried by a ghost, so that a question moves nothing. */
        int freeSteps(int number, int direction, int most) {
            ghost.copyFrom(at(number));
            for (int steps = 0; steps < most; steps++) {
                ghost.move(stepX(direction), stepY(direction));
                if (ghost.wallsBeyond(width, height) != 0 || overlapped(ghost, number) != 0) {
                    return steps;
                }
            }
            return most;
        }

        int freeDirections(int number) {
            int set = 0;
            for (int direction = 0; direction < ALL_DIRECTIONS; direction++) {
                if (freeSteps(number, direction, 1) == 1) {
                    set |= 1 << direction;
                }
            }
            return set;
        }

        int jammed() {
            int set = 0;
            for (int k = 0; k < size; k++) {
                boolean free = false;
                for (int direction = 0; direction < ALL_DIRECTIONS && !free; direction += TO_NEXT_STRAIGHT) {
                    free = freeSteps(k, direction, 1) == 1;
                }
                if (!free) {
                    set |= 1 << k;
                }
            }
            return set;
        }

        void shift(int number, int direction, int steps) {
            at(number).move(steps * stepX(direction), steps * stepY(direction));
        }

        Body shifted(int number, int direction, int steps) {
            ghost.copyFrom(at(number));
            ghost.move(steps * stepX(direction), steps * stepY(direction));
            return ghost;
        }

        boolean canTurn(int number) {
            ghost.copyFrom(at(number));
            ghost.turnLeft();
            return ghost.wallsBeyond(width, height) == 0 && overlapped(ghost, number) == 0;
        }

        int settleAll(int direction) {
            int all = 0;
            for (int round = 0; round < MOST_ROUNDS; round++) {
                int gone = 0;
                for (int k = 0; k < size; k++) {
                    int steps = freeSteps(k, direction, MOST_STEPS);
                    shift(k, direction, steps);
                    gone += steps;
                }
                if (gone == 0) {
                    return all;
                }
                all += gone;
            }
            return all;
        }

        int doubleArea() {
            int area = 0;
            for (int k = 0; k < size; k++) {
                area += at(k).doubleArea();
            }
            return area;
        }

        int allCorners() {
            int corners = 0;
            for (int k = 0; k < size; k++) {
                corners += at(k).corners;
            }
            return corners;
        }
    }

    /** The latest states, in a ring, so that the oldest one gives its place to the newest. */
    private static final class History {
        private final Packing[] ring;
        private final Packing none;
        private int oldest;
        int size;

        History() {
            ring = new Packing[MOST_STATES];
            for (int k = 0; k < ring.length; k++) {
                ring[k] = new Packing();
            }
            none = new Packing();
            oldest = 0;
            size = 0;
        }

        private Packing at(int age) {
            int place = oldest + age;
            if (place >= MOST_STATES) {
                place -= MOST_STATES;
            }
            if (place < 0 || place >= ring.length || ring[place] == null) {
                return none;
            }
            return ring[place];
        }

        void keep(Packing state) {
            if (size == MOST_STATES) {
                oldest = oldest + 1 < MOST_STATES ? oldest + 1 : 0;
                size--;
            }
            at(size).copyFrom(state);
            size++;
        }

        void restore(Packing state) {
            if (size > 0) {
                size--;
                state.copyFrom(at(size));
            }
        }
    }

    /** The text, and what was found when it was last read as a body. */
    private static final class BodyText {
        private final char[] signs;
        private int cursor;
        final Body told;
        int length;
        int place;
        int reason;
        int cause;

        BodyText() {
            signs = new char[MOST_SIGNS];
            told = new Body();
            cursor = 0;
            length = 0;
            place = 0;
            reason = 0;
            cause = 0;
        }

        void append(char sign) {
            if (length >= 0 && length < signs.length) {
                signs[length] = sign;
                length++;
            }
        }

        /** Finds the fault of the text; the reason is 0 if it has none. */
        void examine(Packing packing) {
            find(0, 0, 0);
            if (!readForm()) {
                find(cursor, REASON_FORM, 0);
                return;
            }
            int outside = told.cornerOutside(packing.width, packing.height);
            if (outside >= 0) {
                find(0, REASON_OUTSIDE, outside);
                return;
            }
            int shape = told.causeOfShape();
            if (shape >= 0) {
                find(0, REASON_SHAPE, shape);
                return;
            }
            int overlapped = packing.overlapped(told, -1);
            if (overlapped != 0) {
                find(0, REASON_OVERLAP, lowest(overlapped));
            }
        }

        private void find(int newPlace, int newReason, int newCause) {
            place = newPlace;
            reason = newReason;
            cause = newCause;
        }

        /** Reads corners; where the form is broken, the cursor stays at the place of the fault. */
        private boolean readForm() {
            told.corners = 0;
            cursor = 0;
            for (int k = 0; k < MOST_CORNERS; k++) {
                if (k > 0 && !takes(';')) {
                    return false;
                }
                int x = takeNumber();
                if (x < 0 || !takes(',')) {
                    return false;
                }
                int y = takeNumber();
                if (y < 0) {
                    return false;
                }
                told.addCorner(x, y);
                if (k + 1 >= LEAST_CORNERS && cursor == length) {
                    return true;
                }
            }
            return false;
        }

        /** The sign at the cursor; behind the text one that no text can have. */
        private char sign() {
            return cursor >= 0 && cursor < length && cursor < signs.length ? signs[cursor] : (char) 0;
        }

        private boolean takes(char wanted) {
            boolean there = sign() == wanted;
            if (there) {
                cursor++;
            }
            return there;
        }

        private int takeNumber() {
            int first = takeDigit();
            if (first < 0) {
                return -1;
            }
            int second = takeDigit();
            return second < 0 ? first : 10 * first + second;
        }

        private int takeDigit() {
            char sign = sign();
            if (sign < '0' || sign > '9') {
                return -1;
            }
            cursor++;
            return sign - '0';
        }
    }
}
