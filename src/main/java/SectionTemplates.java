/**
 * Cross sections of a road, walked out from its axis to both sides by templates that a text tells.
 *
 * <p>Every row that a call needs is made in the constructor and used again, so that no call makes an object.
 */
public final class SectionTemplates {
    public static final int BAD = -1, NONE = -2;

    private static final int LEFT = -1, RIGHT = 1;
    private static final int MOST_SIGNS = 400, MOST_TEMPLATES = 6, MOST_STEPS = 12, MOST_OPEN = 5;
    private static final int MOST_POINTS = 12, MOST_KEPT = 20;
    private static final int FIRST_SIGN = 32, LAST_SIGN = 126;
    private static final int FARTHEST_POINT = 100000, STEEPEST_BANK = 150;
    private static final int FARTHEST_LAND = 1000000, LAST_METRE = 100000;

    /** The codes of corners, and the kinds of the orders that walk to them. */
    private static final int AXIS = 0, LANE = 1, BANKED = 2, JUMP = 3, SLOPE = 4, WALL = 5;

    /** The kinds of the orders that only say which order is next; the first four are the conditions of ?. */
    private static final int IF_BELOW = 6, IF_ABOVE = 7, IF_ON = 8, IF_FAR = 9, LEAP = 10;

    /** A step is one order; a ? with others has a leap over them besides. */
    private static final int MOST_ORDERS = 2 * MOST_STEPS;

    /** A side's corners, the axis with them. */
    private static final int MOST_CORNERS = MOST_STEPS + 1;

    /** What ? took. */
    private static final int TOOK_NONE = 0, TOOK_FIRST = 1, TOOK_OTHERS = 2;

    /** Levels are walked in thousandths of a mm: no step but S and W leaves them. */
    private static final long THOUSAND = 1000;

    private static final long BASE = 1000000000;

    /**
     * Limbs of nine digits. A fraction of one corner or one piece of area stays under 60 digits. The lower part
     * of a whole area divides a product of at most 36 crossings with the ground (11 digits each), 24 widths of J
     * (5 digits each), 11 distances of ground points (47 digits in all) and what two S leave (44): some 620 digits.
     */
    private static final int SMALL = 16, LARGE = 100, SCRATCH = 128;

    /** Far above what any loop that it bounds can need. */
    private static final int ENOUGH = 1000000;

    private final Reader reader;
    private Templates templates;
    private Templates draft;
    private final Ground ground;
    private final Ground walkedGround;
    private int axisLevel;
    private int axisBank;
    private int landLeft;
    private int landRight;
    private final Arithmetic arithmetic;
    private final Section section;
    private final Walker walker;
    private final Areas areas;
    private final Earthwork cutKept;
    private final Earthwork fillKept;
    private int sectionsKept;
    private int lastMetre;
    private final Fraction told;

    public SectionTemplates() {
        templates = new Templates();
        draft = new Templates();
        reader = new Reader(draft);
        ground = new Ground();
        walkedGround = new Ground();
        landLeft = FARTHEST_LAND;
        landRight = FARTHEST_LAND;
        arithmetic = new Arithmetic();
        section = new Section();
        walker = new Walker(section, walkedGround, arithmetic);
        areas = new Areas(section, walkedGround, arithmetic);
        cutKept = new Earthwork();
        fillKept = new Earthwork();
        told = new Fraction(SMALL);
    }

    public boolean unit(int u) {
        return reader.collect(u);
    }

    public int read() {
        boolean good = reader.parse(draft);
        int fault = reader.at;
        reader.forget();
        if (!good) {
            return -1 - fault;
        }
        Templates old = templates;
        templates = draft;
        draft = old;
        section.forget();
        return templates.size;
    }

    public boolean ground(int off, int level) {
        return ground.add(off, level);
    }

    public void clear() {
        ground.empty();
    }

    public boolean axis(int level, int bank) {
        if (!within(level, -FARTHEST_POINT, FARTHEST_POINT) || !within(bank, -STEEPEST_BANK, STEEPEST_BANK)) {
            return false;
        }
        axisLevel = level;
        axisBank = bank;
        return true;
    }

    public boolean land(int side, int far) {
        if (!isSide(side) || !within(far, 0, FARTHEST_LAND)) {
            return false;
        }
        if (side == LEFT) {
            landLeft = far;
        } else {
            landRight = far;
        }
        return true;
    }

    public int run(int template) {
        if (template < 0 || template >= templates.size) {
            return BAD;
        }
        walkedGround.copy(ground);
        section.begin(axisLevel * THOUSAND);
        areas.forget();
        walker.walk(section.left, templates, template, axisBank);
        walker.walk(section.right, templates, template, axisBank);
        return section.corners();
    }

    public long corner(int k, int axis, int part) {
        if (k < 0 || k >= section.corners() || !within(axis, 0, 1)) {
            return missing(part);
        }
        Side side = section.sideOf(k);
        int index = section.indexOf(k);
        boolean wantsOff = axis == 0;
        int flip = wantsOff ? side.sign : 1;
        if (side.isEnd(index)) {
            return tell(wantsOff ? side.endOut : side.endLevel, flip, part);
        }
        arithmetic.ratio(told, wantsOff ? side.out(index) : side.height(index), wantsOff ? 1 : THOUSAND);
        return tell(told, flip, part);
    }

    public int code(int k) {
        if (k < 0 || k >= section.corners()) {
            return BAD;
        }
        return section.sideOf(k).codeAt(section.indexOf(k));
    }

    public boolean ended(int side) {
        return section.walked && isSide(side) && section.sideBy(side).ended;
    }

    public boolean passed(int side) {
        if (!section.walked || !isSide(side)) {
            return false;
        }
        Side walked = section.sideBy(side);
        // The corners' distances never fall on the way out, so the last one decides.
        return walked.against(walked.last, side == LEFT ? landLeft : landRight, arithmetic) > 0;
    }

    public int condition(int k) {
        return section.choiceAt(k);
    }

    public long area(boolean cut, int part) {
        if (!section.walked) {
            return missing(part);
        }
        areas.settle();
        return tell(cut ? areas.cut : areas.fill, 1, part);
    }

    public long level(int off, int part) {
        if (!section.walked) {
            return missing(part);
        }
        Side side = off < 0 ? section.left : section.right;
        long place = Math.abs((long) off);
        // The first corner that is as far out is the nearest to the axis of those above one another.
        for (int i = 0; i <= side.last; i++) {
            if (side.against(i, place, arithmetic) >= 0) {
                arithmetic.ratio(told, side.levelUp(i, place), side.levelLow(i));
                return tell(told, 1, part);
            }
        }
        return missing(part);
    }

    public int keep(int metre) {
        boolean behind = sectionsKept == 0 || metre > lastMetre;
        if (!section.walked || !within(metre, 0, LAST_METRE) || !behind || sectionsKept >= MOST_KEPT) {
            return BAD;
        }
        areas.settle();
        long metres = sectionsKept == 0 ? 0 : metre - lastMetre;
        cutKept.add(areas.cut, metres, arithmetic);
        fillKept.add(areas.fill, metres, arithmetic);
        lastMetre = metre;
        sectionsKept++;
        return sectionsKept;
    }

    public long volume(boolean cut, int part) {
        return tell(cut ? cutKept.volume : fillKept.volume, 1, part);
    }

    public int count(int what) {
        switch (what) {
            case 0:
                return templates.size;
            case 1:
                return ground.size;
            case 2:
                return section.corners();
            case 3:
                return sectionsKept;
            case 4:
                return reader.size;
            case 5:
                return section.choices;
            default:
                return BAD;
        }
    }

    private static boolean isSide(int side) {
        return side == LEFT || side == RIGHT;
    }

    private static boolean within(int value, int least, int most) {
        return value >= least && value <= most;
    }

    private static long missing(int part) {
        return part == -1 ? NONE : BAD;
    }

    private static long tell(Fraction fraction, int flip, int part) {
        if (part < -1) {
            return BAD;
        }
        if (part == -1) {
            return fraction.sign * flip;
        }
        return (part % 2 == 0 ? fraction.up : fraction.low).eighteen(part / 2);
    }

    /** Templates as rows of orders, so that a walk needs no recursion: an order's target is always behind it. */
    private static final class Templates {
        private final int[] kinds = new int[MOST_TEMPLATES * MOST_ORDERS];
        private final int[] firsts = new int[MOST_TEMPLATES * MOST_ORDERS];
        private final int[] seconds = new int[MOST_TEMPLATES * MOST_ORDERS];
        private final int[] targets = new int[MOST_TEMPLATES * MOST_ORDERS];
        private final int[] ends = new int[MOST_TEMPLATES];
        private int orders;
        private int steps;
        private int size;

        void empty() {
            orders = 0;
            size = 0;
        }

        boolean isFull() {
            return size >= MOST_TEMPLATES;
        }

        boolean hasAllSteps() {
            return steps >= MOST_STEPS;
        }

        void begin() {
            steps = 0;
        }

        void finish() {
            if (size < ends.length) {
                ends[size] = orders;
                size++;
            }
        }

        int addStep(int kind, int first, int second) {
            steps++;
            return addOrder(kind, first, second);
        }

        int addOrder(int kind, int first, int second) {
            int order = orders;
            if (order < kinds.length) {
                kinds[order] = kind;
                firsts[order] = first;
                seconds[order] = second;
                orders++;
            }
            return order;
        }

        /** A ? that does not hold, or a leap, goes on behind what has been told so far. */
        void aimHere(int order) {
            if (order >= 0 && order < targets.length) {
                targets[order] = orders;
            }
        }

        int startOf(int template) {
            return template > 0 && template <= ends.length ? ends[template - 1] : 0;
        }

        int endOf(int template) {
            return template >= 0 && template < ends.length ? ends[template] : 0;
        }

        int kindOf(int order) {
            return kinds[inside(order)];
        }

        int firstOf(int order) {
            return firsts[inside(order)];
        }

        int secondOf(int order) {
            return seconds[inside(order)];
        }

        int targetOf(int order) {
            return targets[inside(order)];
        }

        void markOthers(int order) {
            seconds[inside(order)] = 1;
        }

        private int inside(int order) {
            return Math.max(0, Math.min(order, kinds.length - 1));
        }
    }

    /** The signs that are collected, and what they tell. After a fault, {@code at} stays on it. */
    private static final class Reader {
        private final int[] signs = new int[MOST_SIGNS];
        private int size;
        private int at;
        private boolean wrong;
        private Templates into;
        /** The orders that wait for the end of their steps in ( ), the outermost first. */
        private final int[] waiting = new int[MOST_OPEN];
        private int open;

        Reader(Templates into) {
            this.into = into;
        }

        boolean collect(int sign) {
            if (sign < FIRST_SIGN || sign > LAST_SIGN || size >= signs.length) {
                return false;
            }
            signs[size] = sign;
            size++;
            return true;
        }

        void forget() {
            size = 0;
        }

        boolean parse(Templates templates) {
            into = templates;
            into.empty();
            at = 0;
            wrong = false;
            // Each turn takes a sign at least, or ends with a fault.
            for (int n = 0; n <= MOST_SIGNS && !wrong; n++) {
                if (at >= size && into.size > 0) {
                    return true;
                }
                template();
                skipBlanks();
            }
            return false;
        }

        private void template() {
            if (into.isFull()) {
                wrong = true;
            }
            expect('{');
            into.begin();
            open = 0;
            boolean inside = true;
            for (int n = 0; n <= MOST_SIGNS && inside && !wrong; n++) {
                skipBlanks();
                int sign = sign();
                if (sign == ')' && open > 0) {
                    closeSteps();
                } else if (sign == '}' && open == 0) {
                    at++;
                    into.finish();
                    inside = false;
                } else {
                    step(sign);
                }
            }
        }

        private void step(int letter) {
            int kind = kindBy(letter);
            if (kind == BAD || into.hasAllSteps()) {
                wrong = true;
                return;
            }
            at++;
            if (kind == IF_BELOW) {
                choice();
                return;
            }
            int first = kind == WALL ? 0 : number(kind == SLOPE ? 1 : 0);
            int second = 0;
            if (kind == SLOPE) {
                expect('/');
                second = number(1);
            } else if (kind == LANE || kind == JUMP) {
                second = signedNumber();
            }
            if (!wrong) {
                into.addStep(kind, first, second);
            }
        }

        private void choice() {
            skipBlanks();
            int kind = conditionBy(sign());
            if (kind == BAD) {
                wrong = true;
                return;
            }
            at++;
            int far = kind == IF_FAR ? number(0) : 0;
            openSteps();
            if (!wrong) {
                waitFor(into.addStep(kind, far, 0));
            }
        }

        private void openSteps() {
            skipBlanks();
            if (wrong || open >= MOST_OPEN || sign() != '(') {
                wrong = true;
                return;
            }
            at++;
        }

        private void waitFor(int order) {
            if (open < waiting.length) {
                waiting[open] = order;
                open++;
            }
        }

        /** Behind the first ones of a ?, the others may stand; a leap over them waits for their end. */
        private void closeSteps() {
            at++;
            open--;
            int order = open >= 0 && open < waiting.length ? waiting[open] : 0;
            skipBlanks();
            if (into.kindOf(order) == LEAP || sign() != ':') {
                into.aimHere(order);
                return;
            }
            at++;
            openSteps();
            if (!wrong) {
                into.markOthers(order);
                waitFor(into.addOrder(LEAP, 0, 0));
                into.aimHere(order);
            }
        }

        private int signedNumber() {
            skipBlanks();
            if (wrong || sign() != '-') {
                return number(0);
            }
            at++;
            return -number(0);
        }

        private int number(int least) {
            skipBlanks();
            if (wrong) {
                return 0;
            }
            int start = at;
            int first = sign();
            int value = 0;
            for (; at < size && isDigit(sign()); at++) {
                value = Math.min(value * 10 + sign() - '0', FARTHEST_POINT);
            }
            int digits = at - start;
            boolean zeroInFront = digits > 1 && first == '0';
            if (digits < 1 || digits > 5 || zeroInFront || value < least) {
                wrong = true;
                at = start;
            }
            return value;
        }

        private void expect(int due) {
            skipBlanks();
            if (wrong || sign() != due) {
                wrong = true;
                return;
            }
            at++;
        }

        private void skipBlanks() {
            while (!wrong && at < size && signs[at] == ' ') {
                at++;
            }
        }

        private int sign() {
            return at >= 0 && at < size && at < signs.length ? signs[at] : BAD;
        }

        private static boolean isDigit(int sign) {
            return sign >= '0' && sign <= '9';
        }

        private static int kindBy(int letter) {
            switch (letter) {
                case 'L':
                    return LANE;
                case 'B':
                    return BANKED;
                case 'J':
                    return JUMP;
                case 'S':
                    return SLOPE;
                case 'W':
                    return WALL;
                case '?':
                    return IF_BELOW;
                default:
                    return BAD;
            }
        }

        private static int conditionBy(int letter) {
            switch (letter) {
                case 'c':
                    return IF_BELOW;
                case 'f':
                    return IF_ABOVE;
                case 'o':
                    return IF_ON;
                case 'h':
                    return IF_FAR;
                default:
                    return BAD;
            }
        }
    }

    /** The points of the ground. A level is told as an upper part over a lower one. */
    private static final class Ground {
        private final int[] offs = new int[MOST_POINTS];
        private final int[] levels = new int[MOST_POINTS];
        private int size;

        boolean add(int off, int level) {
            if (!within(off, -FARTHEST_POINT, FARTHEST_POINT) || !within(level, -FARTHEST_POINT, FARTHEST_POINT)) {
                return false;
            }
            if (size >= MOST_POINTS || size > 0 && off <= offs[size - 1]) {
                return false;
            }
            offs[size] = off;
            levels[size] = level;
            size++;
            return true;
        }

        void empty() {
            size = 0;
        }

        void copy(Ground other) {
            size = other.size;
            for (int i = 0; i < MOST_POINTS; i++) {
                offs[i] = other.offs[i];
                levels[i] = other.levels[i];
            }
        }

        private int pointsUpTo(long off) {
            int points = 0;
            for (int i = 0; i < size && offs[i] <= off; i++) {
                points++;
            }
            return points;
        }

        long lower(long off) {
            int next = pointsUpTo(off);
            return next > 0 && next < size ? offs[next] - offs[next - 1] : 1;
        }

        long upper(long off) {
            if (size == 0) {
                return 0;
            }
            int next = pointsUpTo(off);
            if (next == 0) {
                return levels[0];
            }
            long level = levels[next - 1];
            if (next >= size) {
                return level;
            }
            return level * (offs[next] - offs[next - 1]) + (levels[next] - level) * (off - offs[next - 1]);
        }

        /** The first point farther out on a side than a place, or BAD. */
        int nextPoint(int sign, long place) {
            int next = BAD;
            for (int i = 0; i < size; i++) {
                boolean beyond = sign * offs[i] > place;
                if (beyond && (next < 0 || sign * offs[i] < sign * offs[next])) {
                    next = i;
                }
            }
            return next;
        }

        long outOf(int point, int sign) {
            return point >= 0 && point < size ? sign * offs[point] : 0;
        }

        long levelOf(int point) {
            return point >= 0 && point < size ? levels[point] : 0;
        }
    }

    /**
     * One side of a section, its corners from the axis on. Only the end on the ground may lie between whole mm
     * (or its level between thousandths): it is held besides as fractions.
     */
    private static final class Side {
        private final int sign;
        private final int[] codes = new int[MOST_CORNERS];
        private final long[] outs = new long[MOST_CORNERS];
        private final long[] heights = new long[MOST_CORNERS];
        /** How the way to a corner climbs: so much for each run. */
        private final long[] rises = new long[MOST_CORNERS];
        private final long[] runs = new long[MOST_CORNERS];
        private int last;
        private boolean ended;
        private final Fraction endOut = new Fraction(SMALL);
        private final Fraction endLevel = new Fraction(SMALL);

        Side(int sign) {
            this.sign = sign;
        }

        void begin(long axisHeight) {
            codes[0] = AXIS;
            outs[0] = 0;
            heights[0] = axisHeight;
            rises[0] = 0;
            runs[0] = 1;
            last = 0;
            ended = false;
        }

        void add(int code, long width, long drop, long rise, long run) {
            if (last + 1 >= MOST_CORNERS || last < 0) {
                return;
            }
            codes[last + 1] = code;
            outs[last + 1] = outs[last] + width;
            heights[last + 1] = heights[last] - drop;
            rises[last + 1] = rise;
            runs[last + 1] = run;
            last++;
        }

        boolean isEnd(int index) {
            return ended && index == last;
        }

        /** Whether a corner is farther out than a place (1), there (0) or not as far (-1). */
        int against(int index, long place, Arithmetic arithmetic) {
            return isEnd(index) ? arithmetic.compare(endOut, place) : Long.compare(out(index), place);
        }

        int codeAt(int index) {
            return codes[inside(index)];
        }

        long out(int index) {
            return outs[inside(index)];
        }

        long height(int index) {
            return heights[inside(index)];
        }

        long rise(int index) {
            return rises[inside(index)];
        }

        long runOf(int index) {
            return runs[inside(index)];
        }

        /** The upper part of the level at a place on the way to a corner, over {@link #levelLow}. */
        long levelUp(int index, long place) {
            int from = Math.max(0, index - 1);
            return height(from) * runOf(index) + THOUSAND * rise(index) * (place - out(from));
        }

        long levelLow(int index) {
            return THOUSAND * runOf(index);
        }

        private int inside(int index) {
            return Math.max(0, Math.min(index, MOST_CORNERS - 1));
        }
    }

    private static final class Section {
        private final Side left = new Side(LEFT);
        private final Side right = new Side(RIGHT);
        private boolean walked;
        private final int[] taken = new int[2 * MOST_STEPS];
        private int choices;

        void begin(long axisHeight) {
            left.begin(axisHeight);
            right.begin(axisHeight);
            walked = true;
            choices = 0;
        }

        void forget() {
            walked = false;
            choices = 0;
        }

        int corners() {
            return walked ? left.last + 1 + right.last : 0;
        }

        Side sideBy(int sign) {
            return sign == LEFT ? left : right;
        }

        /** The axis counts as the right side's. */
        Side sideOf(int k) {
            return k < left.last ? left : right;
        }

        int indexOf(int k) {
            return k < left.last ? left.last - k : k - left.last;
        }

        void addChoice(int what) {
            if (choices < taken.length) {
                taken[choices] = what;
                choices++;
            }
        }

        int choiceAt(int k) {
            return k >= 0 && k < choices ? taken[k] : BAD;
        }
    }

    /** Walks one side of a section by a template's orders. */
    private static final class Walker {
        private final Section section;
        private final Ground ground;
        private final Arithmetic arithmetic;
        private Side side;
        private final Fraction here = new Fraction(SMALL);
        private final Fraction there = new Fraction(SMALL);
        private final Fraction spare = new Fraction(SMALL);

        Walker(Section section, Ground ground, Arithmetic arithmetic) {
            this.section = section;
            this.ground = ground;
            this.arithmetic = arithmetic;
            this.side = section.left;
        }

        void walk(Side walked, Templates templates, int template, int bank) {
            side = walked;
            int order = templates.startOf(template);
            int end = templates.endOf(template);
            for (int n = 0; n < MOST_ORDERS && order < end && !side.ended; n++) {
                int kind = templates.kindOf(order);
                int first = templates.firstOf(order);
                int second = templates.secondOf(order);
                int next = order + 1;
                if (kind == LEAP) {
                    next = templates.targetOf(order);
                } else if (kind >= IF_BELOW) {
                    next = choose(holds(kind, first), second == 1) ? next : templates.targetOf(order);
                } else if (kind == SLOPE) {
                    slope(first, second);
                } else if (kind == WALL) {
                    wall();
                } else {
                    stride(kind, first, kind == BANKED ? -side.sign * bank : second);
                }
                order = next;
            }
        }

        private void stride(int kind, long width, long down) {
            if (kind == JUMP) {
                side.add(kind, width, THOUSAND * down, -down, width);
            } else {
                side.add(kind, width, width * down, -down, THOUSAND);
            }
        }

        private boolean choose(boolean holds, boolean hasOthers) {
            section.addChoice(holds ? TOOK_FIRST : hasOthers ? TOOK_OTHERS : TOOK_NONE);
            return holds;
        }

        private boolean holds(int kind, long far) {
            long gap = gapUp();
            switch (kind) {
                case IF_BELOW:
                    return gap > 0;
                case IF_ABOVE:
                    return gap < 0;
                case IF_ON:
                    return gap == 0;
                default:
                    return Math.abs(gap) > far * gapLow();
            }
        }

        /** How far the ground is above the last corner: this over {@link #gapLow}. */
        private long gapUp() {
            long off = side.sign * side.out(side.last);
            return THOUSAND * ground.upper(off) - side.height(side.last) * ground.lower(off);
        }

        private long gapLow() {
            return THOUSAND * ground.lower(side.sign * side.out(side.last));
        }

        private void wall() {
            long out = side.out(side.last);
            arithmetic.ratio(side.endOut, out, 1);
            arithmetic.ratio(side.endLevel, ground.upper(side.sign * out), ground.lower(side.sign * out));
            side.add(WALL, 0, 0, 0, 1);
            side.ended = true;
        }

        private void slope(long up, long over) {
            long gap = gapUp();
            int way = Long.compare(gap, 0);
            arithmetic.ratio(here, Math.abs(gap), gapLow());
            meet(way, up, over);
            arithmetic.ratio(spare, side.out(side.last), 1);
            arithmetic.add(there, side.endOut, spare, -1);
            arithmetic.ratio(spare, way * up, over);
            arithmetic.product(there, there, spare, false);
            arithmetic.ratio(spare, side.height(side.last), THOUSAND);
            arithmetic.add(side.endLevel, spare, there, 1);
            side.add(SLOPE, 0, 0, way * up, over);
            side.ended = true;
        }

        /**
         * From the gap {@code here}, out from one point of the ground to the next until the slope has closed it;
         * {@code here} becomes the way from the last one of them.
         */
        private void meet(int way, long up, long over) {
            long out = side.out(side.last);
            long height = side.height(side.last);
            long place = out;
            // How far out each mm of the gap takes to close: by the slope alone, where the ground is level to the end.
            arithmetic.ratio(spare, over, up);
            for (int n = 0; n <= MOST_POINTS; n++) {
                int point = ground.nextPoint(side.sign, place);
                if (point < 0) {
                    break;
                }
                long next = ground.outOf(point, side.sign);
                long left = way * over * (THOUSAND * ground.levelOf(point) - height) - THOUSAND * up * (next - out);
                arithmetic.ratio(there, left, THOUSAND * over);
                if (left <= 0) {
                    arithmetic.add(there, here, there, -1);
                    arithmetic.ratio(spare, next - place, 1);
                    arithmetic.product(spare, spare, there, true);
                    break;
                }
                arithmetic.ratio(here, left, THOUSAND * over);
                place = next;
            }
            arithmetic.product(here, here, spare, false);
            arithmetic.ratio(there, place, 1);
            arithmetic.add(side.endOut, there, here, 1);
        }
    }

    /**
     * The areas of a section, reckoned only when they are asked for, as they are the dearest thing here. The section
     * is cut into pieces that have neither a corner nor a point of the ground inside: over each of them the gap from
     * the section up to the ground changes evenly.
     */
    private static final class Areas {
        private final Section section;
        private final Ground ground;
        private final Arithmetic arithmetic;
        private final Fraction cut = new Fraction(LARGE);
        private final Fraction fill = new Fraction(LARGE);
        private boolean settled;
        /** The way to this corner is being cut, out from this place. */
        private Side side;
        private int index;
        private long place;
        private final Fraction here = new Fraction(SMALL);
        private final Fraction there = new Fraction(SMALL);
        private final Fraction halfWidth = new Fraction(SMALL);
        private final Fraction share = new Fraction(SMALL);
        private final Fraction spare = new Fraction(SMALL);

        Areas(Section section, Ground ground, Arithmetic arithmetic) {
            this.section = section;
            this.ground = ground;
            this.arithmetic = arithmetic;
            this.side = section.left;
        }

        void forget() {
            settled = false;
        }

        void settle() {
            if (settled) {
                return;
            }
            settled = true;
            arithmetic.ratio(cut, 0, 1);
            arithmetic.ratio(fill, 0, 1);
            startAt(section.left);
            for (int n = 0; n < ENOUGH && findPiece(); n++) {
                measurePiece();
                if (here.sign * there.sign < 0) {
                    addTriangle(here, there);
                    addTriangle(there, here);
                } else {
                    addTrapezium();
                }
            }
        }

        private void startAt(Side walked) {
            side = walked;
            index = 1;
            place = 0;
        }

        /** Goes on to the next way to a corner that leads farther out than the pieces so far. */
        private boolean findPiece() {
            for (int n = 0; n <= 2 * MOST_CORNERS; n++) {
                if (index > side.last) {
                    if (side == section.right) {
                        return false;
                    }
                    startAt(section.right);
                } else if (side.against(index, place, arithmetic) > 0) {
                    return true;
                } else {
                    index++;
                }
            }
            return false;
        }

        /** Measures the piece from {@code place} to the next corner or point of the ground, and goes on to there. */
        private void measurePiece() {
            gapAt(here, place);
            int point = ground.nextPoint(side.sign, place);
            long next = ground.outOf(point, side.sign);
            boolean pointFirst = point >= 0 && side.against(index, next, arithmetic) > 0;
            if (!pointFirst && side.isEnd(index)) {
                arithmetic.ratio(spare, place, 1);
                arithmetic.add(halfWidth, side.endOut, spare, -1);
                arithmetic.ratio(spare, 1, 2);
                arithmetic.product(halfWidth, halfWidth, spare, false);
                // A side ends on the ground.
                arithmetic.ratio(there, 0, 1);
                index++;
                return;
            }
            if (!pointFirst) {
                next = side.out(index);
            }
            gapAt(there, next);
            arithmetic.ratio(halfWidth, next - place, 2);
            place = next;
        }

        private void gapAt(Fraction gap, long out) {
            long off = side.sign * out;
            arithmetic.ratio(gap, ground.upper(off), ground.lower(off));
            arithmetic.ratio(spare, side.levelUp(index, out), side.levelLow(index));
            arithmetic.add(gap, gap, spare, -1);
        }

        private void addTrapezium() {
            arithmetic.add(share, here, there, 1);
            arithmetic.product(share, share, halfWidth, false);
            addShare();
        }

        /** Of the piece's width, a triangle has as much as its gap is of both. */
        private void addTriangle(Fraction gap, Fraction opposite) {
            arithmetic.add(spare, gap, opposite, -1);
            arithmetic.product(share, gap, gap, false);
            arithmetic.product(share, share, halfWidth, false);
            arithmetic.product(share, share, spare, true);
            addShare();
        }

        private void addShare() {
            Fraction sum = share.sign > 0 ? cut : fill;
            arithmetic.add(sum, sum, share, share.sign);
        }
    }

    /** One kind of area as last kept, and its volume up to there. */
    private static final class Earthwork {
        private final Whole last = new Whole(SMALL);
        private final Whole kept = new Whole(SMALL);
        private final Whole product = new Whole(SMALL);
        private final Whole halfDistance = new Whole(SMALL);
        private final Fraction volume = new Fraction(SMALL);

        void add(Fraction area, long metres, Arithmetic arithmetic) {
            arithmetic.divide(kept, area.up, area.low);
            last.sum(last, kept);
            // Half of a distance in whole metres is a whole number of mm.
            halfDistance.put(metres * THOUSAND / 2);
            product.product(last, halfDistance);
            volume.up.sum(volume.up, product);
            volume.sign = volume.up.size > 0 ? 1 : 0;
            last.copy(kept);
        }
    }

    /** A fraction in least terms. */
    private static final class Fraction {
        private int sign;
        private final Whole up;
        private final Whole low;

        Fraction(int most) {
            up = new Whole(most);
            low = new Whole(most);
            low.put(1);
        }
    }

    /** Exact arithmetic; what it answers is in least terms, if what it is given is. */
    private static final class Arithmetic {
        private final Whole common = new Whole(SCRATCH);
        private final Whole again = new Whole(SCRATCH);
        private final Whole aUp = new Whole(SCRATCH);
        private final Whole bUp = new Whole(SCRATCH);
        private final Whole aLow = new Whole(SCRATCH);
        private final Whole bLow = new Whole(SCRATCH);
        private final Whole up = new Whole(SCRATCH);
        private final Whole rest = new Whole(SCRATCH);
        private final Whole divisor = new Whole(SCRATCH);
        private final Whole other = new Whole(SCRATCH);
        private final Whole unused = new Whole(SCRATCH);

        void ratio(Fraction into, long upper, long lower) {
            long size = Math.abs(upper);
            long shared = commonOf(size, lower);
            if (lower <= 0 || shared <= 0) {
                into.sign = 0;
                into.up.put(0);
                into.low.put(1);
                return;
            }
            into.sign = Long.compare(upper, 0);
            into.up.put(size / shared);
            into.low.put(lower / shared);
        }

        /**
         * The sum of one fraction and, by {@code way} 1 or -1, another one or its opposite. Only what both lower
         * parts have in common can be cancelled from it, so that two large numbers' common factor is never sought.
         */
        void add(Fraction into, Fraction a, Fraction b, int way) {
            findCommon(common, a.low, b.low);
            divide(aLow, a.low, common);
            divide(bLow, b.low, common);
            aUp.product(a.up, bLow);
            bUp.product(b.up, aLow);
            int bSign = b.sign * way;
            int order = aUp.compare(bUp);
            int sign = order >= 0 ? a.sign : bSign;
            if (a.sign * bSign >= 0) {
                up.sum(aUp, bUp);
            } else {
                up.difference(order >= 0 ? aUp : bUp, order >= 0 ? bUp : aUp);
            }
            findCommon(again, up, common);
            divide(bLow, b.low, again);
            divide(into.up, up, again);
            into.low.product(aLow, bLow);
            into.sign = into.up.size > 0 ? sign : 0;
        }

        /** One fraction by another one or, if {@code inverse}, by that one's inverse; 0 has none. */
        void product(Fraction into, Fraction a, Fraction b, boolean inverse) {
            if (inverse && b.sign == 0) {
                return;
            }
            aUp.product(a.up, inverse ? b.low : b.up);
            aLow.product(a.low, inverse ? b.up : b.low);
            findCommon(common, aUp, aLow);
            divide(into.up, aUp, common);
            divide(into.low, aLow, common);
            into.sign = a.sign * b.sign;
        }

        /** A fraction that is not below 0 against a whole number that is not. */
        int compare(Fraction a, long b) {
            bUp.put(b);
            aUp.product(a.low, bUp);
            return a.up.compare(aUp);
        }

        /** The quotient, cut off, of a by b, which is not 0; what is left stays in {@code rest}. */
        void divide(Whole quotient, Whole a, Whole b) {
            long factor = b.factor();
            rest.scale(a, factor);
            divisor.scale(b, factor);
            int places = rest.size - divisor.size;
            quotient.beginDigits(places + 1);
            for (int i = places; i >= 0; i--) {
                long digit = 0;
                long more = rest.timesAt(divisor, i);
                for (int n = 0; n < ENOUGH && more > 0; n++) {
                    rest.takeAway(divisor, more, i);
                    digit += more;
                    more = rest.timesAt(divisor, i);
                }
                quotient.setDigit(i, digit);
            }
            rest.unscale(factor);
        }

        private void findCommon(Whole into, Whole a, Whole b) {
            into.copy(a);
            other.copy(b);
            for (int n = 0; n < ENOUGH && other.size > 0; n++) {
                if (into.size <= 2 && other.size <= 2) {
                    into.put(commonOf(into.eighteen(0), other.eighteen(0)));
                    return;
                }
                divide(unused, into, other);
                into.copy(other);
                other.copy(rest);
            }
        }

        /** The greatest common divisor of two numbers that are not below 0. */
        private static long commonOf(long a, long b) {
            long greater = a;
            long less = b;
            for (int n = 0; n < ENOUGH && less > 0; n++) {
                long left = greater % less;
                greater = less;
                less = left;
            }
            return greater;
        }
    }

    /**
     * A whole number from 0 on, in limbs of nine digits, the lowest first; the limb at {@code size - 1} is not 0.
     * The limits of the document keep every number inside its row.
     */
    private static final class Whole {
        private final long[] limbs;
        private int size;

        Whole(int most) {
            limbs = new long[Math.max(1, most)];
        }

        void put(long value) {
            long rest = value;
            int used = 0;
            for (int i = 0; i < limbs.length && rest > 0; i++) {
                limbs[i] = rest % BASE;
                rest /= BASE;
                used = i + 1;
            }
            size = used;
        }

        void copy(Whole other) {
            int most = other.size < limbs.length ? other.size : limbs.length;
            for (int i = 0; i < most; i++) {
                limbs[i] = other.limbs[i];
            }
            size = most;
        }

        long eighteen(int k) {
            int i = 2 * k;
            if (i < 0 || i >= size) {
                return 0;
            }
            return limbs[i] + (i + 1 < size ? limbs[i + 1] * BASE : 0);
        }

        int compare(Whole other) {
            if (size != other.size) {
                return size > other.size ? 1 : -1;
            }
            for (int i = size - 1; i >= 0; i--) {
                if (limbs[i] != other.limbs[i]) {
                    return limbs[i] > other.limbs[i] ? 1 : -1;
                }
            }
            return 0;
        }

        void sum(Whole a, Whole b) {
            int longer = a.size > b.size ? a.size : b.size;
            int most = longer < limbs.length ? longer + 1 : limbs.length;
            long carry = 0;
            int used = 0;
            for (int i = 0; i < most; i++) {
                long limb = carry + (i < a.size ? a.limbs[i] : 0) + (i < b.size ? b.limbs[i] : 0);
                carry = limb >= BASE ? 1 : 0;
                limbs[i] = limb - carry * BASE;
                used = limbs[i] != 0 ? i + 1 : used;
            }
            size = used;
        }

        /** a less b, which is not greater. */
        void difference(Whole a, Whole b) {
            int most = a.size < limbs.length ? a.size : limbs.length;
            long borrow = 0;
            int used = 0;
            for (int i = 0; i < most; i++) {
                long limb = a.limbs[i] - borrow - (i < b.size ? b.limbs[i] : 0);
                borrow = limb < 0 ? 1 : 0;
                limbs[i] = limb + borrow * BASE;
                used = limbs[i] != 0 ? i + 1 : used;
            }
            size = used;
        }

        /** The product of two numbers that are not this one. */
        void product(Whole a, Whole b) {
            int both = a.size > 0 && b.size > 0 ? a.size + b.size : 0;
            int most = both < limbs.length ? both : limbs.length;
            for (int i = 0; i < most; i++) {
                limbs[i] = 0;
            }
            for (int i = 0; i < a.size; i++) {
                long carry = 0;
                for (int j = 0; j <= b.size && i + j < most; j++) {
                    long limb = limbs[i + j] + carry + (j < b.size ? a.limbs[i] * b.limbs[j] : 0);
                    carry = limb / BASE;
                    limbs[i + j] = limb - carry * BASE;
                }
            }
            size = most > 0 && limbs[most - 1] == 0 ? most - 1 : most;
        }

        /** What makes the highest limb of a divisor half of the base at least, so that guesses by it are close. */
        long factor() {
            return size > 0 ? BASE / (limbs[size - 1] + 1) : 1;
        }

        void scale(Whole a, long factor) {
            int most = a.size < limbs.length ? a.size + 1 : limbs.length;
            long carry = 0;
            int used = 0;
            for (int i = 0; i < most; i++) {
                long limb = carry + (i < a.size ? a.limbs[i] * factor : 0);
                carry = limb / BASE;
                limbs[i] = limb - carry * BASE;
                used = limbs[i] != 0 ? i + 1 : used;
            }
            size = used;
        }

        void unscale(long factor) {
            long rest = 0;
            int used = 0;
            for (int i = size - 1; i >= 0 && factor > 0; i--) {
                long limb = rest * BASE + limbs[i];
                limbs[i] = limb / factor;
                rest = limb - limbs[i] * factor;
                used = used == 0 && limbs[i] != 0 ? i + 1 : used;
            }
            size = used;
        }

        void beginDigits(int digits) {
            size = digits < 0 ? 0 : digits < limbs.length ? digits : limbs.length;
        }

        /** From the highest on: a 0 there is none of the number's limbs. */
        void setDigit(int i, long digit) {
            if (i < 0 || i >= limbs.length) {
                return;
            }
            limbs[i] = digit;
            if (digit == 0 && size == i + 1) {
                size = i;
            }
        }

        /** How often a divisor, moved up by some limbs, surely goes into this; 0 only if it does not. */
        long timesAt(Whole divisor, int shift) {
            int top = divisor.size - 1;
            int high = shift + top;
            if (top < 0 || high >= limbs.length || high >= size) {
                return 0;
            }
            long upper = high + 1 < size && high + 1 < limbs.length ? limbs[high + 1] * BASE : 0;
            long times = (upper + limbs[high]) / (divisor.limbs[top] + 1);
            if (times > 0) {
                return times;
            }
            for (int i = top; i >= 0; i--) {
                if (limbs[shift + i] != divisor.limbs[i]) {
                    return limbs[shift + i] > divisor.limbs[i] ? 1 : 0;
                }
            }
            return 1;
        }

        void takeAway(Whole divisor, long times, int shift) {
            long borrow = 0;
            for (int i = 0; shift + i < size && (i < divisor.size || borrow > 0); i++) {
                long limb = limbs[shift + i] - borrow - (i < divisor.size ? divisor.limbs[i] * times : 0);
                borrow = limb < 0 ? (BASE - 1 - limb) / BASE : 0;
                limbs[shift + i] = limb + borrow * BASE;
            }
            while (size > 0 && limbs[size - 1] == 0) {
                size--;
            }
        }
    }
}
