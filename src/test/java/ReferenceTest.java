import java.math.BigInteger;
import java.util.ArrayList;
import java.util.Collections;
import java.util.List;
import java.util.Random;
import java.util.TreeSet;

/**
 * Random runs of calls, each answered by the class and by a slow reference that is written another way. A run has as
 * many calls as the document lets an object have, at most.
 */
public final class ReferenceTest {
    private static final int RUNS = 9000;
    private static int wrong;
    private static int compared;
    private static int longest;

    public static void main(String[] args) {
        int runs = args.length > 0 ? Integer.parseInt(args[0]) : RUNS;
        for (int seed = 0; seed < runs && wrong < 20; seed++) {
            new Run(seed).go();
        }
        for (int n = 0; n < runs / 60 && wrong < 20; n++) {
            new Run(1000000 + n).goCrowded();
            new Run(2000000 + n).goZigzag();
        }
        System.out.println(compared + " answers compared, the longest fraction with " + longest + " digits; "
                + wrong + " wrong");
        if (wrong > 0 || longest < 240) {
            System.exit(1);
        }
    }

    private static final class Run {
        final int seed;
        final Random random;
        /** Small numbers meet one another: slopes touch points, corners lie on the ground. */
        final boolean tiny;
        final Road x = new Road();
        final Reference r = new Reference();

        Run(int seed) {
            this.seed = seed;
            this.random = new Random(seed);
            this.tiny = seed % 3 == 0;
        }

        void due(String call, long got, long want) {
            compared++;
            if (got != want) {
                wrong++;
                System.out.println("run " + seed + ": " + call + " answered " + got + ", due is " + want);
            }
        }

        void due(String call, boolean got, boolean want) {
            due(call, got ? 1 : 0, want ? 1 : 0);
        }

        void text(String text) {
            for (char sign : text.toCharArray()) {
                due("unit(" + (int) sign + ")", x.unit(sign), r.unit(sign));
            }
            due("read() of " + text, x.read(), r.read());
        }

        void ground(int off, int level) {
            due("ground(" + off + ", " + level + ")", x.ground(off, level), r.ground(off, level));
        }

        void axis(int level, int bank) {
            due("axis(" + level + ", " + bank + ")", x.axis(level, bank), r.axis(level, bank));
        }

        void walk(int template) {
            due("run(" + template + ")", x.run(template), r.run(template));
        }

        void go() {
            try {
                int acts = 4 + random.nextInt(14);
                for (int n = 0; n < acts; n++) {
                    act(n);
                    ask(questions(), random.nextInt(random.nextInt(4) == 0 ? 60 : 8));
                }
                look();
            } catch (Road.Spent spent) {
                // The object has had its last call, so the run is over.
            }
        }

        void act(int n) {
            int what = random.nextInt(12);
            if (what < 2 || n == 0) {
                String text = new Text(random, tiny).tell();
                text(random.nextInt(3) == 0 ? spoil(text) : text);
            } else if (what < 4) {
                if (random.nextInt(3) == 0) {
                    x.clear();
                    r.clear();
                }
                points();
            } else if (what < 6) {
                axis(level(), random.nextInt(320) - 160);
            } else if (what < 7) {
                int side = random.nextInt(4) == 0 ? random.nextInt(5) - 2 : random.nextBoolean() ? 1 : -1;
                int far = random.nextInt(4) == 0 ? random.nextInt(1200000) - 100000 : random.nextInt(30000);
                due("land(" + side + ", " + far + ")", x.land(side, far), r.land(side, far));
            } else {
                walk(r.templates.isEmpty() ? 0 : random.nextInt(r.templates.size() + 2) - random.nextInt(2));
            }
            if (random.nextInt(3) == 0) {
                int metre = n * 5000 + random.nextInt(7000) - 4000;
                due("keep(" + metre + ")", x.keep(metre), r.keep(metre));
            }
        }

        /** Each step goes through the ground from one side to the other, so that the areas' fractions grow long. */
        void goCrowded() {
            StringBuilder text = new StringBuilder("{");
            boolean jumps = random.nextBoolean();
            int steps = random.nextBoolean() ? 11 : 12;
            for (int i = 0; i < steps; i++) {
                int width = 7001 + random.nextInt(1900);
                int down = (jumps ? 90000 : 11000) + random.nextInt(jumps ? 9999 : 3000);
                text.append(jumps ? "J" : "L").append(width).append(i % 2 == 0 ? " " : " -").append(down);
            }
            if (steps == 11) {
                text.append("S").append(random.nextInt(99999) + 1).append("/").append(random.nextInt(99999) + 1);
            }
            text(text.append("}").toString());
            int off = -100000;
            for (int i = 0; i < 12; i++) {
                ground(off, (i % 2 == 0 ? 1 : -1) * random.nextInt(20000));
                off += 17000 + random.nextInt(1100);
            }
            axis(47000 + random.nextInt(2000), random.nextInt(301) - 150);
            walkAndLook();
        }

        /**
         * The ground goes up and down, with two corners between each two of its points, and at each point and corner
         * the section lies on the other side of the ground: 36 crossings, more than which there cannot be.
         */
        void goZigzag() {
            int[] offs = new int[6];
            int[] levels = new int[6];
            for (int i = 0; i < 6; i++) {
                offs[i] = 8000 + 16000 * i + random.nextInt(900);
                levels[i] = (i % 2 == 0 ? 1 : -1) * (58000 + random.nextInt(2000));
            }
            zigzagGround(offs, levels);
            int axis = levels[0] + 15000 + random.nextInt(5000);
            text(zigzagText(offs, levels, axis));
            axis(axis, 0);
            walkAndLook();
        }

        /** Left nearly as right, but for some mm, so that no two crossings have their lower parts in common. */
        void zigzagGround(int[] offs, int[] levels) {
            for (int i = -6; i < 6; i++) {
                int point = i < 0 ? -1 - i : i;
                int near = random.nextInt(199) - 99;
                ground(i < 0 ? -offs[point] + near : offs[point], i < 0 ? levels[point] + near : levels[point]);
            }
        }

        /** Behind each point of the ground two corners, the first on the other side of the ground than there. */
        String zigzagText(int[] offs, int[] levels, int axis) {
            StringBuilder text = new StringBuilder("{");
            int out = 0;
            long height = 1000L * axis;
            for (int i = 0; i < 6; i++) {
                for (int half = 0; half < 2; half++) {
                    int next = offs[i] + 5000 + 5500 * half + random.nextInt(400);
                    int to = i < 5 ? i + 1 : 5;
                    int between = i < 5 ? offs[to] - offs[i] : 1;
                    long rise = levels[to] - levels[i];
                    long ground = levels[i] + rise * (next - offs[i]) / between;
                    int way = (i + half) % 2 == 0 ? 1 : -1;
                    long drop = height - 1000 * (ground + way * (15000 + random.nextInt(9000)));
                    int width = next - out;
                    boolean lane = seed % 3 == 0 || seed % 3 == 1 && random.nextBoolean();
                    long down = drop / (lane ? width : 1000);
                    text.append(lane ? "L" : "J").append(width).append(" ").append(down);
                    out = next;
                    height -= down * (lane ? width : 1000);
                }
            }
            return text.append("}").toString();
        }

        void walkAndLook() {
            try {
                walk(0);
                look();
            } catch (Road.Spent spent) {
                // The object has had its last call, so the run is over.
            }
        }

        int level() {
            if (tiny) {
                return random.nextInt(9) - 4;
            }
            switch (random.nextInt(4)) {
                case 0:
                    return random.nextInt(202000) - 101000;
                case 1:
                    return 0;
                default:
                    return random.nextInt(6000) - 3000;
            }
        }

        void points() {
            int off = tiny ? random.nextInt(12) - 14 : random.nextInt(3) == 0 ? -101000 : random.nextInt(20000) - 25000;
            int many = random.nextInt(15);
            int step = tiny ? 5 : random.nextBoolean() ? 17000 : random.nextBoolean() ? 5000 : 40;
            for (int i = 0; i < many; i++) {
                ground(off, level());
                off += random.nextInt(step) - (random.nextInt(20) == 0 ? step : 0);
            }
        }

        String spoil(String text) {
            StringBuilder spoilt = new StringBuilder(text);
            String signs = "{}()?:cfohLBJSW/- 0123456789x";
            for (int n = random.nextInt(3); n >= 0; n--) {
                int at = random.nextInt(spoilt.length() + 1);
                char sign = signs.charAt(random.nextInt(signs.length()));
                int how = random.nextInt(3);
                if (how == 0 || at == spoilt.length()) {
                    spoilt.insert(at, sign);
                } else if (how == 1) {
                    spoilt.deleteCharAt(at);
                } else {
                    spoilt.setCharAt(at, sign);
                }
            }
            return spoilt.toString();
        }

        /** The areas first, as they are the hardest, then all else in any order, as long as there are calls left. */
        void look() {
            ask(areas(), Road.MOST_CALLS);
            ask(questions(), Road.MOST_CALLS);
        }

        void ask(List<Runnable> questions, int most) {
            Collections.shuffle(questions, random);
            for (int i = 0; i < most && i < questions.size(); i++) {
                questions.get(i).run();
            }
        }

        List<Runnable> areas() {
            List<Runnable> questions = new ArrayList<>();
            for (int n = 0; n < 2; n++) {
                boolean cut = n == 1;
                Rational area = r.walked ? r.area(cut) : null;
                int digits = area == null ? 0 : area.low.toString().length();
                longest = Math.max(longest, digits);
                for (int part = -2; part < 2 * (digits / 18) + 6; part++) {
                    int k = part;
                    questions.add(() -> due("area(" + cut + ", " + k + ")", x.area(cut, k), part(area, k)));
                }
            }
            return questions;
        }

        List<Runnable> questions() {
            List<Runnable> questions = new ArrayList<>();
            addCounts(questions);
            addSides(questions);
            addCorners(questions);
            addConditions(questions);
            addVolumes(questions);
            addLevels(questions);
            return questions;
        }

        void addCounts(List<Runnable> questions) {
            questions.add(() -> due("count(0)", x.count(0), r.templates.size()));
            questions.add(() -> due("count(1)", x.count(1), r.offs.size()));
            questions.add(() -> due("count(2)", x.count(2), r.corners.size()));
            questions.add(() -> due("count(3)", x.count(3), r.metres.size()));
            questions.add(() -> due("count(4)", x.count(4), r.signs.length()));
            questions.add(() -> due("count(5)", x.count(5), r.taken.size()));
        }

        void addSides(List<Runnable> questions) {
            for (int n = -2; n <= 2; n++) {
                int side = n;
                questions.add(() -> due("ended(" + side + ")", x.ended(side), r.ended(side)));
                questions.add(() -> due("passed(" + side + ")", x.passed(side), r.passed(side)));
            }
        }

        void addCorners(List<Runnable> questions) {
            for (int n = -1; n <= r.corners.size(); n++) {
                int k = n;
                boolean there = k >= 0 && k < r.corners.size();
                questions.add(() -> due("code(" + k + ")", x.code(k), there ? r.corners.get(k).code : -1));
                for (int axis = there ? 0 : -1; axis <= (there ? 1 : 2); axis++) {
                    Rational value = !there ? null : axis == 0 ? r.corners.get(k).off : r.corners.get(k).level;
                    addParts(questions, k, axis, value);
                }
            }
        }

        void addParts(List<Runnable> questions, int k, int axis, Rational value) {
            for (int n = -2; n < 5; n++) {
                int part = n;
                questions.add(() -> due("corner(" + k + ", " + axis + ", " + part + ")", x.corner(k, axis, part),
                        part(value, part)));
            }
        }

        void addConditions(List<Runnable> questions) {
            for (int n = -1; n <= r.taken.size(); n++) {
                int k = n;
                int want = k >= 0 && k < r.taken.size() ? r.taken.get(k) : -1;
                questions.add(() -> due("condition(" + k + ")", x.condition(k), want));
            }
        }

        void addVolumes(List<Runnable> questions) {
            for (int n = -4; n < 10; n++) {
                boolean cut = n % 2 == 0;
                int part = n / 2;
                questions.add(() -> due("volume(" + cut + ", " + part + ")", x.volume(cut, part),
                        part(r.volume(cut), part)));
            }
        }

        void addLevels(List<Runnable> questions) {
            TreeSet<Integer> places = new TreeSet<>();
            for (Corner corner : r.corners) {
                BigInteger whole = corner.off.up.divide(corner.off.low);
                int near = whole.bitLength() < 31 ? whole.intValue() : Integer.MAX_VALUE - 5;
                places.add(near - 1);
                places.add(near);
                places.add(near + 1);
                places.add(near + random.nextInt(2000) - 1000 < 0 ? near : near / 2);
            }
            places.add(0);
            places.add(Integer.MIN_VALUE);
            places.add(Integer.MAX_VALUE);
            places.add(random.nextInt());
            for (int off : places) {
                for (int n = -2; n < 4; n++) {
                    int part = n;
                    questions.add(() -> due("level(" + off + ", " + part + ")", x.level(off, part),
                            part(r.level(off), part)));
                }
            }
        }
    }

    static long part(Rational value, int part) {
        if (value == null) {
            return part == -1 ? -2 : -1;
        }
        if (part < -1) {
            return -1;
        }
        if (part == -1) {
            return value.up.signum();
        }
        String digits = (part % 2 == 0 ? value.up.abs() : value.low).toString();
        int end = digits.length() - 18 * (part / 2);
        return end <= 0 ? 0 : Long.parseLong(digits.substring(Math.max(0, end - 18), end));
    }

    /** Texts that are mostly right, blanks strewn in. */
    private static final class Text {
        final Random random;
        final boolean tiny;
        final StringBuilder text = new StringBuilder();
        int left;

        Text(Random random, boolean tiny) {
            this.random = random;
            this.tiny = tiny;
        }

        String tell() {
            int templates = random.nextInt(20) == 0 ? 7 : 1 + random.nextInt(3);
            for (int n = 0; n < templates; n++) {
                blanks();
                sign("{");
                left = random.nextInt(15) == 0 ? 14 : 1 + random.nextInt(templates > 2 ? 5 : 12);
                steps(random.nextInt(12) == 0 ? 6 : random.nextInt(4));
                sign("}");
            }
            return text.length() > 400 ? text.substring(0, 400) : text.toString();
        }

        void steps(int deep) {
            int many = random.nextInt(8) == 0 ? 0 : 1 + random.nextInt(5);
            for (int n = 0; n < many && left > 0; n++) {
                left--;
                step(deep);
            }
        }

        void step(int deep) {
            int what = random.nextInt(deep > 0 ? 12 : 7);
            if (what == 0) {
                sign("B");
                number(width());
            } else if (what < 3) {
                sign("L");
                number(width());
                minus();
                number(down(tiny ? 3000 : 400));
            } else if (what < 5) {
                sign("J");
                number(random.nextInt(3) == 0 ? 0 : width());
                minus();
                number(down(tiny ? 5 : 900));
            } else if (what == 5) {
                sign("S");
                number(1 + slope());
                sign("/");
                number(1 + slope());
            } else if (what == 6) {
                sign(random.nextBoolean() ? "W" : "B0");
            } else {
                choice(deep);
            }
        }

        void choice(int deep) {
            sign("?");
            int what = random.nextInt(4);
            sign("cfoh".substring(what, what + 1));
            if (what == 3) {
                number(random.nextInt(tiny ? 4 : 2000));
            }
            sign("(");
            steps(deep - 1);
            sign(")");
            if (random.nextBoolean()) {
                sign(":");
                sign("(");
                steps(deep - 1);
                sign(")");
            }
        }

        int down(int most) {
            int down = random.nextInt(!tiny && random.nextInt(8) == 0 ? 100000 : most);
            return down < 500 || random.nextBoolean() ? down : down / 500 * 500;
        }

        int width() {
            if (tiny) {
                return random.nextInt(6);
            }
            return random.nextInt(6) == 0 ? 0 : random.nextInt(random.nextInt(6) == 0 ? 100000 : 5000);
        }

        int slope() {
            return random.nextInt(!tiny && random.nextInt(5) == 0 ? 99999 : 4);
        }

        void minus() {
            if (text.charAt(text.length() - 1) != ' ') {
                text.append(' ');
            }
            if (random.nextInt(3) == 0) {
                sign("-");
            }
        }

        void number(int number) {
            sign(Integer.toString(number));
        }

        void sign(String sign) {
            text.append(sign);
            blanks();
        }

        void blanks() {
            if (random.nextInt(9) == 0) {
                text.append("   ", 0, 1 + random.nextInt(3));
            }
        }
    }

    static final class Rational {
        static final Rational ZERO = of(0);
        final BigInteger up;
        final BigInteger low;

        Rational(BigInteger up, BigInteger low) {
            BigInteger common = up.gcd(low);
            BigInteger sign = BigInteger.valueOf(low.signum());
            this.up = up.divide(common).multiply(sign);
            this.low = low.divide(common).multiply(sign);
        }

        static Rational of(long up) {
            return of(up, 1);
        }

        static Rational of(long up, long low) {
            return new Rational(BigInteger.valueOf(up), BigInteger.valueOf(low));
        }

        Rational plus(Rational o) {
            return new Rational(up.multiply(o.low).add(o.up.multiply(low)), low.multiply(o.low));
        }

        Rational minus(Rational o) {
            return plus(o.times(of(-1)));
        }

        Rational times(Rational o) {
            return new Rational(up.multiply(o.up), low.multiply(o.low));
        }

        Rational over(Rational o) {
            return new Rational(up.multiply(o.low), low.multiply(o.up));
        }

        Rational abs() {
            return new Rational(up.abs(), low);
        }

        int compare(Rational o) {
            return up.multiply(o.low).compareTo(o.up.multiply(low));
        }

        int sign() {
            return up.signum();
        }
    }

    static final class Corner {
        final int code;
        final Rational off;
        final Rational level;

        Corner(int code, Rational off, Rational level) {
            this.code = code;
            this.off = off;
            this.level = level;
        }
    }

    static final class Step {
        char kind;
        char cond;
        int a;
        int b;
        List<Step> first;
        List<Step> others;
    }

    static final class Fault extends RuntimeException {
        private static final long serialVersionUID = 1;
        final int at;

        Fault(int at) {
            this.at = at;
        }
    }

    /** The text as words; a word's place is that of its first sign. */
    static final class Parser {
        final List<String> words = new ArrayList<>();
        final List<Integer> places = new ArrayList<>();
        int next;
        int steps;

        Parser(String text) {
            int i = 0;
            while (i < text.length()) {
                int end = i;
                while (end < text.length() && Character.isDigit(text.charAt(end))) {
                    end++;
                }
                end = Math.max(end, i + 1);
                if (text.charAt(i) != ' ') {
                    words.add(text.substring(i, end));
                    places.add(i);
                }
                i = end;
            }
            words.add("");
            places.add(text.length());
        }

        String word() {
            return words.get(next);
        }

        Fault fault() {
            return new Fault(places.get(next));
        }

        boolean take(String word) {
            if (word().equals(word)) {
                next++;
                return true;
            }
            return false;
        }

        void must(String word) {
            if (!take(word)) {
                throw fault();
            }
        }

        int number(boolean notZero) {
            if (!word().matches("0|[1-9][0-9]{0,4}") || notZero && word().equals("0")) {
                throw fault();
            }
            return Integer.parseInt(words.get(next++));
        }

        int signed() {
            return take("-") ? -number(false) : number(false);
        }

        List<List<Step>> templates() {
            List<List<Step>> all = new ArrayList<>();
            do {
                if (all.size() == 6) {
                    throw fault();
                }
                must("{");
                steps = 0;
                all.add(steps(0));
                must("}");
            } while (!word().isEmpty());
            return all;
        }

        List<Step> steps(int open) {
            List<Step> list = new ArrayList<>();
            while (!word().equals(open > 0 ? ")" : "}")) {
                list.add(step(open));
            }
            return list;
        }

        List<Step> inBrackets(int open) {
            if (open == 5) {
                throw fault();
            }
            must("(");
            List<Step> list = steps(open + 1);
            must(")");
            return list;
        }

        Step step(int open) {
            if (!word().matches("[LBJSW?]") || steps == 12) {
                throw fault();
            }
            steps++;
            Step step = new Step();
            step.kind = words.get(next++).charAt(0);
            if (step.kind == 'L' || step.kind == 'J') {
                step.a = number(false);
                step.b = signed();
            } else if (step.kind == 'B') {
                step.a = number(false);
            } else if (step.kind == 'S') {
                step.a = number(true);
                must("/");
                step.b = number(true);
            } else if (step.kind == '?') {
                if (!word().matches("[cfoh]")) {
                    throw fault();
                }
                step.cond = words.get(next++).charAt(0);
                if (step.cond == 'h') {
                    step.a = number(false);
                }
                step.first = inBrackets(open);
                if (take(":")) {
                    step.others = inBrackets(open);
                }
            }
            return step;
        }
    }

    static final class Reference {
        String signs = "";
        List<List<Step>> templates = new ArrayList<>();
        List<Integer> offs = new ArrayList<>();
        List<Integer> levels = new ArrayList<>();
        List<Integer> walkedOffs = new ArrayList<>();
        List<Integer> walkedLevels = new ArrayList<>();
        int axisLevel;
        int bank;
        final int[] land = {1000000, 1000000};
        boolean walked;
        List<Corner> corners = new ArrayList<>();
        List<Integer> taken = new ArrayList<>();
        final boolean[] ends = new boolean[2];
        Rational x;
        Rational y;
        final Rational[] areas = new Rational[2];
        final List<Integer> metres = new ArrayList<>();
        final List<BigInteger[]> kept = new ArrayList<>();

        boolean unit(int u) {
            if (u < 32 || u > 126 || signs.length() == 400) {
                return false;
            }
            signs += (char) u;
            return true;
        }

        int read() {
            String text = signs;
            signs = "";
            try {
                templates = new Parser(text).templates();
            } catch (Fault fault) {
                return -1 - fault.at;
            }
            walked = false;
            corners.clear();
            taken.clear();
            return templates.size();
        }

        boolean ground(int off, int level) {
            if (Math.abs(off) > 100000 || Math.abs(level) > 100000 || offs.size() == 12
                    || !offs.isEmpty() && offs.get(offs.size() - 1) >= off) {
                return false;
            }
            offs.add(off);
            levels.add(level);
            return true;
        }

        void clear() {
            offs.clear();
            levels.clear();
        }

        boolean axis(int level, int bank) {
            if (Math.abs(level) > 100000 || Math.abs(bank) > 150) {
                return false;
            }
            axisLevel = level;
            this.bank = bank;
            return true;
        }

        boolean land(int side, int far) {
            if (Math.abs(side) != 1 || far < 0 || far > 1000000) {
                return false;
            }
            land[side < 0 ? 0 : 1] = far;
            return true;
        }

        int run(int template) {
            if (template < 0 || template >= templates.size()) {
                return -1;
            }
            walkedOffs = new ArrayList<>(offs);
            walkedLevels = new ArrayList<>(levels);
            corners = new ArrayList<>();
            taken = new ArrayList<>();
            areas[0] = null;
            areas[1] = null;
            for (int side = -1; side <= 1; side += 2) {
                x = Rational.of(0);
                y = Rational.of(axisLevel);
                if (side > 0) {
                    corners.add(new Corner(0, x, y));
                }
                ends[side < 0 ? 0 : 1] = walkSteps(templates.get(template), side);
            }
            walked = true;
            return corners.size();
        }

        /** Whether the side ended. */
        boolean walkSteps(List<Step> steps, int side) {
            for (Step step : steps) {
                if (step.kind == '?') {
                    boolean holds = holds(step);
                    taken.add(holds ? 1 : step.others != null ? 2 : 0);
                    List<Step> chosen = holds ? step.first : step.others;
                    if (chosen != null && walkSteps(chosen, side)) {
                        return true;
                    }
                    continue;
                }
                Rational a = Rational.of(step.a);
                Rational out = Rational.of(side).times(a);
                if (step.kind == 'L') {
                    x = x.plus(out);
                    y = y.minus(a.times(Rational.of(step.b, 1000)));
                } else if (step.kind == 'B') {
                    x = x.plus(out);
                    y = y.plus(out.times(Rational.of(bank, 1000)));
                } else if (step.kind == 'J') {
                    x = x.plus(out);
                    y = y.minus(Rational.of(step.b));
                } else if (step.kind == 'S') {
                    meet(side, Rational.of(step.a, step.b));
                } else {
                    y = earth(x);
                }
                Corner corner = new Corner("0LBJSW".indexOf(step.kind), x, y);
                corners.add(side < 0 ? 0 : corners.size(), corner);
                if (step.kind == 'S' || step.kind == 'W') {
                    return true;
                }
            }
            return false;
        }

        boolean holds(Step step) {
            int above = y.compare(earth(x));
            switch (step.cond) {
                case 'c':
                    return above < 0;
                case 'f':
                    return above > 0;
                case 'o':
                    return above == 0;
                default:
                    return y.minus(earth(x)).abs().compare(Rational.of(step.a)) > 0;
            }
        }

        Rational earth(Rational at) {
            int n = walkedOffs.size();
            if (n == 0) {
                return Rational.ZERO;
            }
            for (int i = 0; i < n; i++) {
                Rational off = Rational.of(walkedOffs.get(i));
                if (at.compare(off) <= 0) {
                    if (i == 0) {
                        return Rational.of(walkedLevels.get(0));
                    }
                    long width = walkedOffs.get(i) - walkedOffs.get(i - 1);
                    long rise = walkedLevels.get(i) - walkedLevels.get(i - 1);
                    return Rational.of(walkedLevels.get(i)).minus(off.minus(at).times(Rational.of(rise, width)));
                }
            }
            return Rational.of(walkedLevels.get(n - 1));
        }

        /** Tries every line of the ground for itself and takes the nearest place that is really on it. */
        void meet(int side, Rational steep) {
            int way = earth(x).compare(y);
            if (way == 0) {
                return;
            }
            Rational slope = steep.times(Rational.of(way * side));
            Rational best = null;
            int n = walkedOffs.size();
            for (int i = 0; i <= n; i++) {
                Rational rise = Rational.ZERO;
                Rational through = Rational.ZERO;
                Rational height = Rational.ZERO;
                if (n > 0) {
                    int point = Math.max(0, i - 1);
                    through = Rational.of(walkedOffs.get(point));
                    height = Rational.of(walkedLevels.get(point));
                }
                if (i > 0 && i < n) {
                    rise = Rational.of(walkedLevels.get(i) - walkedLevels.get(i - 1),
                            walkedOffs.get(i) - walkedOffs.get(i - 1));
                }
                if (slope.compare(rise) == 0) {
                    continue;
                }
                Rational apart = height.minus(rise.times(through)).minus(y.minus(slope.times(x)));
                Rational place = apart.over(slope.minus(rise));
                Rational there = y.plus(slope.times(place.minus(x)));
                boolean outwards = place.compare(x) * side > 0;
                if (outwards && there.compare(earth(place)) == 0
                        && (best == null || place.compare(best) * side < 0)) {
                    best = place;
                }
            }
            y = y.plus(slope.times(best.minus(x)));
            x = best;
        }

        boolean ended(int side) {
            return walked && Math.abs(side) == 1 && ends[side < 0 ? 0 : 1];
        }

        boolean passed(int side) {
            if (!walked || Math.abs(side) != 1) {
                return false;
            }
            for (Corner corner : corners) {
                if (corner.off.times(Rational.of(side)).compare(Rational.of(land[side < 0 ? 0 : 1])) > 0) {
                    return true;
                }
            }
            return false;
        }

        Rational area(boolean cut) {
            if (areas[cut ? 1 : 0] == null) {
                areas[cut ? 1 : 0] = reckonArea(cut);
            }
            return areas[cut ? 1 : 0];
        }

        /** The whole polygon between two corners is cut at all points of the ground and at the crossings. */
        Rational reckonArea(boolean cut) {
            Rational sum = Rational.ZERO;
            for (int k = 1; k < corners.size(); k++) {
                Corner a = corners.get(k - 1);
                Corner b = corners.get(k);
                if (a.off.compare(b.off) == 0) {
                    continue;
                }
                List<Rational> places = new ArrayList<>();
                places.add(a.off);
                for (int off : walkedOffs) {
                    Rational place = Rational.of(off);
                    if (place.compare(a.off) > 0 && place.compare(b.off) < 0) {
                        places.add(place);
                    }
                }
                places.add(b.off);
                for (int i = 1; i < places.size(); i++) {
                    sum = sum.plus(between(a, b, places.get(i - 1), places.get(i), cut));
                }
            }
            return sum;
        }

        Rational between(Corner a, Corner b, Rational from, Rational to, boolean cut) {
            Rational one = Rational.of(cut ? 1 : -1);
            Rational p = earth(from).minus(on(a, b, from)).times(one);
            Rational q = earth(to).minus(on(a, b, to)).times(one);
            if (p.sign() <= 0 && q.sign() <= 0) {
                return Rational.ZERO;
            }
            Rational start = from;
            Rational end = to;
            if (p.sign() * q.sign() < 0) {
                Rational zero = from.plus(to.minus(from).times(p).over(p.minus(q)));
                start = p.sign() < 0 ? zero : from;
                end = q.sign() < 0 ? zero : to;
            }
            Rational high = (p.sign() > 0 ? p : Rational.ZERO).plus(q.sign() > 0 ? q : Rational.ZERO);
            return high.times(end.minus(start)).times(Rational.of(1, 2));
        }

        Rational on(Corner a, Corner b, Rational at) {
            return a.level.plus(b.level.minus(a.level).times(at.minus(a.off)).over(b.off.minus(a.off)));
        }

        Rational level(int off) {
            if (!walked) {
                return null;
            }
            Rational at = Rational.of(off);
            int axis = 0;
            while (corners.get(axis).code != 0) {
                axis++;
            }
            int step = off < 0 ? -1 : 1;
            for (int k = axis; k >= 0 && k < corners.size(); k += step) {
                if (corners.get(k).off.compare(at) == 0) {
                    return corners.get(k).level;
                }
            }
            for (int k = 1; k < corners.size(); k++) {
                if (corners.get(k - 1).off.compare(at) < 0 && corners.get(k).off.compare(at) > 0) {
                    return on(corners.get(k - 1), corners.get(k), at);
                }
            }
            return null;
        }

        int keep(int metre) {
            if (!walked || metre < 0 || metre > 100000 || metres.size() == 20
                    || !metres.isEmpty() && metre <= metres.get(metres.size() - 1)) {
                return -1;
            }
            metres.add(metre);
            kept.add(new BigInteger[] {area(false).up.divide(area(false).low), area(true).up.divide(area(true).low)});
            return metres.size();
        }

        Rational volume(boolean cut) {
            Rational sum = Rational.ZERO;
            int kind = cut ? 1 : 0;
            for (int i = 1; i < metres.size(); i++) {
                BigInteger both = kept.get(i)[kind].add(kept.get(i - 1)[kind]);
                Rational distance = Rational.of((metres.get(i) - metres.get(i - 1)) * 1000L, 2);
                sum = sum.plus(new Rational(both, BigInteger.ONE).times(distance));
            }
            return sum;
        }
    }
}
