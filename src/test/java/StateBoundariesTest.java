/**
 * The edges that the document names for what an object holds: a new one (promise 1), the ground (4, 5), the axis (6),
 * the land (7), what is kept (16, 17), what is counted (18), and the number of its calls.
 */
public final class StateBoundariesTest extends Checks {
    private static final int[] SIDES = {-1, 1};
    private static final int[] NO_SIDES = {0, 2, -2, 3, -3, Integer.MIN_VALUE, Integer.MAX_VALUE};

    public static void main(String[] args) {
        runAll(StateBoundariesTest.class);
    }

    /** The level of the ground at an OFF, told by a wall there. */
    private static void groundIs(Road x, int off, long up, long low) {
        is("read", read(x, "{J" + Math.abs(off) + " 0W}"), 1);
        is("run", x.run(0), 5);
        int k = off < 0 ? 0 : 4;
        corner(x, k, 0, off, 1);
        corner(x, k, 1, up, low);
    }

    // What it is: "An object is used for at most 512 calls after it has been made"

    static void theLastOf512CallsAnswersLikeTheFirst() {
        Road x = with("{L100 0" + " ".repeat(392) + "}");
        yes("axis", x.axis(-10, 0));
        is("run", x.run(0), 3);
        is("keep", x.keep(0), 1);
        is("keep", x.keep(1), 2);
        while (x.callsLeft() > 5) {
            is("corners", x.count(2), 3);
        }
        is("sign", x.unit('{') ? 1 : 0, 1);
        is("level", x.level(100, 0), 10);
        is("area", x.area(true, 0), 2000);
        is("volume", x.volume(true, 0), 2000000);
        is("run", x.run(0), 3);
        is("calls left", x.callsLeft(), 0);
    }

    // Promise 1: "No ground (level 0 everywhere), axis at level 0 without bank; no templates."

    static void promise1NothingIsCounted() {
        Road x = new Road();
        for (int what = 0; what <= 5; what++) {
            is("count " + what, x.count(what), 0);
        }
    }

    static void promise1NoTemplates() {
        Road x = new Road();
        is("run", x.run(0), BAD);
        is("run", x.run(-1), BAD);
        is("run", x.run(1), BAD);
        noSection(x);
    }

    static void promise1GroundIsAtLevel0Everywhere() {
        for (int off : new int[] {-99999, -1, 0, 1, 99999}) {
            Road x = with("{J" + Math.abs(off) + " 77W}");
            is("run", x.run(0), 5);
            corner(x, off < 0 ? 0 : 4, off, 0);
        }
    }

    static void promise1AxisIsAtLevel0WithoutBank() {
        Road x = with("{B99999}");
        is("run", x.run(0), 3);
        corner(x, 0, -99999, 0);
        corner(x, 1, 0, 0);
        corner(x, 2, 99999, 0);
    }

    static void promise1NothingIsKept() {
        Road x = new Road();
        volume(x, true, 0);
        volume(x, false, 0);
    }

    /** A second object knows nothing of the first one. */
    static void promise1ObjectsAreApart() {
        Road x = with("{L5 0}");
        yes("point", x.ground(1, 2));
        yes("axis", x.axis(3, 4));
        yes("land", x.land(1, 5));
        is("run", x.run(0), 3);
        is("keep", x.keep(6), 1);
        yes("sign", x.unit('{'));
        promise1NothingIsCounted();
        promise1NoTemplates();
        promise1AxisIsAtLevel0WithoutBank();
        is("corners", x.count(2), 3);
    }

    // Promise 4: "One more point of the ground, - 100,000 .. 100,000 each."

    static void promise4FirstAndLastOff() {
        Road x = new Road();
        no("below the first", x.ground(-100001, 5));
        yes("the first", x.ground(-100000, 5));
        yes("the last", x.ground(100000, 7));
        is("two", x.count(1), 2);
        no("above the last", x.ground(100001, 5));
        is("two", x.count(1), 2);
        groundIs(x, 0, 6, 1);
        groundIs(x, -99999, 500001, 100000);
        groundIs(x, 99999, 699999, 100000);
    }

    static void promise4FirstAndLastLevel() {
        Road x = new Road();
        no("below the first", x.ground(1, -100001));
        no("above the last", x.ground(1, 100001));
        is("none", x.count(1), 0);
        yes("the first", x.ground(1, -100000));
        yes("the last", x.ground(3, 100000));
        is("two", x.count(1), 2);
        groundIs(x, 1, -100000, 1);
        groundIs(x, 2, 0, 1);
        groundIs(x, 3, 100000, 1);
        groundIs(x, -1, -100000, 1);
    }

    static void promise4NoOtherNumbers() {
        Road x = new Road();
        for (int other : new int[] {Integer.MIN_VALUE, Integer.MIN_VALUE + 1, -200000, 200000, Integer.MAX_VALUE}) {
            no("off " + other, x.ground(other, 0));
            no("level " + other, x.ground(0, other));
            no("both " + other, x.ground(other, other));
        }
        is("none", x.count(1), 0);
    }

    // Promise 4: "False: .. its OFF is not above the last one's"

    static void promise4OffAboveTheLastOnes() {
        Road x = new Road();
        yes("the first", x.ground(5, 10));
        no("below", x.ground(4, 11));
        no("the same", x.ground(5, 12));
        no("far below", x.ground(-100000, 13));
        is("one", x.count(1), 1);
        groundIs(x, 5, 10, 1);
        yes("above", x.ground(6, 14));
        is("two", x.count(1), 2);
        groundIs(x, 5, 10, 1);
        groundIs(x, 6, 14, 1);
    }

    /** The last one's is that of the last point that was taken. */
    static void promise4RefusedPointIsNotTheLastOne() {
        Road x = new Road();
        yes("the first", x.ground(-5, 1));
        no("level", x.ground(50, 100001));
        yes("below the refused one", x.ground(-4, 2));
        no("off", x.ground(100001, 3));
        yes("next", x.ground(-3, 4));
        is("three", x.count(1), 3);
        groundIs(x, -4, 2, 1);
        groundIs(x, -3, 4, 1);
    }

    // Promise 4: "False: .. there are 12."

    static void promise4TwelvePointsAndNoThirteenth() {
        Road x = new Road();
        for (int n = 0; n < 12; n++) {
            is("points", x.count(1), n);
            yes("point " + n, x.ground(10 * n, n % 2));
        }
        is("twelve", x.count(1), 12);
        no("a good one more", x.ground(120, 0));
        no("a good one more", x.ground(100000, 100000));
        is("twelve", x.count(1), 12);
        groundIs(x, 110, 1, 1);
        groundIs(x, 105, 1, 2);
        groundIs(x, 120, 1, 1);
        groundIs(x, -1, 0, 1);
    }

    static void promise4EachOfTwelvePointsCounts() {
        Road x = with(6, "{J10 0W}{J20 0W}{J30 0W}{J40 0W}{J50 0W}{J60 0W}");
        for (int n = 0; n < 12; n++) {
            yes("point", x.ground(n < 6 ? 10 * n - 60 : 10 * n - 50, 7 * n * n));
        }
        for (int n = 0; n < 6; n++) {
            is("run", x.run(n), 5);
            is("left", x.corner(0, 1, 0), 7 * (5 - n) * (5 - n));
            is("right", x.corner(4, 1, 0), 7 * (6 + n) * (6 + n));
        }
    }

    // Promise 5: "No ground any more."

    static void promise5EmptyGround() {
        Road x = with("{L3 0 W}");
        x.clear();
        is("none", x.count(1), 0);
        is("run", x.run(0), 5);
        corner(x, 0, -3, 0);
    }

    static void promise5GroundIsAtLevel0AgainEverywhere() {
        Road x = new Road();
        yes("point", x.ground(-2, 50));
        yes("point", x.ground(0, 60));
        yes("point", x.ground(2, 70));
        x.clear();
        is("none", x.count(1), 0);
        for (int off = -3; off <= 3; off++) {
            groundIs(x, off, 0, 1);
        }
    }

    static void promise5AnyOffIsAboveNone() {
        Road x = new Road();
        yes("the last that may be", x.ground(100000, 9));
        no("none above it", x.ground(-100000, 8));
        x.clear();
        yes("the first that may be", x.ground(-100000, 8));
        is("one", x.count(1), 1);
        groundIs(x, 50000, 8, 1);
    }

    static void promise5FullGroundIsEmptyAgain() {
        Road x = new Road();
        for (int n = 0; n < 12; n++) {
            yes("point", x.ground(n, 5));
        }
        no("full", x.ground(12, 5));
        x.clear();
        x.clear();
        is("none", x.count(1), 0);
        for (int n = 0; n < 12; n++) {
            yes("point", x.ground(-20 + n, 3));
        }
        no("full", x.ground(12, 5));
        is("twelve", x.count(1), 12);
        groundIs(x, 11, 3, 1);
    }

    static void promise5AllElseStays() {
        Road x = with("{B10 ?c(W)}");
        yes("point", x.ground(0, 20));
        yes("axis", x.axis(10, 100));
        yes("land", x.land(-1, 9));
        yes("sign", x.unit('{'));
        is("run", x.run(0), 5);
        is("keep", x.keep(0), 1);
        String before = picture(x);
        x.clear();
        same("the section", picture(x), before);
        is("templates", x.count(0), 1);
        is("kept", x.count(3), 1);
        is("signs", x.count(4), 1);
        yes("beyond the land", x.passed(-1));
        is("run", x.run(0), 3);
        corner(x, 1, 0, 10);
        corner(x, 2, 10, 11);
    }

    // Promise 6: "LEVEL - 100,000 .. 100,000, BANK - 150 .. 150. False: none such."

    private static void axisIs(Road x, long level, long bank) {
        is("run", x.run(0), 3);
        corner(x, 0, -1000, level - bank);
        corner(x, 1, 0, level);
        corner(x, 2, 1000, level + bank);
    }

    static void promise6FirstAndLastLevel() {
        Road x = with("{B1000}");
        yes("the first", x.axis(-100000, 0));
        axisIs(x, -100000, 0);
        no("below the first", x.axis(-100001, 0));
        axisIs(x, -100000, 0);
        yes("the last", x.axis(100000, 0));
        axisIs(x, 100000, 0);
        no("above the last", x.axis(100001, 0));
        axisIs(x, 100000, 0);
    }

    static void promise6FirstAndLastBank() {
        Road x = with("{B1000}");
        yes("the first", x.axis(0, -150));
        axisIs(x, 0, -150);
        no("below the first", x.axis(0, -151));
        axisIs(x, 0, -150);
        yes("the last", x.axis(0, 150));
        axisIs(x, 0, 150);
        no("above the last", x.axis(0, 151));
        axisIs(x, 0, 150);
    }

    /** What is refused changes neither of both. */
    static void promise6RefusedAxisLeavesLevelAndBank() {
        Road x = with("{B1000}");
        yes("axis", x.axis(7, -20));
        int[][] refused = {
            {8, 151}, {8, -151}, {100001, 30}, {-100001, 30}, {100001, 151}, {Integer.MIN_VALUE, 0},
            {Integer.MAX_VALUE, 0}, {0, Integer.MIN_VALUE}, {0, Integer.MAX_VALUE},
        };
        for (int[] axis : refused) {
            no("axis " + axis[0] + ", " + axis[1], x.axis(axis[0], axis[1]));
        }
        axisIs(x, 7, -20);
    }

    // Promise 7: "How far land goes on a side (- 1 left, 1 right): 0 .. 1,000,000 from the axis"

    static void promise7LeastAndMost() {
        for (int side : SIDES) {
            Road x = with("{L1 0}");
            is("run", x.run(0), 3);
            no("below the least", x.land(side, -1));
            no("still as far as at first", x.passed(side));
            yes("the least", x.land(side, 0));
            yes("1 is beyond 0", x.passed(side));
            no("above the most", x.land(side, 1000001));
            yes("still 0", x.passed(side));
            yes("the most", x.land(side, 1000000));
            no("1 is not beyond 1,000,000", x.passed(side));
        }
    }

    static void promise7NoOtherNumbers() {
        Road x = with("{L5 0}");
        is("run", x.run(0), 3);
        for (int side : SIDES) {
            yes("land", x.land(side, 5));
            for (int far : new int[] {-1, 1000001, Integer.MIN_VALUE, Integer.MAX_VALUE}) {
                no("land " + far, x.land(side, far));
                no("still 5", x.passed(side));
            }
            yes("land", x.land(side, 4));
            for (int far : new int[] {-1, 1000001, Integer.MIN_VALUE, Integer.MAX_VALUE}) {
                no("land " + far, x.land(side, far));
                yes("still 4", x.passed(side));
            }
        }
    }

    static void promise7NoOtherSide() {
        Road x = with("{L5 0}");
        is("run", x.run(0), 3);
        for (int side : NO_SIDES) {
            no("side " + side, x.land(side, 0));
            no("side " + side, x.land(side, 1000000));
        }
        no("left as at first", x.passed(-1));
        no("right as at first", x.passed(1));
    }

    static void promise7EachSideForItself() {
        Road x = with("{L5 0}");
        is("run", x.run(0), 3);
        yes("left", x.land(-1, 4));
        yes("left", x.passed(-1));
        no("right", x.passed(1));
        yes("right", x.land(1, 4));
        yes("left", x.land(-1, 5));
        no("left", x.passed(-1));
        yes("right", x.passed(1));
    }

    /** "(1,000,000 at first)": ten steps of 99,999 and one of 10 or 11. */
    static void promise7AtFirst() {
        String far = "L99999 0".repeat(10);
        Road x = with(2, "{" + far + "L10 0}{" + far + "L11 0}");
        is("run", x.run(0), 23);
        corner(x, 22, 0, 1000000, 1);
        no("1,000,000 is not beyond", x.passed(-1));
        no("1,000,000 is not beyond", x.passed(1));
        is("run", x.run(1), 23);
        yes("1,000,001 is beyond", x.passed(-1));
        yes("1,000,001 is beyond", x.passed(1));
        yes("land", x.land(1, 1000000));
        yes("and beyond the most, too", x.passed(1));
    }

    // Promise 16: "at a metre (0 .. 100,000): how many are. BAD: .. no such metre"

    /** 20 of cut by 2 * 5 * 2. */
    private static Road toKeep() {
        Road x = with("{L5 0}");
        yes("axis", x.axis(-2, 0));
        is("run", x.run(0), 3);
        return x;
    }

    static void promise16FirstAndLastMetre() {
        Road x = toKeep();
        is("below the first", x.keep(-1), BAD);
        is("above the last", x.keep(100001), BAD);
        is("none kept", x.count(3), 0);
        is("the first", x.keep(0), 1);
        is("the last", x.keep(100000), 2);
        is("above the last", x.keep(100001), BAD);
        is("kept", x.count(3), 2);
        volume(x, true, 20L * 100000000);
    }

    static void promise16NoOtherMetre() {
        Road x = toKeep();
        for (int metre : new int[] {Integer.MIN_VALUE, -100000, -1, 100001, 200000, Integer.MAX_VALUE}) {
            is("metre " + metre, x.keep(metre), BAD);
        }
        is("none kept", x.count(3), 0);
        is("the first that is taken is the first", x.keep(0), 1);
    }

    static void promise16LastMetreMayBeTheFirstKept() {
        Road x = toKeep();
        is("keep", x.keep(100000), 1);
        is("none above it", x.keep(100000), BAD);
        is("none above it", x.keep(100001), BAD);
        is("none above it", x.keep(0), BAD);
        is("kept", x.count(3), 1);
        volume(x, true, 0);
    }

    // Promise 16: "BAD: .. not above the last one's"

    static void promise16MetreAboveTheLastOnes() {
        Road x = toKeep();
        is("keep", x.keep(50), 1);
        is("below", x.keep(49), BAD);
        is("the same", x.keep(50), BAD);
        is("far below", x.keep(0), BAD);
        is("one kept", x.count(3), 1);
        is("above", x.keep(51), 2);
        is("the same", x.keep(51), BAD);
        volume(x, true, 20000);
        is("far above", x.keep(151), 3);
        volume(x, true, 20000 + 2000000);
    }

    static void promise16RefusedMetreIsNotTheLastOne() {
        Road x = toKeep();
        is("keep", x.keep(10), 1);
        is("refused", x.keep(100001), BAD);
        is("refused", x.keep(3), BAD);
        is("refused", x.keep(10), BAD);
        is("keep", x.keep(11), 2);
        volume(x, true, 20000);
    }

    // Promise 16: "BAD: no section"

    static void promise16NoSection() {
        Road x = with("{L5 0}");
        is("not walked", x.keep(0), BAD);
        is("no such template", x.run(1), BAD);
        is("not walked", x.keep(0), BAD);
        is("run", x.run(0), 3);
        is("keep", x.keep(0), 1);
        is("read", read(x, "{}"), 1);
        is("gone", x.keep(1), BAD);
        is("one kept", x.count(3), 1);
        is("wrong text", read(x, "{"), -2);
        is("gone", x.keep(1), BAD);
        is("run", x.run(0), 1);
        is("keep", x.keep(1), 2);
    }

    // Promise 16: "BAD: .. there are 20."

    static void promise16TwentyAndNoMore() {
        Road x = toKeep();
        is("none", x.count(3), 0);
        for (int n = 1; n <= 20; n++) {
            is("keep", x.keep(3 * n), n);
            is("kept", x.count(3), n);
            volume(x, true, 20L * 3000 * (n - 1));
        }
        is("one more", x.keep(61), BAD);
        is("one more", x.keep(100000), BAD);
        is("kept", x.count(3), 20);
        volume(x, true, 20L * 3000 * 19);
        volume(x, false, 0);
    }

    static void promise16FullIsFullForGood() {
        Road x = toKeep();
        for (int n = 0; n < 20; n++) {
            is("keep", x.keep(n), n + 1);
        }
        is("read", read(x, "{L7 0}"), 1);
        x.clear();
        is("run", x.run(0), 3);
        is("full", x.keep(20), BAD);
        is("kept", x.count(3), 20);
    }

    /** Keeping leaves the section: it may be kept again at another metre. */
    static void promise16TheSectionStays() {
        Road x = toKeep();
        String before = picture(x);
        is("keep", x.keep(0), 1);
        is("keep", x.keep(1), 2);
        same("the section", picture(x), before);
    }

    // Promise 16: "cut off to whole square mm"

    /** From 1 above the ground down by 3 over WIDTH: fill of WIDTH / 6 on a side, cut of 4 times as much. */
    private static void keepThirds(int width, long cut, long fill) {
        Road x = with("{J" + width + " 3}");
        yes("axis", x.axis(1, 0));
        is("run", x.run(0), 3);
        is("keep", x.keep(0), 1);
        is("keep", x.keep(1), 2);
        volume(x, true, 1000 * cut);
        volume(x, false, 1000 * fill);
    }

    static void promise16AreasAreCutOff() {
        keepThirds(1, 1, 0);
        keepThirds(2, 2, 0);
        keepThirds(3, 4, 1);
        keepThirds(4, 5, 1);
        keepThirds(5, 6, 1);
        keepThirds(6, 8, 2);
        keepThirds(99999, 133332, 33333);
    }

    /** Each area is cut off for itself, not their sum: 2/3 and 2/3 are 0. */
    static void promise16EachAreaIsCutOffForItself() {
        Road x = with("{J2 3}");
        yes("axis", x.axis(1, 0));
        is("run", x.run(0), 3);
        area(x, false, 2, 3);
        for (int n = 0; n < 20; n++) {
            is("keep", x.keep(n), n + 1);
        }
        volume(x, false, 0);
        area(x, false, 2, 3);
    }

    /** The areas count as they were when they were kept. */
    static void promise16LaterSectionsChangeNothing() {
        Road x = toKeep();
        is("keep 20", x.keep(0), 1);
        yes("axis", x.axis(-4, 0));
        is("keep 20: not walked again", x.keep(1), 2);
        volume(x, true, 20000);
        is("run", x.run(0), 3);
        volume(x, true, 20000);
        is("keep 40", x.keep(2), 3);
        volume(x, true, 20000 + 30000);
        yes("axis", x.axis(3, 0));
        is("run", x.run(0), 3);
        is("keep 30 of fill", x.keep(4), 4);
        volume(x, true, 20000 + 30000 + 40000);
        volume(x, false, 30000);
        x.clear();
        is("read", read(x, "{}"), 1);
        volume(x, true, 20000 + 30000 + 40000);
        volume(x, false, 30000);
    }

    // Promise 17: "(0 with fewer than two)"

    static void promise17FewerThanTwo() {
        Road x = toKeep();
        volume(x, true, 0);
        volume(x, false, 0);
        is("keep", x.keep(70), 1);
        volume(x, true, 0);
        volume(x, false, 0);
        is("refused", x.keep(70), BAD);
        volume(x, true, 0);
        is("keep", x.keep(71), 2);
        volume(x, true, 20000);
        volume(x, false, 0);
    }

    static void promise17TwoWithoutAnyArea() {
        Road x = with("{}");
        is("run", x.run(0), 1);
        is("keep", x.keep(0), 1);
        is("keep", x.keep(100000), 2);
        volume(x, true, 0);
        volume(x, false, 0);
    }

    /** An odd sum of both areas: half of it by 1 metre is a whole number of cubic mm all the same. */
    static void promise17HalfOfAnOddSum() {
        Road x = with("{J3 0 ?f(J1 1)}");
        yes("axis", x.axis(1, 0));
        is("run", x.run(0), 5);
        area(x, false, 7, 1);
        is("keep 7", x.keep(0), 1);
        yes("axis", x.axis(0, 0));
        is("run", x.run(0), 3);
        is("keep 0", x.keep(1), 2);
        volume(x, false, 3500);
        is("keep 0", x.keep(2), 3);
        volume(x, false, 3500);
    }

    // Promise 17, "by parts"

    static void promise17Parts() {
        Road x = toKeep();
        is("keep", x.keep(0), 1);
        is("keep", x.keep(1), 2);
        for (boolean cut : new boolean[] {true, false}) {
            is("below - 1", x.volume(cut, -2), BAD);
            is("below - 1", x.volume(cut, -3), BAD);
            is("below - 1", x.volume(cut, Integer.MIN_VALUE), BAD);
            is("the sign", x.volume(cut, -1), cut ? 1 : 0);
            is("the upper part", x.volume(cut, 0), cut ? 20000 : 0);
            is("the lower part", x.volume(cut, 1), 1);
            for (int part : new int[] {2, 3, 4, 5, 100, 101, Integer.MAX_VALUE - 1, Integer.MAX_VALUE}) {
                is("behind the last ones", x.volume(cut, part), 0);
            }
        }
    }

    static void promise17PartsWithoutAnyKept() {
        Road x = new Road();
        is("below - 1", x.volume(true, -2), BAD);
        is("below - 1", x.volume(false, Integer.MIN_VALUE), BAD);
        is("the sign", x.volume(true, -1), 0);
        is("0 / 1", x.volume(true, 0), 0);
        is("0 / 1", x.volume(true, 1), 1);
        is("behind the last ones", x.volume(false, Integer.MAX_VALUE), 0);
    }

    /** 10^10 of area over 10^8 mm are 10^18: the first number of more than eighteen digits. */
    static void promise17EighteenDigitsAndNineteen() {
        Road x = with("{L50000 0}");
        yes("axis", x.axis(-100000, 0));
        is("run", x.run(0), 3);
        area(x, true, 10000000000L, 1);
        is("keep", x.keep(0), 1);
        yes("axis", x.axis(-99999, 0));
        is("run", x.run(0), 3);
        is("keep", x.keep(99999), 2);
        // (10^10 + 9,999,900,000) / 2 by 99,999,000.
        volume(x, true, 999985000050000000L);
        is("keep", x.keep(100000), 3);
        is("lowest eighteen digits", x.volume(true, 0), 999985000050000000L + 9999900000000L);
        Road most = with("{L50000 0}");
        yes("axis", most.axis(-100000, 0));
        is("run", most.run(0), 3);
        is("keep", most.keep(0), 1);
        is("keep", most.keep(100000), 2);
        is("the sign", most.volume(true, -1), 1);
        is("lowest eighteen digits", most.volume(true, 0), 0);
        is("the next", most.volume(true, 2), 1);
        is("the next", most.volume(true, 4), 0);
        is("lower part", most.volume(true, 1), 1);
        is("lower part", most.volume(true, 3), 0);
    }

    // Promise 18: "0 templates, .. 5 ? met in the section. BAD: another number."

    static void promise18NoOtherNumber() {
        Road x = toKeep();
        for (int what : new int[] {-1, 6, -2, 7, Integer.MIN_VALUE, Integer.MAX_VALUE}) {
            is("count " + what, x.count(what), BAD);
        }
        is("the first", x.count(0), 1);
        is("the last", x.count(5), 0);
    }

    static void promise18FullOfAll() {
        Road x = with(6, "{?o()?o()?o()?o()?o()?o()?o()?o()?o()?o()?o()?o()}{WWWWWWWWWWWW}{}{}{}"
                + "{L1 0L1 0L1 0L1 0L1 0L1 0L1 0L1 0L1 0L1 0L1 0L1 0}");
        for (int n = 0; n < 12; n++) {
            yes("point", x.ground(n, 0));
        }
        is("templates", x.count(0), 6);
        is("points", x.count(1), 12);
        is("run", x.run(0), 1);
        is("corners", x.count(2), 1);
        is("? met", x.count(5), 24);
        is("run", x.run(5), 25);
        is("corners", x.count(2), 25);
        is("? met", x.count(5), 0);
        for (int n = 0; n < 20; n++) {
            is("keep", x.keep(n), n + 1);
        }
        is("kept", x.count(3), 20);
        is("signs", x.count(4), 0);
        collect(x, "{".repeat(200));
        is("signs", x.count(4), 200);
    }

    static void promise18RefusedCallsCountNothing() {
        Road x = new Road();
        no("sign", x.unit(31));
        no("point", x.ground(0, 100001));
        is("template", x.run(0), BAD);
        is("metre", x.keep(0), BAD);
        is("text", x.read(), -1);
        for (int what = 0; what <= 5; what++) {
            is("count " + what, x.count(what), 0);
        }
    }

    static void promise18SectionCountsGoWithIt() {
        Road x = with("{?o(L1 0)}");
        is("run", x.run(0), 3);
        is("corners", x.count(2), 3);
        is("? met", x.count(5), 2);
        is("refused", x.run(1), BAD);
        is("corners", x.count(2), 3);
        is("? met", x.count(5), 2);
        is("wrong text", x.read(), -1);
        is("corners", x.count(2), 3);
        is("read", read(x, "{}"), 1);
        is("corners", x.count(2), 0);
        is("? met", x.count(5), 0);
    }
}
