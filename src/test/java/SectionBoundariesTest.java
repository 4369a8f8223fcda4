import java.math.BigInteger;

/** The edges that the document names for sections: the steps (terms), and what is asked of them (promises 8 to 15). */
public final class SectionBoundariesTest extends Checks {
    private static final int[] SIDES = {-1, 1};
    private static final int[] NO_SIDES = {0, 2, -2, 3, -3, Integer.MIN_VALUE, Integer.MAX_VALUE};

    public static void main(String[] args) {
        runAll(SectionBoundariesTest.class);
    }

    private static Road on(int axisLevel, String text, int... points) {
        Road x = with(text);
        yes("axis", x.axis(axisLevel, 0));
        for (int i = 0; i + 1 < points.length; i += 2) {
            yes("point", x.ground(points[i], points[i + 1]));
        }
        return x;
    }

    /** The outermost corner of a side. */
    private static void end(Road x, int side, long offUp, long offLow, long levelUp, long levelLow) {
        int k = side < 0 ? 0 : x.count(2) - 1;
        corner(x, k, 0, offUp, offLow);
        corner(x, k, 1, levelUp, levelLow);
    }

    // Terms: "straight between neighbours, level before the first and behind the last one"

    static void termsGroundAroundTheFirstAndTheLastPoint() {
        Road x = with(3, "{J9 0W}{J10 0W}{J11 0W}");
        yes("first", x.ground(-10, 7));
        yes("last", x.ground(10, -3));
        is("run", x.run(0), 5);
        end(x, -1, -9, 1, 13, 2);
        end(x, 1, 9, 1, -5, 2);
        is("run", x.run(1), 5);
        end(x, -1, -10, 1, 7, 1);
        end(x, 1, 10, 1, -3, 1);
        is("run", x.run(2), 5);
        end(x, -1, -11, 1, 7, 1);
        end(x, 1, 11, 1, -3, 1);
    }

    static void termsOnePointIsLevelEverywhere() {
        Road x = on(0, "{J99999 0W}", 5, 8);
        is("run", x.run(0), 5);
        end(x, -1, -99999, 1, 8, 1);
        end(x, 1, 99999, 1, 8, 1);
    }

    static void termsNeighboursOneMmApart() {
        Road x = on(0, "{J1 0W}", -1, 100000, 0, -100000, 1, 99999);
        is("run", x.run(0), 5);
        end(x, -1, -1, 1, 100000, 1);
        end(x, 1, 1, 1, 99999, 1);
        is("read", read(x, "{W}"), 1);
        is("run", x.run(0), 3);
        end(x, 1, 0, 1, -100000, 1);
    }

    static void termsNeighboursAsFarApartAsMayBe() {
        Road x = on(0, "{J99999 0W}", -100000, -100000, 100000, 99999);
        is("run", x.run(0), 5);
        // 199,999 up over 200,000.
        end(x, -1, -99999, 1, -19999800001L, 200000);
        end(x, 1, 99999, 1, 19999600001L, 200000);
    }

    // Terms: L, B, J

    static void termsLaneOfNoWidth() {
        Road x = on(5, "{L0 99999 L0 -99999}");
        is("run", x.run(0), 5);
        for (int k = 0; k < 5; k++) {
            corner(x, k, 0, 5);
        }
    }

    static void termsLeastLane() {
        Road x = on(0, "{L1 1 L1 -2}");
        is("run", x.run(0), 5);
        corner(x, 1, 0, -1, 1);
        corner(x, 1, 1, -1, 1000);
        corner(x, 0, 0, -2, 1);
        corner(x, 0, 1, 1, 1000);
        corner(x, 3, 1, -1, 1000);
        corner(x, 4, 1, 1, 1000);
    }

    static void termsLevelLane() {
        Road x = on(-7, "{L99999 0}");
        is("run", x.run(0), 3);
        corner(x, 0, -99999, -7);
        corner(x, 2, 99999, -7);
    }

    static void termsBankUpOnTheRightDownOnTheLeft() {
        Road x = with("{B0B1B99999}");
        for (int bank : new int[] {-150, -1, 0, 1, 150}) {
            yes("axis", x.axis(0, bank));
            is("run", x.run(0), 7);
            corner(x, 2, 0, 0);
            corner(x, 4, 0, 0);
            is("1 mm left", x.corner(1, 1, -1), -Integer.signum(bank));
            is("1 mm right", x.corner(5, 1, -1), Integer.signum(bank));
            is("left", x.corner(0, 1, -1), -Integer.signum(bank));
            is("right", x.corner(6, 1, -1), Integer.signum(bank));
            is("right", x.corner(6, 1, 0), Math.abs(bank) * 100);
            is("left", x.corner(0, 1, 0), Math.abs(bank) * 100);
        }
    }

    static void termsJumpOfNoWidthAndNoHeight() {
        Road x = on(5, "{J0 0 J0 99999 J0 -99999 J99999 0}");
        is("run", x.run(0), 9);
        corner(x, 5, 0, 5);
        corner(x, 6, 0, -99994);
        corner(x, 7, 0, 5);
        corner(x, 8, 99999, 5);
        corner(x, 0, -99999, 5);
    }

    // Terms, S: "from below the ground up, from above it down, .. to the first place where it meets the ground"

    static void termsSlopeByAThousandth() {
        Road x = on(0, "{L1 1 S1/1}");
        is("from below", x.run(0), 5);
        end(x, -1, -1001, 1000, 0, 1);
        end(x, 1, 1001, 1000, 0, 1);
        is("read", read(x, "{L1 -1 S1/1}"), 1);
        is("from above", x.run(0), 5);
        end(x, -1, -1001, 1000, 0, 1);
        end(x, 1, 1001, 1000, 0, 1);
    }

    static void termsSteepestAndFlattestSlope() {
        Road x = on(-1, "{S99999/1}");
        is("run", x.run(0), 3);
        end(x, -1, -1, 99999, 0, 1);
        end(x, 1, 1, 99999, 0, 1);
        is("read", read(x, "{S1/99999}"), 1);
        is("run", x.run(0), 3);
        end(x, -1, -99999, 1, 0, 1);
        end(x, 1, 99999, 1, 0, 1);
        yes("axis", x.axis(100000, 0));
        is("run", x.run(0), 3);
        end(x, -1, -9999900000L, 1, 0, 1);
        end(x, 1, 9999900000L, 1, 0, 1);
    }

    /** "On the ground it ends where it is." */
    static void termsSlopeOnTheGround() {
        Road x = on(3, "{S1/1 L5 0}", -10, 3, 10, 3);
        is("run", x.run(0), 3);
        corner(x, 0, 0, 3);
        corner(x, 2, 0, 3);
        yes("ended", x.ended(-1) && x.ended(1));
        is("by S", x.code(0), 4);
    }

    /** On the ground between two of its points, at an eighth of a mm. */
    static void termsSlopeOnTheGroundBetweenPoints() {
        Road x = on(0, "{L1 -125 S1/1}", -8, -1, 0, 0, 8, 1);
        is("run", x.run(0), 5);
        end(x, 1, 1, 1, 1, 8);
        // Left, it is a quarter above the ground, which falls by an eighth for each mm: 7/8 of that to go.
        end(x, -1, -9, 7, -9, 56);
    }

    /** A place that the slope only touches is the first one. */
    static void termsSlopeTouchesAPoint() {
        Road above = on(30, "{S1/2}", -60, -500, -40, 10, -20, 0, 20, 0, 40, 10, 60, -500);
        is("run", above.run(0), 3);
        end(above, -1, -40, 1, 10, 1);
        end(above, 1, 40, 1, 10, 1);
        yes("1 mm higher", above.axis(31, 0));
        is("run", above.run(0), 3);
        end(above, 1, 1062, 1, -500, 1);
        end(above, -1, -1062, 1, -500, 1);
        Road below = on(-30, "{S1/2}", -60, 500, -40, -10, -20, 0, 20, 0, 40, -10, 60, 500);
        is("run", below.run(0), 3);
        end(below, -1, -40, 1, -10, 1);
        end(below, 1, 40, 1, -10, 1);
        yes("1 mm lower", below.axis(-31, 0));
        is("run", below.run(0), 3);
        end(below, 1, 1062, 1, 500, 1);
        end(below, -1, -1062, 1, 500, 1);
    }

    /** A point that the slope passes by a thousandth of a mm is none where it meets the ground. */
    static void termsSlopeMissesAPointByAThousandth() {
        Road above = on(10, "{L1 -1 S1/1}", -12, -500, -11, 0, -10, -500, 10, -500, 11, 0, 12, -500);
        is("run", above.run(0), 5);
        end(above, -1, -511001, 1000, -500, 1);
        end(above, 1, 511001, 1000, -500, 1);
        Road below = on(-10, "{L1 1 S1/1}", -12, 500, -11, 0, -10, 500, 10, 500, 11, 0, 12, 500);
        is("run", below.run(0), 5);
        end(below, -1, -511001, 1000, 500, 1);
        end(below, 1, 511001, 1000, 500, 1);
    }

    /** All points of the ground lie on one side: there the nearest one counts first, on the other side none. */
    static void termsSlopeBeforeAllPoints() {
        Road right = on(0, "{S1/1}", 10, 5, 20, -50, 30, 900);
        is("run", right.run(0), 3);
        end(right, 1, 5, 1, 5, 1);
        end(right, -1, -5, 1, 5, 1);
        Road left = on(0, "{S1/1}", -30, 900, -20, -50, -10, 5);
        is("run", left.run(0), 3);
        end(left, 1, 5, 1, 5, 1);
        end(left, -1, -5, 1, 5, 1);
        Road farther = on(-10, "{S1/1}", 10, 5, 14, 2, 30, 900);
        is("run", farther.run(0), 3);
        // 5 below the first point; from there 1 and 3/4 nearer each mm, until it is 2 above the second one.
        end(farther, 1, 90, 7, 20, 7);
        end(farther, -1, -15, 1, 5, 1);
    }

    /** Of several places where it would meet the ground, the first one. */
    static void termsSlopeMeetsTheFirstOfSeveral() {
        Road x = on(-10, "{S1/1}", 0, 0, 20, -5, 40, 200, 60, -200);
        is("run", x.run(0), 3);
        // 10 below, the slope 1 and the ground a quarter against it: 8 mm out.
        end(x, 1, 8, 1, -2, 1);
        end(x, -1, -10, 1, 0, 1);
    }

    /** Along a ground that climbs just as it does, a slope never comes nearer. */
    static void termsSlopeAlongTheGround() {
        Road x = on(-10, "{S1/2}", -100, 50, 0, 0, 100, 50);
        is("run", x.run(0), 3);
        end(x, -1, -120, 1, 50, 1);
        end(x, 1, 120, 1, 50, 1);
    }

    /** The ground climbs away from it at first. */
    static void termsSlopeFlatterThanTheGround() {
        Road x = on(-10, "{S1/10}", -100, 90, 0, 0, 100, 90);
        is("run", x.run(0), 3);
        end(x, -1, -1000, 1, 90, 1);
        end(x, 1, 1000, 1, 90, 1);
    }

    static void termsSlopeMeetsAtTheLastPoint() {
        Road x = on(-10, "{S1/1}", -20, 10, 0, 5, 20, 10);
        is("run", x.run(0), 3);
        end(x, -1, -20, 1, 10, 1);
        end(x, 1, 20, 1, 10, 1);
    }

    static void termsSlopeFromAPointAndFromBehindTheLast() {
        Road x = on(0, "{J20 10 S1/1}", -20, 0, 20, 4);
        is("run", x.run(0), 5);
        end(x, -1, -30, 1, 0, 1);
        end(x, 1, 34, 1, 4, 1);
        is("read", read(x, "{J21 10 S1/1}"), 1);
        is("run", x.run(0), 5);
        end(x, -1, -31, 1, 0, 1);
        end(x, 1, 35, 1, 4, 1);
        is("read", read(x, "{J19 10 S2/1}"), 1);
        is("run", x.run(0), 5);
        // At the point at 20 it is 12 below the ground, at that at -20 it is 8; behind them 2 less each mm.
        end(x, 1, 26, 1, 4, 1);
        end(x, -1, -24, 1, 0, 1);
    }

    // Terms, W: "straight up or down to the ground: the side ends there"

    static void termsWallUpDownAndOfNoHeight() {
        for (int level : new int[] {-100000, -1, 0, 1, 100000}) {
            Road x = on(level, "{W L5 0}");
            is("run", x.run(0), 3);
            corner(x, 0, 0, 0);
            corner(x, 1, 0, level);
            corner(x, 2, 0, 0);
            yes("ended", x.ended(-1) && x.ended(1));
            is("by W", x.code(0), 5);
            is("by W", x.code(2), 5);
        }
    }

    // Terms, ?: "COND: c below the ground, f above it, o on it, h NUMBER: more than so many mm from it."

    /** What ? takes at the axis and, DOWN thousandths lower, 1 mm right of it. */
    private static void takes(String cond, int axisLevel, String down, int want) {
        Road x = on(axisLevel, "{L1 " + down + " ?" + cond + "()}");
        is("run", x.run(0), 3);
        is(cond + " at " + axisLevel + " less " + down + " thousandths", x.condition(1), want);
    }

    static void termsConditionsByAThousandth() {
        takes("c", 0, "1", 1);
        takes("c", 0, "0", 0);
        takes("c", 0, "-1", 0);
        takes("f", 0, "1", 0);
        takes("f", 0, "0", 0);
        takes("f", 0, "-1", 1);
        takes("o", 0, "1", 0);
        takes("o", 0, "0", 1);
        takes("o", 0, "-1", 0);
    }

    static void termsMoreThanSoManyMm() {
        takes("h5", 5, "0", 0);
        takes("h5", 5, "-1", 1);
        takes("h5", 5, "1", 0);
        takes("h5", -5, "0", 0);
        takes("h5", -5, "-1", 0);
        takes("h5", -5, "1", 1);
        takes("h4", 5, "0", 1);
        takes("h6", 5, "0", 0);
        takes("h0", 0, "0", 0);
        takes("h0", 0, "1", 1);
        takes("h0", 0, "-1", 1);
        takes("h99999", 99999, "0", 0);
        takes("h99999", 99999, "-1", 1);
        takes("h99999", 100000, "0", 1);
        takes("h99999", -99999, "0", 0);
        takes("h99999", -100000, "0", 1);
    }

    /** Where the ground is between two points: at a third of a mm. */
    static void termsConditionsAgainstAFraction() {
        Road x = on(0, "{J1 0 ?h0() ?c() ?f() J1 0 ?h0():() J1 0 ?h0() ?h1() J0 -1 ?o()}", 0, 0, 3, 1);
        is("run", x.run(0), 9);
        is("met", x.count(5), 14);
        int[] right = {1, 1, 0, 1, 1, 0, 1};
        for (int k = 0; k < right.length; k++) {
            is("right " + k, x.condition(7 + k), right[k]);
        }
        int[] left = {0, 0, 0, 2, 0, 0, 0};
        for (int k = 0; k < left.length; k++) {
            is("left " + k, x.condition(k), left[k]);
        }
    }

    /** "the first ones, if COND holds where it is, else the others (or none)" */
    static void termsQuestionTakesTheFirstTheOthersOrNone() {
        Road x = on(1, "{?f(J1 0):(J2 0) ?c(J4 0):(J8 0) ?c(J16 0) ?f(J32 0)}");
        is("run", x.run(0), 7);
        corner(x, 4, 1, 1);
        corner(x, 5, 9, 1);
        corner(x, 6, 41, 1);
        corner(x, 0, -41, 1);
    }

    static void termsEmptyStepsOfAQuestion() {
        Road x = on(1, "{?f():(J2 0) ?c(J4 0):() J1 0}");
        is("run", x.run(0), 3);
        corner(x, 2, 1, 1);
    }

    static void termsFiveQuestionsDeep() {
        Road x = on(1, "{?f(?f(?f(?f(?f(J0 1)):(W)):(W)):(W)):(W) ?o(J3 0)}");
        is("run", x.run(0), 5);
        corner(x, 3, 0, 0);
        corner(x, 4, 3, 0);
        is("met", x.count(5), 12);
        yes("on the ground", x.axis(0, 0));
        is("run", x.run(0), 3);
        is("by W", x.code(2), 5);
        is("met", x.count(5), 2);
    }

    /** As many steps as four templates and a text can hold, each a question with others. */
    static void termsQuestionsWithOthersAlone() {
        Road x = with(4, ("{" + "?c():()".repeat(12) + "}").repeat(3) + "{" + "?c():()".repeat(9) + "?c(J5 0):(J7 0)}");
        for (int n = 0; n < 3; n++) {
            is("run", x.run(n), 1);
            is("met", x.count(5), 24);
            is("took", x.condition(23), 2);
        }
        is("run", x.run(3), 3);
        corner(x, 2, 7, 0);
        yes("below", x.axis(-1, 0));
        is("run", x.run(2), 1);
        is("took", x.condition(0), 1);
        is("took", x.condition(23), 1);
        is("run", x.run(3), 3);
        corner(x, 0, -5, -1);
        is("met", x.count(5), 20);
    }

    /** "until the side ends": also inside of ( ), and nothing behind it is met. */
    static void termsNothingBehindTheEnd() {
        Road x = on(0, "{?o(L1 0 ?o(W L1 0) L1 0 ?o()) ?o() L1 0}");
        is("run", x.run(0), 5);
        is("met", x.count(5), 4);
        yes("ended", x.ended(-1) && x.ended(1));
    }

    /** One side may end where the other one goes on. */
    static void termsSidesEndForThemselves() {
        Road x = on(0, "{L10 0 ?c(W) L5 0 ?f(S1/1)}", -20, -20, 20, 20);
        is("run", x.run(0), 6);
        yes("left", x.ended(-1));
        yes("right", x.ended(1));
        int[] codes = {4, 1, 1, 0, 1, 5};
        for (int k = 0; k < codes.length; k++) {
            is("code", x.code(k), codes[k]);
        }
    }

    // Terms: "Its CORNERS, from the one that is farthest left to the one farthest right"

    static void termsSmallestSection() {
        Road x = on(9, "{}");
        is("run", x.run(0), 1);
        is("corners", x.count(2), 1);
        corner(x, 0, 0, 9);
        is("code", x.code(0), 0);
        area(x, true, 0, 1);
        area(x, false, 0, 1);
        level(x, 0, 9, 1);
        noLevel(x, 1);
        noLevel(x, -1);
        no("ended", x.ended(-1) || x.ended(1));
    }

    static void termsLargestSection() {
        Road x = on(0, "{" + "J2 1".repeat(12) + "}");
        is("run", x.run(0), 25);
        for (int k = 0; k < 25; k++) {
            is("code", x.code(k), k == 12 ? 0 : 3);
            is("off", x.corner(k, 0, 0), 2 * Math.abs(k - 12));
            is("side", x.corner(k, 0, -1), Integer.signum(k - 12));
            is("level", x.corner(k, 1, 0), Math.abs(k - 12));
        }
        is("behind the last", x.code(25), BAD);
        area(x, true, 24 * 12, 1);
    }

    static void termsWidestAndDeepestSection() {
        Road x = on(-100000, "{" + "L99999 99999".repeat(12) + "}");
        is("run", x.run(0), 25);
        long width = 12L * 99999;
        long deepest = 12L * 9999800001L + 100000000L;
        corner(x, 24, 0, width, 1);
        corner(x, 24, 1, -deepest / 4, 250);
        // On both sides the mean depth, in thousandths, by the width.
        BigInteger up = BigInteger.valueOf(width).multiply(BigInteger.valueOf(deepest + 100000000L));
        BigInteger common = up.gcd(BigInteger.valueOf(1000));
        BigInteger[] parts = up.divide(common).divideAndRemainder(BigInteger.TEN.pow(18));
        is("lowest eighteen digits", x.area(true, 0), parts[1].longValueExact());
        is("the next", x.area(true, 2), parts[0].longValueExact());
        is("lower part", x.area(true, 1), 1000 / common.longValueExact());
        area(x, false, 0, 1);
    }

    // Promise 8: "BAD: none such: the section stays."

    static void promise8FirstAndLastTemplate() {
        Road x = with(6, "{}{J1 0}{J2 0}{J3 0}{J4 0}{J5 0}");
        is("below the first", x.run(-1), BAD);
        is("above the last", x.run(6), BAD);
        noSection(x);
        is("the first", x.run(0), 1);
        for (int n = 1; n < 6; n++) {
            is("run", x.run(n), 3);
            corner(x, 2, n, 0);
        }
        is("above the last", x.run(6), BAD);
        is("below the first", x.run(-1), BAD);
        corner(x, 2, 5, 0);
    }

    static void promise8RefusedRunLeavesTheSection() {
        Road x = on(1, "{L2 500 ?o(W):(J1 1) ?c(W)}", -5, 3, 5, -4);
        is("run", x.run(0), 6);
        String before = picture(x);
        x.clear();
        yes("axis", x.axis(55, 5));
        for (int none : new int[] {-1, 1, 2, 6, Integer.MIN_VALUE, Integer.MAX_VALUE}) {
            is("run " + none, x.run(none), BAD);
        }
        same("the section", picture(x), before);
    }

    /** A later section leaves nothing of the earlier one. */
    static void promise8NextSection() {
        Road x = with(2, "{" + "J1 1?c()".repeat(6) + "}{?o()J2 0}");
        is("run", x.run(0), 13);
        is("met", x.count(5), 12);
        is("run", x.run(1), 3);
        is("corners", x.count(2), 3);
        is("met", x.count(5), 2);
        is("no corner", x.code(3), BAD);
        is("no ?", x.condition(2), BAD);
        area(x, true, 0, 1);
        noLevel(x, 3);
        level(x, 2, 0, 1);
    }

    static void promise8SameSectionTwice() {
        Road x = on(1, "{L2 500 ?o(W):(J1 1) ?c(S1/3)}", -5, 3, 5, -4);
        is("run", x.run(0), 6);
        String before = picture(x);
        is("run", x.run(0), 6);
        same("the section", picture(x), before);
    }

    // Promise 9: "A corner of the section, axis 0 its OFF, 1 its LEVEL, by parts. BAD (part - 1: NONE): none such."

    static void promise9FirstAndLastCorner() {
        Road x = on(4, "{J3 1}");
        is("run", x.run(0), 3);
        corner(x, 0, -3, 3);
        corner(x, 2, 3, 3);
        for (int k : new int[] {-1, 3, 4, 25, Integer.MIN_VALUE, Integer.MAX_VALUE}) {
            for (int axis = 0; axis <= 1; axis++) {
                is("corner " + k, x.corner(k, axis, -1), NONE);
                is("corner " + k, x.corner(k, axis, 0), BAD);
                is("corner " + k, x.corner(k, axis, 1), BAD);
                is("corner " + k, x.corner(k, axis, 2), BAD);
                is("corner " + k, x.corner(k, axis, Integer.MAX_VALUE), BAD);
                is("corner " + k, x.corner(k, axis, -2), BAD);
                is("corner " + k, x.corner(k, axis, Integer.MIN_VALUE), BAD);
            }
        }
    }

    static void promise9FirstAndLastAxis() {
        Road x = on(4, "{J3 1}");
        is("run", x.run(0), 3);
        for (int axis : new int[] {-1, 2, 3, -2, Integer.MIN_VALUE, Integer.MAX_VALUE}) {
            for (int k = -1; k <= 3; k++) {
                is("axis " + axis, x.corner(k, axis, -1), NONE);
                is("axis " + axis, x.corner(k, axis, 0), BAD);
                is("axis " + axis, x.corner(k, axis, 1), BAD);
                is("axis " + axis, x.corner(k, axis, -2), BAD);
            }
        }
        is("axis 0", x.corner(2, 0, 0), 3);
        is("axis 1", x.corner(1, 1, 0), 4);
    }

    static void promise9NoSection() {
        Road x = with("{J3 1}");
        noSection(x);
        is("axis", x.corner(0, 2, -1), NONE);
        is("part", x.corner(0, 0, Integer.MAX_VALUE), BAD);
    }

    // Terms: "FRACTIONS are told in least terms (0 as 0 / 1) by PARTS"

    static void termsPartsOfAFraction() {
        // 3 below the ground at 1 mm: 3/7 out.
        Road x = on(0, "{J1 3 S7/1}");
        is("run", x.run(0), 5);
        for (int k : new int[] {0, 4}) {
            is("sign", x.corner(k, 0, -1), k == 0 ? -1 : 1);
            is("upper part, without sign", x.corner(k, 0, 0), 10);
            is("lower part", x.corner(k, 0, 1), 7);
            for (int part : new int[] {2, 3, 4, 5, 98, 99, 200, 201, 1000001, Integer.MAX_VALUE - 1, Integer.MAX_VALUE}) {
                is("behind the last ones " + part, x.corner(k, 0, part), 0);
            }
            for (int part : new int[] {-2, -3, -4, Integer.MIN_VALUE, Integer.MIN_VALUE + 1}) {
                is("below - 1", x.corner(k, 0, part), BAD);
                is("below - 1", x.corner(k, 1, part), BAD);
            }
        }
    }

    static void termsZeroIsZeroOverOne() {
        Road x = on(0, "{J1 3 S7/1}");
        is("run", x.run(0), 5);
        corner(x, 0, 1, 0, 1);
        corner(x, 4, 1, 0, 1);
        corner(x, 2, 0, 0, 1);
        corner(x, 2, 1, 0, 1);
        area(x, false, 0, 1);
        is("level", x.level(0, -1), 0);
        is("level", x.level(0, 0), 0);
        is("level", x.level(0, 1), 1);
    }

    static void termsLeastTerms() {
        Road x = on(0, "{L250 250 L2 500 L6 -750}");
        is("run", x.run(0), 7);
        corner(x, 4, 1, -125, 2);
        corner(x, 5, 1, -127, 2);
        corner(x, 6, 1, -59, 1);
        level(x, 252, -127, 2);
        level(x, 254, -62, 1);
        level(x, 1, -1, 4);
    }

    /** The parts of an upper and a lower number that are not in least terms yet, each of 36 digits at most. */
    private static long[] partsOf(BigInteger up, BigInteger low) {
        BigInteger common = up.gcd(low);
        BigInteger[] ups = up.abs().divide(common).divideAndRemainder(BigInteger.TEN.pow(18));
        BigInteger[] lows = low.divide(common).divideAndRemainder(BigInteger.TEN.pow(18));
        return new long[] {
            ups[1].longValueExact(), lows[1].longValueExact(), ups[0].longValueExact(), lows[0].longValueExact(), 0, 0,
        };
    }

    /** From the deepest corners that may be, up to the level ground: GAP * OUT / UP out from there. */
    static void termsEndOfTheDeepestSlopes() {
        for (int steps = 8; steps <= 11; steps++) {
            Road x = on(-100000, "{" + "L99999 99999".repeat(steps) + "S99991/99989}");
            is("run", x.run(0), 2 * steps + 3);
            BigInteger gap = BigInteger.valueOf(steps * 9999800001L + 100000000L);
            BigInteger low = BigInteger.valueOf(99991000L);
            BigInteger up = gap.multiply(BigInteger.valueOf(99989L))
                    .add(low.multiply(BigInteger.valueOf(99999L * steps)));
            long[] parts = partsOf(up, low);
            for (int part = 0; part < parts.length; part++) {
                is("part " + part, x.corner(0, 0, part), parts[part]);
            }
            is("sign", x.corner(0, 0, -1), -1);
        }
    }

    /**
     * "the lowest eighteen digits .. 2 and 3 the next eighteen": the OFF of a slope's end, between the last number of
     * eighteen digits and the first of nineteen. The slope begins 1 mm out, a thousandth of a mm below -DEPTH; the
     * ground falls towards it from 100,000 at -100,000 to -99,998 at 99,999.
     */
    static void termsEighteenDigitsAndNineteen() {
        int nineteen = 0;
        for (int depth = 49990; depth <= 50010; depth++) {
            Road x = on(-depth, "{L1 1 S99991/99989}", -100000, 100000, 99999, -99998);
            is("run", x.run(0), 5);
            // Both rise by thousandths over 199,999 * 99,989 each mm; the gap at 1 closes by their difference.
            BigInteger scale = BigInteger.valueOf(199999L * 99989L);
            BigInteger rise = BigInteger.valueOf(1000L * (99991L * 199999L + 199998L * 99989L));
            BigInteger ground = BigInteger.valueOf(100000L * 199999L - 199998L * 100001L);
            BigInteger gap = ground.multiply(BigInteger.valueOf(99989L * 1000L))
                    .add(scale.multiply(BigInteger.valueOf(1000L * depth + 1)));
            long[] parts = partsOf(rise.add(gap), rise);
            nineteen += parts[2] > 0 ? 1 : 0;
            is("sign", x.corner(4, 0, -1), 1);
            for (int part = 0; part < parts.length; part++) {
                is("part " + part, x.corner(4, 0, part), parts[part]);
            }
        }
        yes("some of nineteen", nineteen > 0);
        yes("some of eighteen", nineteen < 21);
    }

    /** The lower part, too, may have more than eighteen digits: of two triangles that have no factor in common. */
    static void termsLowerPartOfMoreThanEighteenDigits() {
        Road x = on(-99991, "{S99991/99989}", -99961, -99990, 0, 99997, 99971, -99988);
        is("run", x.run(0), 3);
        long gap = 99991 + 99997;
        // A side's end is at GAP * OUT * WIDTH / (UP * WIDTH + FALL * OUT), its area half of GAP by that.
        long leftLow = 99991L * 99961L + 199987L * 99989L;
        long rightLow = 99991L * 99971L + 199985L * 99989L;
        BigInteger square = BigInteger.valueOf(gap).pow(2).multiply(BigInteger.valueOf(99989L));
        BigInteger left = square.multiply(BigInteger.valueOf(99961L)).multiply(BigInteger.valueOf(rightLow));
        BigInteger right = square.multiply(BigInteger.valueOf(99971L)).multiply(BigInteger.valueOf(leftLow));
        BigInteger low = BigInteger.TWO.multiply(BigInteger.valueOf(leftLow)).multiply(BigInteger.valueOf(rightLow));
        long[] parts = partsOf(left.add(right), low);
        yes("more than eighteen", parts[3] > 0);
        is("sign", x.area(true, -1), 1);
        for (int part = 0; part < parts.length; part++) {
            is("part " + part, x.area(true, part), parts[part]);
        }
        area(x, false, 0, 1);
    }

    // Promise 10: "A corner's code. BAD: none such."

    static void promise10FirstAndLastCorner() {
        Road x = on(0, "{L1 0B1J1 0?c(W)?f(W)S1/1}");
        is("no section", x.code(0), BAD);
        is("run", x.run(0), 9);
        int[] codes = {4, 3, 2, 1, 0, 1, 2, 3, 4};
        for (int k = 0; k < codes.length; k++) {
            is("code " + k, x.code(k), codes[k]);
        }
        for (int k : new int[] {-1, 9, 10, Integer.MIN_VALUE, Integer.MAX_VALUE}) {
            is("code " + k, x.code(k), BAD);
        }
    }

    // Promise 11: "Whether a side (- 1, 1) of the section ended on the ground by S or W. False also: no section."

    static void promise11EndedByWhat() {
        String[] texts = {"{W}", "{S1/1}", "{L5 5W}", "{L5 5S1/1}", "{}", "{L5 0}", "{J0 0}", "{?o(W)}", "{?c(W)}"};
        boolean[] ended = {true, true, true, true, false, false, false, true, false};
        for (int n = 0; n < texts.length; n++) {
            Road x = with(texts[n]);
            no("no section", x.ended(-1) || x.ended(1));
            yes("corners", x.run(0) > 0);
            for (int side : SIDES) {
                is(texts[n] + " side " + side, x.ended(side) ? 1 : 0, ended[n] ? 1 : 0);
            }
        }
    }

    static void promise11NoOtherSide() {
        Road x = on(0, "{W}");
        is("run", x.run(0), 3);
        for (int side : NO_SIDES) {
            no("side " + side, x.ended(side));
        }
        yes("left", x.ended(-1));
        yes("right", x.ended(1));
    }

    static void promise11OneSideOnly() {
        Road x = on(0, "{L5 0?c(W)}", -5, -5, 5, 5);
        is("run", x.run(0), 4);
        no("left", x.ended(-1));
        yes("right", x.ended(1));
        is("read", read(x, "{L5 0?f(W)}"), 1);
        no("no section", x.ended(-1) || x.ended(1));
        is("run", x.run(0), 4);
        yes("left", x.ended(-1));
        no("right", x.ended(1));
    }

    /** The next section that does not end says so. */
    static void promise11NextSection() {
        Road x = with(2, "{W}{L5 0}");
        is("run", x.run(0), 3);
        yes("ended", x.ended(1));
        is("run", x.run(1), 3);
        no("not ended", x.ended(-1) || x.ended(1));
    }

    // Promise 12: "Whether a corner of a side lies beyond the land (as that is now)."

    static void promise12AtTheLandAndBeyond() {
        Road x = on(0, "{L7 0}");
        is("run", x.run(0), 3);
        for (int side : SIDES) {
            yes("land", x.land(side, 6));
            yes("7 is beyond 6", x.passed(side));
            yes("land", x.land(side, 7));
            no("7 is not beyond 7", x.passed(side));
            yes("land", x.land(side, 8));
            no("7 is not beyond 8", x.passed(side));
        }
    }

    /** The end of a slope between two whole mm: 7 1/3. */
    static void promise12EndBetweenWholeMm() {
        Road x = on(0, "{J7 1S3/1}");
        is("run", x.run(0), 5);
        for (int side : SIDES) {
            yes("land", x.land(side, 7));
            yes("beyond 7", x.passed(side));
            yes("land", x.land(side, 8));
            no("not beyond 8", x.passed(side));
            yes("land", x.land(side, 6));
            yes("beyond 6", x.passed(side));
        }
    }

    static void promise12SlopeThatEndsAtTheLand() {
        Road x = on(0, "{J7 1S1/3}");
        is("run", x.run(0), 5);
        for (int side : SIDES) {
            yes("land", x.land(side, 10));
            no("10 is not beyond 10", x.passed(side));
            yes("land", x.land(side, 9));
            yes("10 is beyond 9", x.passed(side));
        }
    }

    static void promise12NoLandAtAll() {
        Road x = with(2, "{J0 5W}{J1 0}");
        yes("land", x.land(-1, 0));
        yes("land", x.land(1, 0));
        is("run", x.run(0), 5);
        no("0 is not beyond 0", x.passed(-1) || x.passed(1));
        is("run", x.run(1), 3);
        yes("1 is", x.passed(-1) && x.passed(1));
    }

    static void promise12LandAsItIsNow() {
        Road x = on(0, "{L7 0}");
        yes("land", x.land(1, 3));
        is("run", x.run(0), 3);
        yes("told before", x.passed(1));
        yes("land", x.land(1, 7));
        no("told behind", x.passed(1));
        yes("land", x.land(1, 3));
        yes("told again", x.passed(1));
    }

    static void promise12NoSectionOrNoSide() {
        Road x = on(0, "{L7 0}");
        yes("land", x.land(-1, 0));
        yes("land", x.land(1, 0));
        no("no section", x.passed(-1) || x.passed(1));
        is("run", x.run(0), 3);
        for (int side : NO_SIDES) {
            no("side " + side, x.passed(side));
        }
        yes("both", x.passed(-1) && x.passed(1));
        is("read", read(x, "{L7 0}"), 1);
        no("no section", x.passed(-1) || x.passed(1));
    }

    // Promise 13: "Which steps the k-th ? took that was met in the section (left side first) .. BAD: none such."

    static void promise13FirstAndLast() {
        Road x = on(0, "{?o() ?c() ?f():()}");
        is("no section", x.condition(0), BAD);
        is("run", x.run(0), 1);
        int[] took = {1, 0, 2, 1, 0, 2};
        for (int k = 0; k < took.length; k++) {
            is("condition " + k, x.condition(k), took[k]);
        }
        for (int k : new int[] {-1, 6, 7, Integer.MIN_VALUE, Integer.MAX_VALUE}) {
            is("condition " + k, x.condition(k), BAD);
        }
    }

    static void promise13NoneMet() {
        Road x = on(0, "{L1 0}");
        is("run", x.run(0), 3);
        is("none", x.count(5), 0);
        is("none", x.condition(0), BAD);
        is("none", x.condition(-1), BAD);
    }

    static void promise13AsManyAsMayBe() {
        Road x = on(0, "{" + "?o()".repeat(12) + "}");
        is("run", x.run(0), 1);
        is("met", x.count(5), 24);
        for (int k = 0; k < 24; k++) {
            is("condition " + k, x.condition(k), 1);
        }
        is("behind the last", x.condition(24), BAD);
    }

    static void promise13LeftSideFirst() {
        Road x = on(0, "{L5 0?c():()?f()}", -5, -5, 5, 5);
        is("run", x.run(0), 3);
        is("left", x.condition(0), 2);
        is("left", x.condition(1), 1);
        is("right", x.condition(2), 1);
        is("right", x.condition(3), 0);
        is("no more", x.condition(4), BAD);
    }

    /** Inside of what was not taken, and behind the end, none is met. */
    static void promise13OnlyThoseThatWereMet() {
        Road x = on(0, "{?c(?o()?o()):(?o(?f():())) ?o(W) ?o()}");
        is("run", x.run(0), 3);
        is("met", x.count(5), 8);
        int[] took = {2, 1, 2, 1};
        for (int k = 0; k < 8; k++) {
            is("condition " + k, x.condition(k), took[k % 4]);
        }
        is("no more", x.condition(8), BAD);
    }

    // Promise 14: "The section's area of cut or of fill .. BAD (part - 1: NONE): no section."

    static void promise14NoArea() {
        Road x = on(0, "{L5 0}");
        is("run", x.run(0), 3);
        area(x, true, 0, 1);
        area(x, false, 0, 1);
    }

    static void promise14NoSection() {
        Road x = with("{L5 0}");
        noSection(x);
        is("run", x.run(0), 3);
        is("read", read(x, "{L5 0}"), 1);
        noSection(x);
    }

    static void promise14Parts() {
        Road x = on(1, "{J1 3}");
        is("run", x.run(0), 3);
        area(x, true, 4, 3);
        area(x, false, 1, 3);
        for (int part : new int[] {-2, -3, Integer.MIN_VALUE}) {
            is("below - 1", x.area(true, part), BAD);
            is("below - 1", x.area(false, part), BAD);
        }
        for (int part : new int[] {4, 5, 198, 199, 200, 201, 1000, Integer.MAX_VALUE - 1, Integer.MAX_VALUE}) {
            is("behind the last ones", x.area(true, part), 0);
            is("behind the last ones", x.area(false, part), 0);
        }
    }

    /** "Where corners lie above one another there is no width." */
    static void promise14CornersAboveOneAnother() {
        Road x = on(0, "{J0 5 J0 -9 J2 4 J0 -7 J0 6 W}");
        is("run", x.run(0), 13);
        // From 4 above the ground down to it over 2 mm, on both sides.
        area(x, true, 0, 1);
        area(x, false, 8, 1);
    }

    /** "between the outermost corners": what lies beyond them is neither cut nor fill. */
    static void promise14OnlyBetweenTheOutermostCorners() {
        Road x = on(0, "{L3 0}", -100, 500, -4, 500, -3, 0, 3, 0, 4, -500, 100, -500);
        is("run", x.run(0), 3);
        area(x, true, 0, 1);
        area(x, false, 0, 1);
    }

    /** The ground touches the section in a point, and runs along it. */
    static void promise14GroundTouchesTheSection() {
        Road x = on(0, "{L4 0}", -4, 3, -2, 0, 0, 3, 1, 0, 3, 0, 4, -3);
        is("run", x.run(0), 3);
        area(x, true, 15, 2);
        area(x, false, 3, 2);
    }

    /** Ground and section cross between two corners, at a third of the way. */
    static void promise14GroundCrossesTheSection() {
        Road x = on(0, "{L3 0}", 0, 1, 3, -2);
        is("run", x.run(0), 3);
        // Left, the ground is level at 1.
        area(x, true, 7, 2);
        area(x, false, 2, 1);
    }

    /** All points of the ground lie on one side of the axis. */
    static void promise14PointsOnOneSide() {
        Road right = on(0, "{L9 0}", 3, 2, 6, 4, 9, 2);
        is("run", right.run(0), 3);
        area(right, true, 18 + 6 + 18, 1);
        Road left = on(0, "{L9 0}", -9, 2, -6, 4, -3, 2);
        is("run", left.run(0), 3);
        area(left, true, 18 + 6 + 18, 1);
    }

    /** Ground at a point right at the axis, at a corner, and beyond all corners. */
    static void promise14PointsAtCorners() {
        Road x = on(0, "{L2 0L2 0}", -4, 1, -2, 2, 0, 3, 2, 4, 4, 5, 6, 100);
        is("run", x.run(0), 5);
        area(x, true, 24, 1);
        area(x, false, 0, 1);
    }

    /** "what is told of ground, axis, land behind run() changes nothing of the section but passed()" */
    static void promise14LaterGroundAxisAndLandChangeNothing() {
        String text = "{L2 500 ?o(W):(J1 1) ?c(W)}";
        Road seen = on(1, text, -5, 3, 5, -4);
        is("run", seen.run(0), 6);
        String before = picture(seen);
        Road x = on(1, text, -5, 3, 5, -4);
        is("run", x.run(0), 6);
        yes("one point more", x.ground(6, 1000));
        yes("axis", x.axis(-77, 77));
        yes("land", x.land(-1, 0));
        yes("land", x.land(1, 0));
        same("the section that was not looked at before", picture(x), before);
        x.clear();
        same("the section", picture(x), before);
        yes("point", x.ground(-9, 9));
        same("the section", picture(x), before);
        yes("but passed()", x.passed(-1) && x.passed(1));
        is("keep", x.keep(0), 1);
    }

    /** Kept areas, too, are those of the ground by which the section was walked. */
    static void promise14KeptByTheGroundOfTheWalk() {
        Road x = on(0, "{L5 0}", 0, 2);
        is("run", x.run(0), 3);
        x.clear();
        yes("point", x.ground(0, -50));
        is("keep 20", x.keep(0), 1);
        is("keep 20", x.keep(1), 2);
        volume(x, true, 20000);
        volume(x, false, 0);
    }

    // Promise 15: "The level of the section at an OFF .. BAD (part - 1: NONE): no section, beyond it."

    static void promise15OutermostCornersAndBeyond() {
        Road x = on(4, "{J3 1}");
        is("run", x.run(0), 3);
        level(x, -3, 3, 1);
        level(x, 3, 3, 1);
        level(x, -2, 10, 3);
        level(x, 2, 10, 3);
        for (int off : new int[] {-4, 4, -100000, 100000, Integer.MIN_VALUE, Integer.MIN_VALUE + 1, Integer.MAX_VALUE}) {
            noLevel(x, off);
        }
    }

    /** The side ends between two whole mm, at 7 1/3. */
    static void promise15EndBetweenWholeMm() {
        Road x = on(0, "{J7 1S3/1}");
        is("run", x.run(0), 5);
        level(x, 7, -1, 1);
        level(x, -7, -1, 1);
        noLevel(x, 8);
        noLevel(x, -8);
        is("read", read(x, "{J7 2S3/2}"), 1);
        is("run", x.run(0), 5);
        level(x, 8, -1, 2);
        level(x, -8, -1, 2);
        noLevel(x, 9);
        is("read", read(x, "{J7 2S2/2}"), 1);
        is("run", x.run(0), 5);
        level(x, 9, 0, 1);
        level(x, -9, 0, 1);
        noLevel(x, 10);
    }

    /** "of corners above one another the one nearer the axis" */
    static void promise15CornersAboveOneAnother() {
        Road x = on(50, "{J0 1J0 2J4 4J0 8J0 16J4 32J0 64W}");
        is("run", x.run(0), 17);
        level(x, 0, 50, 1);
        level(x, 4, 43, 1);
        level(x, -4, 43, 1);
        level(x, 8, -13, 1);
        level(x, -8, -13, 1);
        level(x, 1, 46, 1);
        level(x, -1, 46, 1);
        level(x, 5, 11, 1);
        level(x, -5, 11, 1);
        noLevel(x, 9);
        noLevel(x, -9);
    }

    static void promise15OnlyTheAxis() {
        Road x = on(-5, "{J0 3W}");
        is("run", x.run(0), 5);
        level(x, 0, -5, 1);
        noLevel(x, 1);
        noLevel(x, -1);
    }

    static void promise15Parts() {
        Road x = on(4, "{J3 1}");
        is("run", x.run(0), 3);
        for (int part : new int[] {-2, -3, Integer.MIN_VALUE}) {
            is("below - 1", x.level(2, part), BAD);
            is("below - 1, beyond", x.level(4, part), BAD);
        }
        for (int part : new int[] {2, 3, 4, 5, 100, 101, Integer.MAX_VALUE - 1, Integer.MAX_VALUE}) {
            is("behind the last ones", x.level(2, part), 0);
            is("beyond", x.level(4, part), BAD);
        }
        is("beyond", x.level(4, -1), NONE);
    }

    static void promise15NoSection() {
        Road x = with("{J3 1}");
        noLevel(x, 0);
        noLevel(x, 3);
        is("run", x.run(0), 3);
        level(x, 3, -1, 1);
        is("read", read(x, "{J3 1}"), 1);
        noLevel(x, 0);
    }

    /** A slope from 100,000 below the ground goes out by 9,999,900,000: all ints lie on it. */
    static void promise15FarthestOffs() {
        Road x = on(-100000, "{S1/99999}");
        is("run", x.run(0), 3);
        level(x, Integer.MAX_VALUE, Integer.MAX_VALUE - 9999900000L, 99999);
        level(x, Integer.MIN_VALUE, -(long) Integer.MIN_VALUE - 9999900000L, 99999);
    }
}
