import java.lang.reflect.Constructor;
import java.lang.reflect.Field;
import java.lang.reflect.Member;
import java.lang.reflect.Method;
import java.lang.reflect.Modifier;
import java.math.BigInteger;
import java.util.TreeSet;

/** The document's promises one by one, on ordinary inputs, with answers worked out by hand. */
public final class PromisesTest extends Checks {
    public static void main(String[] args) {
        runAll(PromisesTest.class);
    }

    /** The public face, member by member, and nothing else that is not private. */
    static void face() {
        TreeSet<String> members = new TreeSet<>();
        for (Method method : SectionTemplates.class.getDeclaredMethods()) {
            addIfSeen(members, method, method.toGenericString());
        }
        for (Field field : SectionTemplates.class.getDeclaredFields()) {
            addIfSeen(members, field, field.toGenericString());
        }
        for (Constructor<?> constructor : SectionTemplates.class.getDeclaredConstructors()) {
            addIfSeen(members, constructor, constructor.toGenericString());
        }
        String[] due = {
            "public SectionTemplates()",
            "public boolean SectionTemplates.axis(int,int)",
            "public boolean SectionTemplates.ended(int)",
            "public boolean SectionTemplates.ground(int,int)",
            "public boolean SectionTemplates.land(int,int)",
            "public boolean SectionTemplates.passed(int)",
            "public boolean SectionTemplates.unit(int)",
            "public int SectionTemplates.code(int)",
            "public int SectionTemplates.condition(int)",
            "public int SectionTemplates.count(int)",
            "public int SectionTemplates.keep(int)",
            "public int SectionTemplates.read()",
            "public int SectionTemplates.run(int)",
            "public long SectionTemplates.area(boolean,int)",
            "public long SectionTemplates.corner(int,int,int)",
            "public long SectionTemplates.level(int,int)",
            "public long SectionTemplates.volume(boolean,int)",
            "public static final int SectionTemplates.BAD",
            "public static final int SectionTemplates.NONE",
            "public void SectionTemplates.clear()",
        };
        same("the face", String.join("; ", members), String.join("; ", due));
        is("the class, public and final", SectionTemplates.class.getModifiers(), Modifier.PUBLIC | Modifier.FINAL);
        is("BAD", SectionTemplates.BAD, BAD);
        is("NONE", SectionTemplates.NONE, NONE);
    }

    private static void addIfSeen(TreeSet<String> members, Member member, String text) {
        if (!Modifier.isPrivate(member.getModifiers())) {
            members.add(text);
        }
    }

    static void promise1NewObject() {
        Road x = new Road();
        for (int what = 0; what <= 5; what++) {
            is("new: count " + what, x.count(what), 0);
        }
        is("new: no templates", x.run(0), BAD);
        is("read", read(x, "{B1000 J0 70 W}"), 1);
        is("run", x.run(0), 7);
        corner(x, 3, 0, 0);
        corner(x, 2, -1000, 0);
        corner(x, 4, 1000, 0);
        corner(x, 0, -1000, 0);
        corner(x, 6, 1000, 0);
        is("read", read(x, "{" + "L99999 0".repeat(10) + "L10 0}"), 1);
        is("run", x.run(0), 23);
        no("land goes 1,000,000 far", x.passed(-1));
        no("land goes 1,000,000 far", x.passed(1));
    }

    static void promise2Unit() {
        Road x = new Road();
        for (int sign : new int[] {31, 127, 0, -1, 10, 9, 255, 300, Integer.MIN_VALUE, Integer.MAX_VALUE}) {
            no("unit " + sign, x.unit(sign));
        }
        is("nothing collected", x.count(4), 0);
        yes("unit 32", x.unit(32));
        yes("unit 126", x.unit(126));
        is("collected", x.count(4), 2);
        for (int n = 2; n < 400; n++) {
            yes("room for " + n, x.unit('{'));
        }
        no("no room", x.unit('{'));
        no("no room", x.unit(32));
        is("collected", x.count(4), 400);
        is("wrong", x.read(), -2);
        yes("room again", x.unit('{'));
        is("collected", x.count(4), 1);
    }

    static void promise3ReadTexts() {
        Object[][] texts = {
            {"", -1}, {"   ", -4}, {"{", -2}, {"{ ", -3}, {"x", -1}, {"  x", -3}, {"{}", 1}, {" { } {} ", 2},
            {"{}{}{}", 3}, {"{}x", -3}, {"{} }", -4}, {"{}{", -4}, {"{{}", -2}, {"{Q}", -2}, {"{l1 2}", -2},
            {"{)}", -2}, {"{:}", -2}, {"{c}", -2}, {"{L1 2}", 1}, {"{ L 1 2 }", 1}, {"{L 1   -2}", 1}, {"{L1-2}", 1},
            {"{L1 2L3 4B5J6 7W}", 1}, {"{L}", -3}, {"{L1}", -4}, {"{L1 }", -5}, {"{L1 -}", -6}, {"{L1 --2}", -6},
            {"{L-1 2}", -3}, {"{L1 2 3}", -7}, {"{L99999 99999}", 1}, {"{L100000 0}", -3}, {"{L1 123456}", -5},
            {"{L1 -123456}", -6}, {"{L01 0}", -3}, {"{L00 0}", -3}, {"{L0 0}", 1}, {"{L0 -0}", 1}, {"{L1 -01}", -6},
            {"{L1 00000}", -5}, {"{L1,2}", -4}, {"{L99999999999999999999 0}", -3}, {"{B}", -3}, {"{B5}", 1},
            {"{B-5}", -3}, {"{B5 5}", -5}, {"{B 0}", 1}, {"{B012345}", -3}, {"{J}", -3}, {"{J5}", -4},
            {"{J5 -7}", 1}, {"{J-5 7}", -3}, {"{J0 0}", 1}, {"{S1/1}", 1}, {"{S 1 / 1 }", 1}, {"{S0/1}", -3},
            {"{S1/0}", -5}, {"{S1}", -4}, {"{S/1}", -3}, {"{S1/}", -5}, {"{S1/-1}", -5}, {"{S-1/1}", -3},
            {"{S99999/99999}", 1}, {"{S100000/1}", -3}, {"{S1/100000}", -5}, {"{S1 1}", -5}, {"{S00/1}", -3},
            {"{W}", 1}, {"{WW}", 1}, {"{W1}", -3}, {"{?c()}", 1}, {"{?f()}", 1}, {"{?o()}", 1}, {"{?h0()}", 1},
            {"{ ? h 99999 ( ) : ( ) }", 1}, {"{?x()}", -3}, {"{?()}", -3}, {"{?h()}", -4}, {"{?h-1()}", -4},
            {"{?h00()}", -4}, {"{?h100000()}", -4}, {"{?c5()}", -4}, {"{?c}", -4}, {"{?c)}", -4}, {"{?c(}", -5},
            {"{?c()", -6}, {"{?c(", -5}, {"{?", -3}, {"{?c", -4}, {"{?c(W)W}", 1}, {"{?c(W):(W)}", 1},
            {"{?c(W) : ( W )}", 1}, {"{?c():}", -7}, {"{?c()::()}", -7}, {"{?c():()", -9}, {"{?c():():()}", -9},
            {"{?c():(}", -8}, {"{?c():W}", -7}, {"{:()}", -2}, {"{?c(?f():(W)):(?o(W))}", 1}, {"{?c(})}", -5},
            {"{?c(L1)}", -7},
        };
        for (Object[] row : texts) {
            is("read '" + row[0] + "'", read(new Road(), (String) row[0]), (int) row[1]);
        }
    }

    static void promise3ReadLimits() {
        Road x = new Road();
        is("six templates", read(x, "{}{}{}{}{}{}"), 6);
        is("seven templates", read(x, "{}{}{}{}{}{}{}"), -13);
        is("seven templates", read(x, "{}{}{}{}{}{} {Q"), -14);
        is("templates stay", x.count(0), 6);
        is("twelve steps", read(x, "{WWWWWWWWWWWW}"), 1);
        is("thirteen steps", read(x, "{WWWWWWWWWWWWW}"), -14);
        is("thirteen steps", read(x, "{WWWWWWWWWWWWL}"), -14);
        is("thirteen steps", read(x, "{WWWWWWWWWWWW?}"), -14);
        is("twelve in each", read(x, "{WWWWWWWWWWWW}{WWWWWWWWWWWW}"), 2);
        is("? is a step", read(x, "{?c(WWWWWWWWWWW)}"), 1);
        is("? is a step", read(x, "{?c(WWWWWWWWWWWW)}"), -16);
        is("the others, too", read(x, "{?c(WWWWWW):(WWWWW)}"), 1);
        is("the others, too", read(x, "{?c(WWWWWW):(WWWWWW)}"), -19);
        is("five ( open", read(x, "{?c(?c(?c(?c(?c(W)))))}"), 1);
        is("six ( open", read(x, "{?c(?c(?c(?c(?c(?c(W))))))}"), -19);
        is("six ( open", read(x, "{?c(?c(?c(?c(?c(?c (W))))))}"), -20);
        is("closed ones do not count", read(x, "{?c(?c(?c(?c(?c():(W)):()):()):()):(?c())}"), 1);
        is("six ( open in the others", read(x, "{?c():(?c():(?c():(?c():(?c():(?c()"), -34);
    }

    static void promise3ReadAndTheSection() {
        Road x = new Road();
        is("read", read(x, "{L10 0 ?o() W}"), 1);
        is("run", x.run(0), 5);
        is("wrong text", read(x, "{L10}"), -5);
        is("nothing collected", x.count(4), 0);
        is("templates stay", x.count(0), 1);
        is("section stays", x.count(2), 5);
        is("? stay", x.count(5), 2);
        yes("section stays", x.ended(1));
        is("read", read(x, "{}{}"), 2);
        is("templates", x.count(0), 2);
        is("nothing collected", x.count(4), 0);
        is("no corners", x.count(2), 0);
        is("no ?", x.count(5), 0);
        is("no code", x.code(0), BAD);
        is("no corner", x.corner(0, 0, 0), BAD);
        is("no corner", x.corner(0, 0, -1), NONE);
        is("no area", x.area(true, 0), BAD);
        is("no area", x.area(true, -1), NONE);
        is("no condition", x.condition(0), BAD);
        is("not kept", x.keep(1), BAD);
        no("not ended", x.ended(1));
        noLevel(x, 0);
        is("run", x.run(1), 1);
    }

    static void promise4Ground() {
        Road x = new Road();
        for (int bad : new int[] {-100001, 100001, Integer.MIN_VALUE, Integer.MAX_VALUE}) {
            no("off", x.ground(bad, 0));
            no("level", x.ground(0, bad));
        }
        is("no points", x.count(1), 0);
        yes("least", x.ground(-100000, 100000));
        no("same off", x.ground(-100000, 0));
        yes("next", x.ground(-99999, -100000));
        no("less", x.ground(-100000, 0));
        is("points", x.count(1), 2);
        for (int n = 2; n < 12; n++) {
            yes("point", x.ground(n, n));
        }
        no("there are 12", x.ground(100000, 0));
        is("points", x.count(1), 12);
        Road y = with("{L10 0 W}");
        yes("point", y.ground(-6, 3));
        yes("point", y.ground(4, 8));
        yes("point", y.ground(14, 0));
        is("run", y.run(0), 5);
        corner(y, 0, -10, 3);
        corner(y, 4, 1, 16, 5);
        yes("axis", y.axis(7, 0));
        is("read", read(y, "{W}"), 1);
        is("run", y.run(0), 3);
        corner(y, 0, 0, 6);
    }

    static void promise5Clear() {
        Road x = with("{J5 1 W}");
        yes("point", x.ground(50, 90));
        x.run(0);
        corner(x, 0, -5, 90);
        x.clear();
        is("no points", x.count(1), 0);
        corner(x, 0, -5, 90);
        x.run(0);
        corner(x, 0, -5, 0);
        yes("before the old one", x.ground(-50, 9));
        is("one point", x.count(1), 1);
    }

    static void promise6Axis() {
        Road x = with("{B1000}");
        yes("axis", x.axis(100000, 150));
        yes("axis", x.axis(-100000, -150));
        for (int bad : new int[] {100001, -100001, Integer.MIN_VALUE, Integer.MAX_VALUE}) {
            no("level", x.axis(bad, 0));
        }
        for (int bad : new int[] {151, -151, Integer.MIN_VALUE, Integer.MAX_VALUE}) {
            no("bank", x.axis(0, bad));
        }
        x.run(0);
        corner(x, 0, -1000, -99850);
        corner(x, 1, 0, -100000);
        corner(x, 2, 1000, -100150);
        yes("axis", x.axis(7, 25));
        corner(x, 1, 0, -100000);
        x.run(0);
        corner(x, 0, -1000, -18);
        corner(x, 2, 1000, 32);
    }

    static void promise7Land() {
        Road x = with("{L10 0}");
        for (int side : new int[] {0, 2, -2, Integer.MIN_VALUE, Integer.MAX_VALUE}) {
            no("side " + side, x.land(side, 5));
        }
        for (int far : new int[] {-1, 1000001, Integer.MIN_VALUE, Integer.MAX_VALUE}) {
            no("far " + far, x.land(1, far));
            no("far " + far, x.land(-1, far));
        }
        x.run(0);
        no("not passed", x.passed(1));
        yes("none at all", x.land(1, 0));
        yes("all", x.land(-1, 1000000));
        yes("passed", x.passed(1));
        no("not passed", x.passed(-1));
    }

    static void promise8Run() {
        Road x = new Road();
        is("read", read(x, "{}{L1000 25 B200 J50 -7}{L2 -500 L0 5 J0 9}"), 3);
        is("none such", x.run(-1), BAD);
        is("none such", x.run(3), BAD);
        is("none such", x.run(Integer.MAX_VALUE), BAD);
        is("no section", x.count(2), 0);
        is("axis alone", x.run(0), 1);
        yes("axis", x.axis(500, 100));
        is("run", x.run(1), 7);
        corner(x, 3, 0, 500);
        corner(x, 2, -1000, 475);
        corner(x, 1, -1200, 455);
        corner(x, 0, -1250, 462);
        corner(x, 4, 1000, 475);
        corner(x, 5, 1200, 495);
        corner(x, 6, 1250, 502);
        is("none such", x.run(3), BAD);
        is("section stays", x.count(2), 7);
        is("run", x.run(2), 7);
        corner(x, 0, -2, 492);
        corner(x, 1, -2, 501);
        corner(x, 2, -2, 501);
        corner(x, 6, 2, 492);
    }

    static void promise8Conditions() {
        // On a ground that climbs to the right: left above it, right below it, on it at the axis.
        Road x = with("{?o(L10 0):(J0 5) ?c(J1 0) ?f(J2 0):(J3 0)}");
        yes("point", x.ground(-100, -100));
        yes("point", x.ground(100, 100));
        is("run", x.run(0), 6);
        corner(x, 1, -10, 0);
        corner(x, 0, -12, 0);
        corner(x, 3, 10, 0);
        corner(x, 4, 11, 0);
        corner(x, 5, 14, 0);
        Road far = with("{?h10(J0 1) ?h9(J0 2) ?h0(J0 4)}");
        yes("axis", far.axis(10, 0));
        is("10 is not more than 10", far.run(0), 5);
        corner(far, 1, 0, 8);
        corner(far, 0, 0, 4);
        Road thirds = with("{L1 0 ?h0(J0 0) L1 0 ?h1(J5 0)}");
        yes("point", thirds.ground(0, 0));
        yes("point", thirds.ground(3, 2));
        is("2/3 is more than 0, 4/3 is more than 1", thirds.run(0), 7);
        Road ends = with("{?o(W) L5 5 ?o(?o(L1 1 W L1 1))}");
        is("nothing behind the end", ends.run(0), 3);
        is("nothing met behind the end", ends.count(5), 2);
        yes("axis", ends.axis(1, 0));
        is("run", ends.run(0), 3);
        is("run", ends.count(5), 4);
    }

    static void promise8SlopesAndWalls() {
        Road x = with("{S1/2}");
        is("on the ground", x.run(0), 3);
        corner(x, 0, 0, 0);
        corner(x, 2, 0, 0);
        yes("below", x.axis(-30, 0));
        is("up", x.run(0), 3);
        corner(x, 0, -60, 0);
        corner(x, 2, 60, 0);
        yes("above", x.axis(30, 0));
        is("down", x.run(0), 3);
        corner(x, 0, -60, 0);
        // A point of the ground that the slope just touches is the first place; behind it the ground falls.
        yes("point", x.ground(20, 0));
        yes("point", x.ground(40, 10));
        yes("point", x.ground(60, -500));
        is("touches", x.run(0), 3);
        corner(x, 2, 40, 10);
        // The ground before the first point and behind the last one is level.
        corner(x, 0, -60, 0);
        yes("axis", x.axis(31, 0));
        is("misses it", x.run(0), 3);
        corner(x, 2, 1062, -500);
        yes("axis", x.axis(300, 0));
        is("behind the last", x.run(0), 3);
        corner(x, 2, 1600, -500);
        Road wall = with("{J7 3 W L5 5}");
        yes("point", wall.ground(-14, 5));
        yes("point", wall.ground(16, 25));
        is("the wall is the end", wall.run(0), 5);
        corner(wall, 0, 1, 29, 3);
        corner(wall, 0, 0, -7, 1);
        corner(wall, 4, 1, 19, 1);
        corner(wall, 4, 0, 7, 1);
    }

    static void promise9Corner() {
        Road x = with("{L3 5 S7/3}");
        is("no section", x.corner(0, 0, 0), BAD);
        is("no section", x.corner(0, 0, -1), NONE);
        is("run", x.run(0), 5);
        corner(x, 1, 0, -3, 1);
        corner(x, 1, 1, -3, 200);
        corner(x, 0, 0, -4209, 1400);
        corner(x, 0, 1, 0, 1);
        corner(x, 4, 0, 4209, 1400);
        for (int k : new int[] {-1, 5, Integer.MIN_VALUE, Integer.MAX_VALUE}) {
            is("none such", x.corner(k, 0, 0), BAD);
            is("none such", x.corner(k, 1, -1), NONE);
        }
        for (int axis : new int[] {-1, 2, Integer.MIN_VALUE, Integer.MAX_VALUE}) {
            is("none such", x.corner(0, axis, 0), BAD);
            is("none such", x.corner(0, axis, -1), NONE);
            is("none such", x.corner(0, axis, -2), BAD);
        }
        is("part", x.corner(0, 0, -2), BAD);
        is("part", x.corner(0, 0, Integer.MIN_VALUE), BAD);
        is("part", x.corner(0, 0, Integer.MAX_VALUE), 0);
        is("part", x.corner(0, 0, Integer.MAX_VALUE - 1), 0);
        // A flat slope from far below, to the level ground behind the last point.
        Road deep = with("{L99999 99999 L99999 99999 L99999 99999 L99999 99991 S97/99989}");
        yes("point", deep.ground(99000, 0));
        yes("point", deep.ground(100000, 999));
        is("run", deep.run(0), 11);
        is("sign", deep.corner(10, 0, -1), 1);
        BigInteger gap = BigInteger.valueOf(99999L * (3 * 99999L + 99991L) + 999000);
        BigInteger low = BigInteger.valueOf(97000);
        BigInteger up = gap.multiply(BigInteger.valueOf(99989)).add(BigInteger.valueOf(399996).multiply(low));
        BigInteger common = up.gcd(low);
        is("up", deep.corner(10, 0, 0), up.divide(common).longValueExact());
        is("low", deep.corner(10, 0, 1), low.divide(common).longValueExact());
        corner(deep, 10, 1, 999, 1);
    }

    static void promise10Code() {
        Road x = with("{L1 1 B1 J1 1 ?c(S1/1):(W)}");
        is("no section", x.code(0), BAD);
        yes("axis", x.axis(0, 150));
        yes("point", x.ground(0, -3));
        yes("point", x.ground(9, 6));
        is("run", x.run(0), 9);
        int[] codes = {5, 3, 2, 1, 0, 1, 2, 3, 4};
        for (int k = 0; k < codes.length; k++) {
            is("code " + k, x.code(k), codes[k]);
        }
        is("none such", x.code(9), BAD);
        is("none such", x.code(-1), BAD);
        is("none such", x.code(Integer.MAX_VALUE), BAD);
        is("none such", x.code(Integer.MIN_VALUE), BAD);
    }

    static void promise11Ended() {
        Road x = with("{L100 0 ?c(S1/1) ?f(L5 0)}");
        no("no section", x.ended(1));
        no("no section", x.ended(-1));
        yes("point", x.ground(-100, -50));
        yes("point", x.ground(100, 50));
        x.run(0);
        no("left", x.ended(-1));
        yes("right", x.ended(1));
        no("no side", x.ended(0));
        no("no side", x.ended(2));
        no("no side", x.ended(-2));
        is("read", read(x, "{L100 0 ?f(W) ?c(L5 0)}"), 1);
        no("gone", x.ended(1));
        x.run(0);
        yes("left", x.ended(-1));
        no("right", x.ended(1));
        // On the ground, but not by S or W.
        is("read", read(x, "{L100 -500}"), 1);
        x.run(0);
        no("left", x.ended(-1));
        no("right", x.ended(1));
    }

    static void promise12Passed() {
        Road x = with("{L100 0 J0 7 S1/3}");
        yes("land", x.land(1, 0));
        no("no section", x.passed(1));
        is("run", x.run(0), 7);
        corner(x, 6, 121, 0);
        yes("right", x.passed(1));
        no("left", x.passed(-1));
        no("no side", x.passed(0));
        no("no side", x.passed(2));
        yes("land", x.land(1, 121));
        no("not beyond", x.passed(1));
        yes("land", x.land(1, 120));
        yes("beyond", x.passed(1));
        yes("land", x.land(-1, 120));
        yes("beyond", x.passed(-1));
        no("none such", x.land(-1, -1));
        yes("as before", x.passed(-1));
        Road part = with("{J0 1 S3/1}");
        part.run(0);
        yes("land", part.land(1, 0));
        yes("a third beyond", part.passed(1));
        yes("land", part.land(1, 1));
        no("a third is not beyond 1", part.passed(1));
        Road axis = with("{}");
        axis.run(0);
        yes("land", axis.land(1, 0));
        no("the axis is not beyond", axis.passed(1));
    }

    static void promise13Condition() {
        Road x = with("{?c() ?c():() ?f(?h5(W)) ?o(L1 0)}");
        is("no section", x.condition(0), BAD);
        is("run", x.run(0), 3);
        is("met", x.count(5), 8);
        int[] on = {0, 2, 0, 1, 0, 2, 0, 1};
        for (int k = 0; k < on.length; k++) {
            is("on the ground " + k, x.condition(k), on[k]);
        }
        is("none such", x.condition(8), BAD);
        is("none such", x.condition(-1), BAD);
        is("none such", x.condition(Integer.MIN_VALUE), BAD);
        yes("below", x.axis(-1, 0));
        is("run", x.run(0), 1);
        int[] below = {1, 1, 0, 0, 1, 1, 0, 0};
        for (int k = 0; k < below.length; k++) {
            is("below the ground " + k, x.condition(k), below[k]);
        }
        yes("point", x.ground(0, 0));
        yes("above", x.axis(6, 0));
        is("run", x.run(0), 3);
        int[] above = {0, 2, 1, 1, 0, 2, 1, 1};
        for (int k = 0; k < above.length; k++) {
            is("above the ground " + k, x.condition(k), above[k]);
        }
        is("as many", x.count(5), 8);
    }

    static void promise14Area() {
        Road x = with("{L100 0 S1/1}");
        is("no section", x.area(true, 0), BAD);
        is("no section", x.area(false, 1), BAD);
        is("no section", x.area(true, -1), NONE);
        is("no section", x.area(true, -2), BAD);
        yes("above", x.axis(10, 0));
        x.run(0);
        area(x, true, 0, 1);
        area(x, false, 2100, 1);
        yes("below", x.axis(-10, 0));
        x.run(0);
        area(x, true, 2100, 1);
        area(x, false, 0, 1);
        is("part", x.area(true, -2), BAD);
        is("part", x.area(true, Integer.MAX_VALUE), 0);
        // From 1 above the ground at the axis down through it, on both sides, at 10 of 30 mm.
        is("read", read(x, "{J30 3}"), 1);
        yes("axis", x.axis(1, 0));
        x.run(0);
        area(x, false, 10, 1);
        area(x, true, 40, 1);
        // The ground has a point of 7 between -1 and 2: cut right and left of the axis.
        is("read", read(x, "{J2 0}"), 1);
        yes("point", x.ground(-1, 0));
        yes("point", x.ground(0, 7));
        yes("point", x.ground(2, 0));
        x.run(0);
        // Left: 6 * 6 / 7 / 2 of cut and 1 / 7 / 2 of fill from 0 to -1, then 1 of fill. Right: 36 / 7 and 1 / 7.
        area(x, true, 54, 7);
        area(x, false, 17, 14);
        // Corners above one another have no width.
        is("read", read(x, "{J0 1000 J0 -1001 W}"), 1);
        x.run(0);
        area(x, true, 0, 1);
        area(x, false, 0, 1);
    }

    static void promise14AreaStays() {
        Road x = with("{L100 0}");
        yes("point", x.ground(0, 50));
        is("run", x.run(0), 3);
        x.clear();
        yes("point", x.ground(0, -50));
        yes("axis", x.axis(500, 100));
        yes("land", x.land(1, 5));
        area(x, true, 10000, 1);
        area(x, false, 0, 1);
        corner(x, 1, 0, 0);
        level(x, 100, 0, 1);
        yes("land alone", x.passed(1));
        is("none such", x.run(1), BAD);
        area(x, true, 10000, 1);
        is("run", x.run(0), 3);
        area(x, true, 0, 1);
        area(x, false, 110000, 1);
    }

    static void promise15Level() {
        Road x = with("{J0 10 L3 -500 J0 4 J4 1 W}");
        noLevel(x, 0);
        yes("axis", x.axis(100, 0));
        is("run", x.run(0), 11);
        level(x, 0, 100, 1);
        level(x, 1, 181, 2);
        level(x, -1, 181, 2);
        level(x, 2, 91, 1);
        level(x, 3, 183, 2);
        level(x, -3, 183, 2);
        level(x, 4, 349, 4);
        level(x, 7, 173, 2);
        level(x, -7, 173, 2);
        noLevel(x, 8);
        noLevel(x, -8);
        noLevel(x, Integer.MAX_VALUE);
        noLevel(x, Integer.MIN_VALUE);
        is("part", x.level(0, -2), BAD);
        is("part", x.level(0, Integer.MAX_VALUE), 0);
        Road slope = with("{S2/3}");
        yes("axis", slope.axis(-5, 0));
        is("run", slope.run(0), 3);
        level(slope, 7, -1, 3);
        level(slope, -7, -1, 3);
        level(slope, 0, -5, 1);
        noLevel(slope, 8);
        noLevel(slope, -8);
        yes("axis", slope.axis(-6, 0));
        is("run", slope.run(0), 3);
        level(slope, 9, 0, 1);
        noLevel(slope, 10);
    }

    static void promise16Keep() {
        Road x = with("{J3 0}");
        is("no section", x.keep(0), BAD);
        yes("axis", x.axis(-10, 0));
        x.run(0);
        for (int bad : new int[] {-1, 100001, Integer.MIN_VALUE, Integer.MAX_VALUE}) {
            is("no such metre", x.keep(bad), BAD);
        }
        is("none kept", x.count(3), 0);
        is("first", x.keep(0), 1);
        is("not above", x.keep(0), BAD);
        for (int n = 1; n < 19; n++) {
            is("next", x.keep(n), n + 1);
        }
        is("not above", x.keep(17), BAD);
        is("last", x.keep(100000), 20);
        is("kept", x.count(3), 20);
        is("there are 20", x.keep(100000), BAD);
        Road full = with("{}");
        full.run(0);
        for (int n = 0; n < 20; n++) {
            is("next", full.keep(n), n + 1);
        }
        is("there are 20", full.keep(20), BAD);
    }

    static void promise17Volume() {
        Road x = with("{J3 0 ?f(J1 1)}");
        for (int part = -1; part < 4; part++) {
            is("no volume", x.volume(true, part), part == 1 ? 1 : 0);
        }
        is("part", x.volume(true, -2), BAD);
        yes("axis", x.axis(-10, 0));
        x.run(0);
        is("keep 60 of cut", x.keep(5), 1);
        is("no volume", x.volume(true, -1), 0);
        is("no volume", x.volume(true, 0), 0);
        is("no volume", x.volume(true, 1), 1);
        yes("axis", x.axis(1, 0));
        x.run(0);
        area(x, false, 7, 1);
        is("keep 7 of fill", x.keep(7), 2);
        is("sign", x.volume(true, -1), 1);
        is("cut", x.volume(true, 0), 60000);
        is("cut", x.volume(true, 1), 1);
        is("fill", x.volume(false, 0), 7000);
        is("fill", x.volume(false, 1), 1);
        is("fill", x.volume(false, 2), 0);
        // Areas of 40/3 and less are cut off to whole square mm before they are added.
        is("read", read(x, "{J10 3 W}"), 1);
        yes("axis", x.axis(1, 0));
        x.run(0);
        area(x, true, 40, 3);
        area(x, false, 10, 3);
        is("keep 13 and 3", x.keep(8), 3);
        is("cut", x.volume(true, 0), 60000 + 6500);
        is("fill", x.volume(false, 0), 7000 + 5000);
        is("part", x.volume(false, Integer.MIN_VALUE), BAD);
        is("part", x.volume(false, Integer.MAX_VALUE), 0);
        // More than eighteen digits.
        is("read", read(x, "{L99999 99999 L99999 99999}"), 1);
        x.clear();
        yes("axis", x.axis(0, 0));
        x.run(0);
        is("keep", x.keep(9), 4);
        is("keep", x.keep(100000), 5);
        // Both triangles: twice 199998 * 19999600.002 / 2, cut off.
        BigInteger area = new BigInteger("199998")
                .multiply(new BigInteger("19999600002")).divide(BigInteger.valueOf(1000));
        BigInteger volume = area.multiply(BigInteger.valueOf(99991000L))
                .add(area.add(BigInteger.valueOf(13)).multiply(BigInteger.valueOf(500)))
                .add(BigInteger.valueOf(66500));
        BigInteger[] halves = volume.divideAndRemainder(BigInteger.TEN.pow(18));
        is("low digits", x.volume(true, 0), halves[1].longValueExact());
        is("next digits", x.volume(true, 2), halves[0].longValueExact());
        yes("there are such", halves[0].signum() > 0);
        is("one", x.volume(true, 1), 1);
        is("none", x.volume(true, 3), 0);
        is("none", x.volume(true, 4), 0);
    }

    static void promise18Count() {
        Road x = new Road();
        is("read", read(x, "{?o(L1 1)}{}"), 2);
        yes("point", x.ground(3, 0));
        yes("sign", x.unit('?'));
        yes("sign", x.unit('?'));
        yes("sign", x.unit('?'));
        is("run", x.run(0), 3);
        is("keep", x.keep(1), 1);
        is("templates", x.count(0), 2);
        is("points", x.count(1), 1);
        is("corners", x.count(2), 3);
        is("kept", x.count(3), 1);
        is("signs", x.count(4), 3);
        is("? met", x.count(5), 2);
        for (int what : new int[] {-1, 6, 7, Integer.MIN_VALUE, Integer.MAX_VALUE}) {
            is("another number", x.count(what), BAD);
        }
    }
}
