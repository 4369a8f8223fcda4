/** The edges that the document names for a text: its signs (promise 2), its reading (promise 3), its grammar (terms). */
public final class TextBoundariesTest extends Checks {
    /** Each kind of step, each condition, with others and without, 12 steps, 5 ( open at once. */
    private static final String RICH = "{L1500 40B350 J5 -700 ?c(S2/3):(?f(?o(?h90(?h0(W):()))):(L10 -0)) B99999}";

    /** Where a number may stand that may be 0, and one that may not. */
    private static final String[] NUMBERS = {
        "{L# 1}", "{L1 #}", "{L1 -#}", "{B#}", "{J# 1}", "{J1 #}", "{J1 -#}", "{?h#()}", "{L # 1}", "{J 1 - #}",
    };
    private static final String[] NUMBERS_BUT_0 = {"{S#/1}", "{S1/#}", "{S # / 1}", "{S 1 / #}"};

    public static void main(String[] args) {
        runAll(TextBoundariesTest.class);
    }

    private static void readsAs(String text, int want) {
        is("read '" + text + "'", read(new Road(), text), want);
    }

    private static void wrongAt(String text, int sign) {
        readsAs(text, -1 - sign);
    }

    private static String blanks(int many) {
        return " ".repeat(many);
    }

    // Promise 2: "A sign of 32 .. 126 is collected"

    static void promise2EachSignOf32To126IsCollected() {
        Road x = new Road();
        for (int sign = 32; sign <= 126; sign++) {
            yes("unit " + sign, x.unit(sign));
            is("collected", x.count(4), sign - 31);
        }
    }

    static void promise2FirstAndLastSign() {
        Road x = new Road();
        no("below the first", x.unit(31));
        is("not collected", x.count(4), 0);
        yes("the first", x.unit(32));
        is("collected", x.count(4), 1);
        no("above the last", x.unit(127));
        is("not collected", x.count(4), 1);
        yes("the last", x.unit(126));
        is("collected", x.count(4), 2);
    }

    static void promise2NoOtherSign() {
        Road x = new Road();
        int[] others = {0, -1, 1, 9, 10, 13, 128, 255, 256, 256 + 65, 65536 + 65, -65, Integer.MIN_VALUE,
            Integer.MIN_VALUE + 65, Integer.MAX_VALUE};
        for (int sign : others) {
            no("unit " + sign, x.unit(sign));
        }
        is("nothing collected", x.count(4), 0);
        is("an empty text", x.read(), -1);
    }

    /** A refused sign is not part of the text. */
    static void promise2RefusedSignLeavesTheText() {
        Road x = new Road();
        yes("{", x.unit('{'));
        no("refused", x.unit(31));
        no("refused", x.unit(127));
        yes("}", x.unit('}'));
        no("refused", x.unit(10));
        is("collected", x.count(4), 2);
        is("read", x.read(), 1);
    }

    // Promise 2: "at most 400. False: .. no room."

    static void promise2The400thIsCollectedAndNoMore() {
        Road x = new Road();
        collect(x, "{" + blanks(398));
        is("399", x.count(4), 399);
        yes("the 400th", x.unit('}'));
        is("400", x.count(4), 400);
        no("the 401st", x.unit('}'));
        no("the 401st", x.unit(' '));
        no("the 401st, and no sign", x.unit(31));
        is("still 400", x.count(4), 400);
        is("what was refused is not read", x.read(), 1);
    }

    static void promise2RoomAgainBehindReadThatIsGood() {
        Road x = new Road();
        collect(x, "{" + blanks(398) + "}");
        is("read", x.read(), 1);
        is("none collected", x.count(4), 0);
        yes("room", x.unit('x'));
        is("one collected", x.count(4), 1);
    }

    static void promise2RoomAgainBehindReadThatIsWrong() {
        Road x = new Road();
        collect(x, blanks(400));
        no("no room", x.unit(' '));
        is("read", x.read(), -401);
        is("none collected", x.count(4), 0);
        collect(x, "{}");
        is("read", x.read(), 1);
    }

    // Promise 3: "What was collected becomes the templates, and is gone"

    static void promise3EmptyText() {
        Road x = new Road();
        is("nothing collected", x.read(), -1);
        is("no templates", x.count(0), 0);
        is("nothing to walk by", x.run(0), BAD);
    }

    static void promise3WhatWasReadIsGone() {
        Road x = with("{W}");
        is("none collected", x.count(4), 0);
        is("nothing to read", x.read(), -1);
        is("the templates stay", x.count(0), 1);
        is("{}", read(x, "{}"), 1);
        is("not W any more", x.run(0), 1);
    }

    static void promise3WhatWasWrongIsGoneAllTheSame() {
        Road x = new Road();
        is("wrong", read(x, "{W"), -3);
        is("none collected", x.count(4), 0);
        is("not the end of it", read(x, "}"), -1);
        is("nothing to read", x.read(), -1);
    }

    /** What a longer text left is no part of a shorter one. */
    static void promise3ShorterTextBehindALongerOne() {
        Road x = with("{W}");
        is("no } is left over", read(x, "{W"), -3);
        is("read", read(x, "{L1 23}"), 1);
        is("no digit is left over", read(x, "{L1 2"), -6);
        is("read", read(x, "{       }"), 1);
        is("no blank is left over", read(x, "{"), -2);
        is("read", read(x, "{}      {}"), 2);
        is("no template is left over", read(x, "{}    "), 1);
        is("count", x.count(0), 1);
        is("run", x.run(1), BAD);
    }

    static void promise3FullText() {
        Road x = with("{" + blanks(398) + "}");
        is("run", x.run(0), 1);
        Road full = with("{L1" + blanks(394) + "25}");
        is("run", full.run(0), 3);
        corner(full, 0, 1, -1, 40);
    }

    // Promise 3: "and the section with the old ones"

    static void promise3SectionIsGoneWithTheOldTemplates() {
        Road x = with("{L2 0 ?o(W)}");
        is("run", x.run(0), 5);
        is("read the same", read(x, "{L2 0 ?o(W)}"), 1);
        noSection(x);
    }

    /** The document lets nothing else go: the ground, the axis, the land, what was kept. */
    static void promise3AllElseStays() {
        Road x = with("{L2 0}");
        yes("point", x.ground(0, 40));
        yes("axis", x.axis(30, 100));
        yes("land", x.land(1, 2));
        is("run", x.run(0), 3);
        is("keep 40 of cut", x.keep(1), 1);
        is("keep", x.keep(2), 2);
        is("read", read(x, "{B10}"), 1);
        is("a point", x.count(1), 1);
        is("kept", x.count(3), 2);
        volume(x, true, 40000);
        is("run", x.run(0), 3);
        corner(x, 2, 10, 31);
        area(x, true, 200, 1);
        yes("the land stays", x.passed(1));
        no("the land stays", x.passed(-1));
        is("not above the last one's", x.keep(2), BAD);
        is("keep", x.keep(3), 3);
    }

    // Promise 3: "how many."

    static void promise3OneToSixTemplates() {
        for (int many = 1; many <= 6; many++) {
            Road x = with(many, "{}".repeat(many));
            is("count", x.count(0), many);
            is("the last", x.run(many - 1), 1);
            is("behind the last", x.run(many), BAD);
        }
    }

    static void promise3FewerTemplatesThanBefore() {
        Road x = with(6, "{W}{W}{W}{W}{W}{W}");
        is("read", read(x, "{}"), 1);
        is("count", x.count(0), 1);
        is("the only one", x.run(0), 1);
        is("none of the old ones", x.run(1), BAD);
        is("none of the old ones", x.run(5), BAD);
    }

    // Promise 3: "- 1 less the number (from 0 on) of its first sign that is wrong"

    static void promise3FirstSignIsWrong() {
        for (int sign = 33; sign <= 126; sign++) {
            if (sign != '{') {
                wrongAt(String.valueOf((char) sign), 0);
                wrongAt((char) sign + "{}", 0);
            }
        }
    }

    static void promise3LastOf400SignsIsWrong() {
        wrongAt("{" + blanks(398) + "~", 399);
        wrongAt("{}" + blanks(397) + "}", 399);
    }

    static void promise3OnlyTheFirstWrongSignCounts() {
        wrongAt("{W~~}", 2);
        wrongAt("{L01 ~}", 2);
        wrongAt("{~L01 1}", 1);
        wrongAt("{W}~{~", 3);
    }

    /** At each place of a good text, a sign that can stand nowhere is the first wrong one. */
    static void promise3WrongSignAtEachPlace() {
        readsAs(RICH, 1);
        for (int at = 0; at < RICH.length(); at++) {
            wrongAt(RICH.substring(0, at) + "~" + RICH.substring(at + 1), at);
            wrongAt(RICH.substring(0, at) + "~", at);
        }
    }

    /** Each sign that may not begin a step, where one may. */
    static void promise3NoOtherStep() {
        for (int sign = 33; sign <= 126; sign++) {
            if ("LBJSW?}".indexOf(sign) < 0) {
                wrongAt("{" + (char) sign, 1);
                wrongAt("{W " + (char) sign + "}", 3);
            }
            if ("LBJSW?)".indexOf(sign) < 0) {
                wrongAt("{?c(" + (char) sign, 4);
            }
        }
    }

    static void promise3NoOtherCondition() {
        for (int sign = 33; sign <= 126; sign++) {
            if ("cfoh".indexOf(sign) < 0) {
                wrongAt("{?" + (char) sign + "()}", 2);
            }
        }
    }

    static void promise3SmallAndLargeLettersDiffer() {
        wrongAt("{l1 1}", 1);
        wrongAt("{b1}", 1);
        wrongAt("{j1 1}", 1);
        wrongAt("{s1/1}", 1);
        wrongAt("{w}", 1);
        wrongAt("{?C()}", 2);
        wrongAt("{?H1()}", 2);
    }

    static void promise3BracketsThatDoNotFit() {
        wrongAt("}", 0);
        wrongAt("{}}", 2);
        wrongAt("{{}}", 1);
        wrongAt("{)}", 1);
        wrongAt("{()}", 1);
        wrongAt("{?c(})}", 4);
        wrongAt("{?c({})}", 4);
        wrongAt("{?c())}", 5);
        wrongAt("{?c:()}", 3);
        wrongAt("{?c()(W)}", 5);
        wrongAt("{?c()W:()}", 6);
        wrongAt("{?c():W}", 6);
        wrongAt("{?c():()(W)}", 8);
        wrongAt("{?c():():(W)}", 8);
        wrongAt("{:()}", 1);
        wrongAt("{?c(:())}", 4);
    }

    static void promise3EachStepHasItsNumbersAndNoMore() {
        readsAs("{L1 1}", 1);
        wrongAt("{L 1}", 4);
        wrongAt("{L1 1 1}", 6);
        wrongAt("{L1 1-1}", 5);
        wrongAt("{L-1 1}", 2);
        wrongAt("{L1 --1}", 5);
        wrongAt("{L1/1}", 3);
        readsAs("{B1}", 1);
        wrongAt("{B}", 2);
        wrongAt("{B1 1}", 4);
        wrongAt("{B-1}", 2);
        readsAs("{J1 1}", 1);
        wrongAt("{J1}", 3);
        wrongAt("{J1 1 1}", 6);
        wrongAt("{J-1 1}", 2);
        readsAs("{S1/1}", 1);
        wrongAt("{S1 1}", 4);
        wrongAt("{S1}", 3);
        wrongAt("{S/1}", 2);
        wrongAt("{S1/}", 4);
        wrongAt("{S1/1/1}", 5);
        wrongAt("{S-1/1}", 2);
        wrongAt("{S1/-1}", 4);
        readsAs("{W}", 1);
        wrongAt("{W1}", 2);
        readsAs("{?h1()}", 1);
        wrongAt("{?h()}", 3);
        wrongAt("{?h-1()}", 3);
        wrongAt("{?h1 1()}", 5);
        wrongAt("{?c1()}", 3);
        wrongAt("{?f1()}", 3);
        wrongAt("{?o1()}", 3);
    }

    // Promise 3: "if it ends too early, the one behind the last"

    static void promise3EndsTooEarlyAtEachPlace() {
        for (int end = 0; end < RICH.length(); end++) {
            wrongAt(RICH.substring(0, end), end);
            String again = RICH + RICH.substring(0, end) + "  ";
            readsAs(again, end == 0 ? 1 : -1 - again.length());
        }
    }

    static void promise3OnlyBlanks() {
        wrongAt(" ", 1);
        wrongAt("   ", 3);
        wrongAt(blanks(399), 399);
    }

    static void promise3EndsTooEarlyWith400Signs() {
        wrongAt(blanks(400), 400);
        wrongAt("{" + blanks(399), 400);
        wrongAt("{L1 " + blanks(395) + "0", 400);
    }

    /** A number at the end of the text may not be: its first digit, not the end. */
    static void promise3WrongNumberAtTheEnd() {
        wrongAt("{L100000", 2);
        wrongAt("{L99999", 7);
        wrongAt("{L01", 2);
        wrongAt("{L0", 3);
        wrongAt("{S0", 2);
        wrongAt("{S1/0", 4);
        wrongAt("{S1/1", 5);
    }

    // Promise 3: "of a number that may not be, its first digit"; terms: "Numbers have 1 to 5 digits, no 0 in front
    // but 0 itself; UP and OUT of S are not 0."

    static void promise3NumbersThatMayBe() {
        for (String number : new String[] {"1", "9", "10", "99", "100", "9999", "10000", "12345", "99999"}) {
            for (String text : NUMBERS) {
                readsAs(text.replace("#", number), 1);
            }
            for (String text : NUMBERS_BUT_0) {
                readsAs(text.replace("#", number), 1);
            }
        }
    }

    static void promise3NumbersThatMayNotBe() {
        String[] numbers = {"100000", "999999", "123456789", "4294967297", "18446744073709551617", "00", "01", "09",
            "00000", "000000", "01234", "012345"};
        for (String number : numbers) {
            for (String text : NUMBERS) {
                wrongAt(text.replace("#", number), text.indexOf('#'));
            }
            for (String text : NUMBERS_BUT_0) {
                wrongAt(text.replace("#", number), text.indexOf('#'));
            }
        }
    }

    static void promise3NumbersOfMoreDigitsThanAnyInt() {
        wrongAt("{B" + "9".repeat(398), 2);
        wrongAt("{B" + "0".repeat(397) + "}", 2);
        wrongAt("{S1/" + "42".repeat(190) + "}", 4);
    }

    static void promise3NumberThatIs0() {
        for (String text : NUMBERS) {
            readsAs(text.replace("#", "0"), 1);
        }
        for (String text : NUMBERS_BUT_0) {
            wrongAt(text.replace("#", "0"), text.indexOf('#'));
        }
    }

    static void promise3NumberWithoutDigits() {
        for (String text : new String[] {"{L#}", "{L1 #}", "{L1 -#}", "{B#}", "{J1 -#}", "{?h#()}", "{S#/1}", "{S1/#}"}) {
            wrongAt(text.replace("#", ""), text.indexOf('#'));
            wrongAt(text.replace("#", "x"), text.indexOf('#'));
            wrongAt(text.replace("#", "+"), text.indexOf('#'));
        }
    }

    /** The numbers are the ones that were told, up to the largest. */
    static void promise3LargestNumbers() {
        Road x = with(2, "{L99999 99999 J99999 99999}{L99999 -99999 J99999 -99999}");
        is("run", x.run(0), 5);
        corner(x, 3, 1, -9999800001L, 1000);
        corner(x, 3, 0, 99999, 1);
        corner(x, 4, 1, -10099799001L, 1000);
        corner(x, 4, 0, 199998, 1);
        is("run", x.run(1), 5);
        corner(x, 0, 1, 10099799001L, 1000);
        corner(x, 0, 0, -199998, 1);
    }

    // Promise 3: "of a template, step or ( too many, its first sign"; terms: "At most 6 templates, 12 steps in each
    // (? counts, too), 5 ( open at once."

    static void promise3SixTemplatesAndNoSeventh() {
        String six = "{}{}{}{}{}{}";
        readsAs(six, 6);
        readsAs(six + " ", 6);
        wrongAt(six + "{}", 12);
        wrongAt(six + "  {}", 14);
        wrongAt(six + "{", 12);
        wrongAt(six + "{~", 12);
        wrongAt(six + "~", 12);
    }

    static void promise3TwelveStepsAndNoThirteenth() {
        String[] steps = {"L1 1", "B1", "J1 1", "S1/1", "W", "?c()", "?c():()", "?h1()"};
        for (String step : steps) {
            readsAs("{" + step.repeat(12) + "}", 1);
            wrongAt("{" + step.repeat(13) + "}", 1 + 12 * step.length());
            wrongAt("{" + step.repeat(12) + "  " + step.charAt(0), 3 + 12 * step.length());
        }
    }

    static void promise3StepsInBracketsCountWithTheirQuestion() {
        readsAs("{?c(WWWWWWWWWWW)}", 1);
        wrongAt("{?c(WWWWWWWWWWWW)}", 15);
        readsAs("{?c():(WWWWWWWWWWW)}", 1);
        wrongAt("{?c():(WWWWWWWWWWWW)}", 18);
        readsAs("{?c(WWWWW):(WWWWW)W}", 1);
        wrongAt("{?c(WWWWW):(WWWWW)WW}", 19);
        wrongAt("{WWWWWWWWWWW?c(W)}", 15);
        readsAs("{WWWWWWWWWWW?c()}", 1);
        wrongAt("{WWWWWWWWWWWW?c()}", 13);
    }

    static void promise3TwelveStepsInEachTemplate() {
        String full = "{WWWWWWWWWWWW}";
        readsAs(full.repeat(6), 6);
        wrongAt(full.repeat(5) + "{WWWWWWWWWWWWW}", 5 * 14 + 13);
        wrongAt("{WWWWWWWWWWWWW}" + full, 13);
    }

    static void promise3FiveOpenAndNoSixth() {
        readsAs("{?c(?c(?c(?c(?c(W)))))}", 1);
        wrongAt("{?c(?c(?c(?c(?c(?c(W))))))}", 18);
        wrongAt("{?c(?c(?c(?c(?c(?c", 18);
        wrongAt("{?c(?c(?c(?c(?c(?c (", 19);
        wrongAt("{?c(?c(?c(?c(?c(?h1(", 19);
        wrongAt("{?c(?c(?c(?c(?c(W?c(", 19);
        wrongAt("{?c():(?c():(?c():(?c():(?c():(?c(", 33);
    }

    static void promise3ClosedBracketsAreNotOpen() {
        readsAs("{?c(?c(?c(?c(?c():()):()):()):()):()}", 1);
        readsAs("{?c(?c(?c(?c(?c()?c()?c()))))}", 1);
        readsAs("{?c()?c()?c()?c()?c()?c()?c()?c()}", 1);
        readsAs("{?c():(?c():(?c():(?c():(?c():()))))}", 1);
        readsAs("{?c(?c(?c(?c(?c()))))?c(?c(?c(?c(?c()))))}", 1);
        readsAs("{?c(?c(?c(?c(?c()))))}{?c(?c(?c(?c(?c()))))}", 2);
    }

    // Promise 3: "templates and the section stay as they were"

    static void promise3WrongTextLeavesTemplates() {
        for (String text : new String[] {"", " ", "{", "x", "{L3 0", "{}{}{}{}{}{}{}", "{W}{L0}", "{WWWWWWWWWWWWW}"}) {
            Road x = with(2, "{}{L5 0 W}");
            yes("wrong: " + text, read(x, text) < 0);
            is("as many", x.count(0), 2);
            is("the first", x.run(0), 1);
            is("the second", x.run(1), 5);
            corner(x, 0, -5, 0);
            is("no third", x.run(2), BAD);
        }
    }

    static void promise3WrongTextLeavesTheSection() {
        Road x = with("{L2 500 ?f(J1 1):(S1/3) ?c(W)}");
        yes("point", x.ground(0, -2));
        yes("point", x.ground(9, 4));
        is("run", x.run(0), 5);
        String before = picture(x);
        is("wrong behind a good template", read(x, "{L2 0}{W}x"), -10);
        same("the section", picture(x), before);
        is("nothing to read", x.read(), -1);
        same("the section", picture(x), before);
        yes("land", x.land(1, 2));
        yes("beyond", x.passed(1));
        is("keep", x.keep(0), 1);
    }

    static void promise3WrongTextWithoutTemplates() {
        Road x = new Road();
        is("wrong", read(x, "{}{}{W"), -7);
        is("no templates", x.count(0), 0);
        is("none to walk by", x.run(0), BAD);
        noSection(x);
    }

    // Terms: "one or more TEMPLATES: { STEPS }", "any number of, blanks between them or not"

    static void termsNoStepsAtAll() {
        readsAs("{}", 1);
        readsAs("{ }", 1);
        readsAs("{?c()}", 1);
        readsAs("{?c( )}", 1);
        readsAs("{?c():()}", 1);
        readsAs("{?c():( )}", 1);
    }

    static void termsBlanksOrNone() {
        String tight = "{L1 2B3J4 5?c(W?f(W)):(S6/7)W}{W}";
        String wide = "  {  L  1  2  B  3  J  4  5  ?  c  (  W  ?  f  (  W  )  )  :  (  S  6  /  7  )  W  }  {  W  }  ";
        String before = "";
        for (String text : new String[] {tight, wide}) {
            Road x = with(2, text);
            yes("axis", x.axis(5, 100));
            is("run", x.run(0), 9);
            String picture = picture(x);
            same("as without blanks", before.isEmpty() ? picture : before, picture);
            before = picture;
        }
    }

    /** Between two numbers there must be something, or they are one. */
    static void termsMinusNeedsNoBlank() {
        Road x = with("{L10-500}");
        is("run", x.run(0), 3);
        corner(x, 2, 10, 5);
        wrongAt("{L10500}", 7);
    }

    static void termsMinusBefore0() {
        Road x = with("{L10 -0 J1 -0}");
        is("run", x.run(0), 5);
        corner(x, 3, 10, 0);
        corner(x, 4, 11, 0);
    }
}
