/** Promises 32 to 36: who swore, by tugs, as known at a time. */
public final class TugTest {
    private static final String MEN = "man a colour 3 holes 2 left;man b colour 3 holes 4;man c colour 5 holes 2;"
        + "man d colour 3 holes 2;man e colour 9 holes 1 left;";

    public static void main(String[] args) {
        tug();
        times();
        ask();
        Due.endTest();
    }

    private static void tug() {
        OathButtons x = Due.of(MEN);
        Due.is("nothing known", x.swore(0), 31);
        Due.is("tug(3, 0, true)", x.tug(3, 0, true), -1);
        Due.is("tug(-1, 0, true)", x.tug(-1, 0, true), -1);
        Due.is("tug(0, 10, true)", x.tug(0, 10, true), -1);
        Due.is("tug(0, -1, true)", x.tug(0, -1, true), -1);
        Due.is("none of these", x.about(10), 0);
        Due.is("tug(0, 3, true)", x.tug(0, 3, true), 0);
        Due.is("colour 3", x.swore(0), 11);
        Due.is("tug(1, 2, true)", x.tug(1, 2, true), 1);
        Due.is("holes 2", x.swore(0), 9);
        Due.is("tug(2, 0, false)", x.tug(2, 0, false), 2);
        Due.is("not without left", x.swore(0), 1);
        Due.is("tug(2, 9, true)", x.tug(2, 9, true), 3);
        Due.is("none", x.swore(0), 0);
        Due.is("untell(3)", x.untell(3), true);
        Due.is("told and untold at the same time does not count", x.swore(0), 1);
        Due.is("untell(3) again", x.untell(3), false);
        Due.is("untell(4)", x.untell(4), false);
        Due.is("untell(-1)", x.untell(-1), false);
        for (int i = 4; i < 30; i++) {
            Due.is("tug " + i, x.tug(0, 3, true), i);
        }
        Due.is("the 31st", x.tug(0, 3, true), -1);
        Due.is("untold ones count", x.untell(10), true);
        Due.is("the 31st", x.tug(0, 3, true), -1);
        Due.is("about(10)", x.about(10), 30);
        Due.is("of no men", new OathButtons().swore(0), 0);
        Due.is("tugs without men", new OathButtons().tug(0, 0, true), 0);
    }

    private static void times() {
        OathButtons x = Due.of(MEN);
        Due.is("later(-1)", x.later(-1), -1);
        Due.is("later(1001)", x.later(1001), -1);
        Due.is("later(0)", x.later(0), 0);
        Due.is("later(1000)", x.later(1000), 1000);
        x.tug(0, 3, true);
        x.later(10);
        x.tug(1, 2, false);
        x.later(10);
        x.untell(0);
        x.later(10);
        x.untell(1);
        Due.is("swore(-1)", x.swore(-1), 31);
        Due.is("swore(999)", x.swore(999), 31);
        Due.is("swore(1000)", x.swore(1000), 11);
        Due.is("swore(1009)", x.swore(1009), 11);
        Due.is("swore(1010)", x.swore(1010), 2);
        Due.is("swore(1019)", x.swore(1019), 2);
        Due.is("swore(1020)", x.swore(1020), 18);
        Due.is("swore(1029)", x.swore(1029), 18);
        Due.is("swore(1030)", x.swore(1030), 31);
        Due.is("swore(MAX)", x.swore(Integer.MAX_VALUE), 31);
        Due.is("swore(MIN)", x.swore(Integer.MIN_VALUE), 31);
        x.tug(0, 9, true);
        Due.is("not untold counts for ever", x.swore(Integer.MAX_VALUE), 16);
        for (int i = 1; i < 99; i++) {
            Due.is("later(1000)", x.later(1000), 1030 + 1000 * i);
        }
        Due.is("later(971), above the end", x.later(971), -1);
        Due.is("later(970), to the end", x.later(970), 100000);
        Due.is("later(1)", x.later(1), -1);
        Due.is("later(0)", x.later(0), 100000);
        Due.is("about(11)", x.about(11), 100000);
        Due.feed(x, MEN);
        x.regiment();
        Due.is("the time stays", x.about(11), 100000);
        Due.is("the tugs don't", x.swore(100000), 31);
    }

    private static void ask() {
        OathButtons x = Due.of(MEN);
        // colour: 3 of 3; holes: 3 of 2; left: 3 without: the first of like ones.
        Due.is("ask(0, 0)", x.ask(0, 0), 0);
        Due.is("ask(1, 0)", x.ask(1, 0), 3);
        Due.is("ask(2, 0)", x.ask(2, 0), -1);
        Due.is("ask(-1, 0)", x.ask(-1, 0), -1);
        x.later(1);
        x.tug(0, 3, true);
        // a, b, d: holes 2 4 2, left 1 0 0: holes is the first with two.
        Due.is("ask(0, 1)", x.ask(0, 1), 1);
        Due.is("ask(1, 1)", x.ask(1, 1), 2);
        Due.is("ask(0, 0)", x.ask(0, 0), 0);
        x.later(1);
        x.tug(1, 2, true);
        // a, d: left alone parts them.
        Due.is("ask(0, 2)", x.ask(0, 2), 2);
        Due.is("ask(1, 2)", x.ask(1, 2), 1);
        Due.is("ask(1, 1)", x.ask(1, 1), 2);
        x.later(1);
        x.tug(2, 1, true);
        Due.is("only those who can be are counted", Due.of("man a;man b colour 1;man c colour 1;").ask(1, 0), 2);
        OathButtons y = Due.of("man a;man b colour 1;man c colour 1 left;man d holes 1;man e holes 3;man f holes 4;");
        y.tug(0, 1, false);
        Due.is("a, d, e, f: ask(0, 0)", y.ask(0, 0), 1);
        Due.is("a, d, e, f: ask(1, 0)", y.ask(1, 0), 1);
        Due.is("one is left: the first to ask", x.ask(0, 3), 0);
        Due.is("one is left", x.ask(1, 3), 1);
        x.later(1);
        x.tug(0, 3, false);
        Due.is("none is left", x.ask(0, 4), -1);
        Due.is("none is left", x.ask(1, 4), -1);
        Due.is("of no men", new OathButtons().ask(0, 0), -1);
    }
}
