/** Promises 32 to 36: who swore, by tugs, as known at a time. */
final class TugEdges {
    private static final String MEN = "man a colour 3 holes 2 left;man b colour 3 holes 4;man c colour 5 holes 2;"
        + "man d colour 3 holes 2;man e colour 9 holes 1 left;";

    private TugEdges() { }

    static void run() {
        traits();
        tug();
        untell();
        later();
        times();
        swore();
        ask();
        askAnswers();
    }

    private static int told(int what, int number, boolean is) {
        OathButtons x = Due.of(MEN);
        x.tug(what, number, is);
        return x.swore(0);
    }

    private static void traits() {
        Doc.terms(32, "that the colour (0), the holes (1), the left hand (2: 1, or 0) of him who swore is a number, or is not.");
        int[][] who = {
            {0, 0, 0, 11, 0, 4, 0, 0, 0, 16},
            {0, 16, 13, 0, 2, 0, 0, 0, 0, 0},
            {14, 17, 0, 0, 0, 0, 0, 0, 0, 0},
        };
        for (int what = 0; what < 3; what++) {
            for (int number = 0; number < 10; number++) {
                Due.is("it is: " + what + ", " + number, told(what, number, true), who[what][number]);
                Due.is("it is not: " + what + ", " + number, told(what, number, false), 31 - who[what][number]);
            }
        }
        OathButtons x = Due.of("man a;");
        x.tug(0, 0, true);
        x.tug(1, 2, true);
        x.tug(2, 0, true);
        Due.is("not told: 0, 2, 0", x.swore(0), 1);
    }

    private static void tug() {
        Doc.promise(32, "A TUG (what 0 .. 2, a number 0 .. 9): its number;");
        OathButtons x = Due.of(MEN);
        Due.is("tug(0, 0, false)", x.tug(0, 0, false), 0);
        Due.is("tug(2, 9, false)", x.tug(2, 9, false), 1);
        Due.is("the same once more", x.tug(2, 9, false), 2);
        Due.is("of no men", new OathButtons().tug(1, 1, true), 0);
        Doc.promise(32, "NONE, doing nothing, if one can't be, or there are 30.");
        String before = Due.seen(x);
        for (int what : Due.beyond(3)) {
            Due.is("tug(" + what + ", 0, true)", x.tug(what, 0, true), -1);
            Due.is("tug(" + what + ", 0, false)", x.tug(what, 0, false), -1);
        }
        for (int number : Due.beyond(10)) {
            Due.is("tug(0, " + number + ", true)", x.tug(0, number, true), -1);
            Due.is("tug(2, " + number + ", false)", x.tug(2, number, false), -1);
        }
        Due.same("these tugs", x, before);
        Due.is("all are left", x.swore(0), 31);
        Doc.terms(32, "TUGS, 30 at most,");
        for (int i = 3; i < 30; i++) {
            Due.is("the next", x.tug(0, 0, false), i);
        }
        Due.is("about(10)", x.about(10), 30);
        Due.is("the 31st", x.tug(0, 3, true), -1);
        x.untell(4);
        Due.is("the 31st, though one is UNTOLD", x.tug(0, 3, true), -1);
        Due.is("about(10)", x.about(10), 30);
        Due.is("nothing is done", x.swore(0), 31);
        Due.feed(x, MEN);
        x.regiment();
        Due.is("of another REGIMENT", x.tug(0, 3, true), 0);
    }

    private static void untell() {
        Doc.promise(33, "It is UNTOLD: true;");
        OathButtons x = Due.of(MEN);
        x.tug(0, 3, true);
        x.tug(1, 2, true);
        Due.is("both", x.swore(0), 9);
        Due.is("untell(0)", x.untell(0), true);
        Due.is("the other", x.swore(0), 13);
        Due.is("about(10) counts it still", x.about(10), 2);
        Doc.promise(33, "false if it is so already, or there is none such.");
        x.later(5);
        Due.is("untell(0) again", x.untell(0), false);
        Due.is("it is as known from the first on", x.swore(0), 13);
        for (int tug : Due.beyond(2)) {
            Due.is("untell(" + tug + ")", x.untell(tug), false);
        }
        Due.is("nothing is done", x.swore(5), 13);
        Due.is("of none at all", new OathButtons().untell(0), false);
        OathButtons y = new OathButtons();
        for (int i = 0; i < 30; i++) {
            y.tug(0, 0, true);
        }
        Due.is("the last of 30", y.untell(29), true);
        Due.is("a 31st", y.untell(30), false);
    }

    private static void later() {
        Doc.promise(34, "So much later (0 .. 1000): the TIME;");
        OathButtons x = new OathButtons();
        Due.is("later(0)", x.later(0), 0);
        Due.is("later(1)", x.later(1), 1);
        Due.is("later(1000)", x.later(1000), 1001);
        Due.is("later(999)", x.later(999), 2000);
        Doc.promise(34, "NONE, doing nothing, for another number, or if it would be above 100,000.");
        for (int by : new int[] {1001, -1, 1000000, -1000, Integer.MAX_VALUE, Integer.MIN_VALUE, Integer.MAX_VALUE - 1999}) {
            Due.is("later(" + by + ")", x.later(by), -1);
            Due.is("about(11)", x.about(11), 2000);
        }
        for (int i = 3; i < 100; i++) {
            x.later(1000);
        }
        Due.is("about(11)", x.about(11), 99000);
        Due.is("later(999)", x.later(999), 99999);
        Due.is("100,001 would be", x.later(2), -1);
        Due.is("100,999 would be", x.later(1000), -1);
        Due.is("about(11)", x.about(11), 99999);
        Due.is("100,000", x.later(1), 100000);
        Due.is("one more", x.later(1), -1);
        Due.is("none more", x.later(0), 100000);
    }

    private static void times() {
        Doc.terms(33, "are TOLD at a TIME (0 at first, goes on), UNTOLD at a later one or the same:");
        OathButtons x = Due.of(MEN);
        Due.is("at first", x.about(11), 0);
        x.tug(0, 3, true);
        x.later(10);
        Due.is("goes on", x.about(11), 10);
        x.tug(1, 2, true);
        x.untell(1);
        x.tug(2, 1, true);
        x.later(5);
        x.untell(0);
        x.later(5);
        x.untell(2);
        Doc.terms(35, "As known at k those count that were TOLD at k or before, not UNTOLD at k or before.");
        int[][] known = {{Integer.MIN_VALUE, 31}, {-1, 31}, {0, 11}, {9, 11}, {10, 1}, {14, 1}, {15, 17}, {19, 17}, {20, 31}, {21, 31},
            {Integer.MAX_VALUE, 31}};
        for (int[] k : known) {
            Due.is("swore(" + k[0] + ")", x.swore(k[0]), k[1]);
        }
        x.tug(0, 5, true);
        Due.is("one that was TOLD now", x.swore(20), 4);
        Due.is("at all times to come", x.swore(Integer.MAX_VALUE), 4);
        Due.is("not ahead", x.swore(19), 17);
    }

    private static void swore() {
        Doc.terms(35, "SWORE: MEN of whom all that count are so.");
        OathButtons x = Due.of(MEN);
        x.tug(0, 3, true);
        x.tug(1, 2, true);
        x.tug(2, 1, false);
        Due.is("all three", x.swore(0), 8);
        x.tug(2, 1, true);
        Due.is("none can be so and not so", x.swore(0), 0);
        Doc.promise(35, "SWORE, as bits.");
        Due.is("none counts", Due.of(MEN).swore(0), 31);
        Due.is("six men", Due.of("man a;man b;man c;man d;man e;man f;").swore(7), 63);
        Due.is("of none at all", new OathButtons().swore(0), 0);
        x = Due.of(MEN);
        for (int i = 0; i < 29; i++) {
            x.tug(0, 9, false);
        }
        x.tug(1, 4, true);
        Due.is("the last of 30", x.swore(0), 2);
    }

    private static void asks(String call, String men, int which, int left) {
        OathButtons x = Due.of(men);
        Due.is(call + ": ask(0, 0)", x.ask(0, 0), which);
        Due.is(call + ": ask(1, 0)", x.ask(1, 0), left);
    }

    private static void ask() {
        Doc.terms(36, "ASK: which of the three to see would leave the fewest of these at the most; of like ones the first.");
        asks("colour", "man a colour 1;man b colour 2;man c colour 3 left;", 0, 1);
        asks("holes", "man a holes 1;man b holes 2;man c holes 3 left;", 1, 1);
        asks("left", "man a left;man b;", 2, 1);
        asks("all like: the first", "man a;man b;man c;", 0, 3);
        asks("two of them like: the first", "man a;man b holes 1 left;man c;", 1, 2);
        asks("colour and left", "man a colour 1 left;man b;man c;", 0, 2);
        asks("one", "man a colour 9 holes 4 left;", 0, 1);
        asks("the most of a colour, not how many there are", "man a colour 1;man b colour 1;man c colour 1;man d colour 2 left;"
            + "man e colour 3 left;", 0, 3);
        asks("two and two, not three and one", "man a colour 1;man b colour 1;man c colour 1 left;man d colour 2 left;", 2, 2);
        OathButtons x = Due.of(MEN);
        x.later(4);
        x.tug(0, 3, true);
        Due.is("of a, b, d: ask(0, 4)", x.ask(0, 4), 1);
        Due.is("of a, b, d: ask(1, 4)", x.ask(1, 4), 2);
        Due.is("as known ahead: ask(0, 3)", x.ask(0, 3), 0);
        Due.is("as known ahead: ask(1, 3)", x.ask(1, 3), 3);
        x.tug(1, 2, true);
        Due.is("of a, d: ask(0, 4)", x.ask(0, 4), 2);
        Due.is("of a, d: ask(1, 4)", x.ask(1, 4), 1);
    }

    private static void askAnswers() {
        Doc.promise(36, "ASK what 0: which (0 .. 2), 1: how many are left at the most;");
        OathButtons x = Due.of("man a left;man b;man c;");
        Due.is("ask(0, 0)", x.ask(0, 0), 2);
        Due.is("ask(1, 0)", x.ask(1, 0), 2);
        Doc.promise(36, "NONE if there are none, or for another what.");
        for (int what : Due.beyond(2)) {
            Due.is("ask(" + what + ", 0)", x.ask(what, 0), -1);
        }
        x.tug(0, 9, true);
        Due.is("none: ask(0, 0)", x.ask(0, 0), -1);
        Due.is("none: ask(1, 0)", x.ask(1, 0), -1);
        Due.is("none was known ahead", x.ask(0, -1), 2);
        Due.is("of none at all", new OathButtons().ask(0, 0), -1);
        Due.is("of none at all", new OathButtons().ask(1, 0), -1);
    }
}
