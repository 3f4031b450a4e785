/** Promises 24 to 27: how long a thread holds, exact odds, which goes first, what will be. */
final class ThreadEdges {
    private static final String MEN = "man a holes 1;man b holes 3;man c holes 2;deed x hours 5;";

    private ThreadEdges() { }

    static void run() {
        holds();
        holdsAnswers();
        odds();
        oddsAnswers();
        first();
        noneIsBroken();
        will();
        willAnswers();
    }

    private static OathButtons one(String how, String lines) {
        return Due.of(MEN + "button p on a by b does x " + how + ";" + lines);
    }

    /** p is KEPT, q BROKEN, r UNDONE, s LOST, t ON. */
    private static OathButtons mixed() {
        OathButtons x = Due.of(MEN + "deed y hours 1;button p on a by b does x;button q on a by c never x;button r on b by a does x;"
            + "button s on b by c does y thread 1;button t on c by a does y;");
        x.does(0, 0);
        x.cut(2);
        x.day();
        for (int i = 0; i < 5; i++) {
            Due.is("button(" + i + ", 0)", x.button(i, 0), new int[] {1, 3, 2, 4, 0}[i]);
        }
        return x;
    }

    private static void holds() {
        Doc.terms(24, "HOLDS: the thread of a BUTTON that is ON behind n DAYS without storms (0), with one each DAY (1).");
        OathButtons x = one("thread 99", "wear 1+storm*holes;storm 50;");
        int[] without = {99, 98, 97, 96, 95};
        int[] with = {99, 95, 91, 87, 83};
        for (int n = 0; n < 5; n++) {
            Due.is("holds(0, " + n + ", 0)", x.holds(0, n, 0), without[n]);
            Due.is("holds(0, " + n + ", 1)", x.holds(0, n, 1), with[n]);
        }
        Due.is("whatever storm is told", one("", "wear storm;storm 0;").holds(0, 3, 1), 7);
        Due.is("whatever storm is told", one("", "wear storm;storm 100;").holds(0, 3, 0), 10);
        Due.is("all of it", one("thread 3", "").holds(0, 3, 0), 0);
        Due.is("no more than that", one("thread 3", "").holds(0, 60, 0), 0);
        Due.is("not less than 0", one("thread 3", "wear 0-5;").holds(0, 60, 1), 3);
        x = one("thread 99", "wear day;");
        Due.is("0, 1, 2, 3", x.holds(0, 4, 0), 93);
        x.day();
        x.day();
        Due.is("2, 3, 4 behind 0, 1", x.holds(0, 3, 0), 89);
        Due.is("by what is left", one("thread 90", "wear thread/2;").holds(0, 3, 0), 12);
        x = one("thread 9", "");
        x.day();
        x.day();
        Due.is("from what it has now", x.holds(0, 1, 0), 6);
        x = one("until 60 thread 99", "wear 0;");
        for (int day = 0; day < 99; day++) {
            x.day();
        }
        Due.is("BROKEN long ago", x.holds(0, 1, 0), -1);
        Doc.promise(24, "HOLDS (n 0 .. 60);");
        x = one("thread 99", "");
        Due.is("holds(0, 0, 0)", x.holds(0, 0, 0), 99);
        Due.is("holds(0, 0, 1)", x.holds(0, 0, 1), 99);
        Due.is("holds(0, 60, 0)", x.holds(0, 60, 0), 39);
        Due.is("holds(0, 60, 1)", x.holds(0, 60, 1), 39);
    }

    private static void holdsAnswers() {
        Doc.promise(24, "NONE if it is not ON, or one can't be.");
        OathButtons x = mixed();
        for (int i = 0; i < 5; i++) {
            Due.is("holds(" + i + ", 1, 0)", x.holds(i, 1, 0), i == 4 ? 8 : -1);
        }
        for (int i : Due.beyond(5)) {
            Due.is("holds(" + i + ", 1, 0)", x.holds(i, 1, 0), -1);
        }
        for (int n : Due.beyond(61)) {
            Due.is("holds(4, " + n + ", 0)", x.holds(4, n, 0), n >= 0 && n <= 60 ? 0 : -1);
        }
        for (int storms : Due.beyond(2)) {
            Due.is("holds(4, 1, " + storms + ")", x.holds(4, 1, storms), -1);
        }
        Due.is("of none at all", new OathButtons().holds(0, 0, 0), -1);
    }

    private static void odds(String call, OathButtons x, int n, long upper, long lower) {
        Due.is(call + ": odds(0, " + n + ", 0)", x.odds(0, n, 0), upper);
        Due.is(call + ": odds(0, " + n + ", 1)", x.odds(0, n, 1), lower);
    }

    private static void odds() {
        Doc.terms(25, "ODDS: that it is not LOST behind n DAYS, if each has a storm by the same odds (storm by 100), whatever the SEED is.");
        OathButtons x = one("thread 2", "wear storm;storm 30;");
        odds("one storm is borne", x, 1, 1, 1);
        odds("two are not", x, 2, 91, 100);
        odds("0.343 + 3 * 0.3 * 0.49", x, 3, 98, 125);
        odds("sure", one("thread 3", "wear 1;storm 50;"), 2, 1, 1);
        odds("none", one("thread 3", "wear 1;storm 50;"), 3, 0, 1);
        odds("storm not told", one("thread 1", "wear storm;"), 6, 1, 1);
        odds("storm 0", one("thread 1", "wear storm;storm 0;"), 6, 1, 1);
        odds("storm 100", one("thread 6", "wear storm;storm 100;"), 5, 1, 1);
        odds("storm 100", one("thread 6", "wear storm;storm 100;"), 6, 0, 1);
        for (int draw : new int[] {0, 3, 17, 44, 999}) {
            odds("whatever the SEED is", one("thread 1", "wear storm;storm 1;draw " + draw + ";"), 1, 99, 100);
        }
        odds("which DAYS storm counts", one("thread 2", "wear storm*day;storm 50;"), 3, 1, 2);
        odds("storms that mend nothing", one("thread 2", "wear 1-storm;storm 50;"), 2, 3, 4);
        x = one("thread 3", "wear 1+storm;storm 50;draw 3;");
        x.day();
        Due.is("no storm", x.button(0, 1), 2);
        odds("from what it has now", x, 1, 1, 2);
        odds("from what it has now", x, 2, 0, 1);
        x = one("thread 5", "wear storm*day;storm 25;draw 44;");
        x.day();
        x.day();
        Due.is("no storm", x.button(0, 1), 5);
        odds("from the DAY on that is now: 2, 3", x, 2, 15, 16);
        Doc.promise(25, "ODDS (n 0 .. 6) the upper part (0), the lower part (1), in lowest terms (0 of 1);");
        odds("0 DAYS", one("thread 1", "wear 99;storm 99;"), 0, 1, 1);
        odds("6 DAYS: 0.99 six times", one("thread 1", "wear storm;storm 1;"), 6, 941480149401L, 1000000000000L);
        odds("6 DAYS: 0.01 six times", one("thread 1", "wear not storm;storm 1;"), 6, 1, 1000000000000L);
        odds("6 DAYS: 0.5 six times", one("thread 1", "wear storm;storm 50;"), 6, 1, 64);
        odds("lowest terms", one("thread 1", "wear storm;storm 75;"), 2, 1, 16);
        odds("0 of 1", one("thread 1", ""), 6, 0, 1);
    }

    private static void oddsAnswers() {
        Doc.promise(25, "NONE if it is not ON, or one can't be.");
        OathButtons x = mixed();
        for (int i = 0; i < 5; i++) {
            Due.is("odds(" + i + ", 1, 0)", x.odds(i, 1, 0), i == 4 ? 1 : -1);
            Due.is("odds(" + i + ", 1, 1)", x.odds(i, 1, 1), i == 4 ? 1 : -1);
        }
        for (int i : Due.beyond(5)) {
            Due.is("odds(" + i + ", 1, 0)", x.odds(i, 1, 0), -1);
        }
        for (int n : Due.beyond(7)) {
            Due.is("odds(4, " + n + ", 0)", x.odds(4, n, 0), -1);
        }
        for (int part : Due.beyond(2)) {
            Due.is("odds(4, 1, " + part + ")", x.odds(4, 1, part), -1);
        }
        Due.is("of none at all", new OathButtons().odds(0, 0, 0), -1);
    }

    private static void firsts(String call, OathButtons x, int button, int days) {
        Due.is(call + ": first(0)", x.first(0), button);
        Due.is(call + ": first(1)", x.first(1), days);
    }

    private static void first() {
        Doc.terms(26, "FIRST: the BUTTON ON that is LOST in the fewest DAYS (60 at most) without storms; of like ones the first.");
        OathButtons x = Due.of(MEN + "button p on a by b does x thread 9;button q on b by a does x thread 7;"
            + "button r on c by a does x thread 7;button s on a by b does x thread 6;wear 1+storm*9;storm 100;");
        firsts("the fewest", x, 3, 6);
        x.cut(3);
        firsts("of like ones the first", x, 1, 7);
        x.cut(1);
        firsts("one that is not ON is none", x, 2, 7);
        x.cut(2);
        firsts("the last that is ON", x, 0, 9);
        x.does(0, 0);
        firsts("none is ON", x, -1, -1);
        firsts("60 DAYS", one("thread 60", ""), 0, 60);
        firsts("61 DAYS", one("thread 61", ""), -1, -1);
        firsts("never", one("thread 1", "wear 0;"), -1, -1);
        firsts("by storms alone", one("thread 1", "wear storm*99;storm 100;"), -1, -1);
        firsts("in one", one("thread 1", ""), 0, 1);
        firsts("of two, that of the man with more holes", Due.of(MEN + "button p on b by a does x;button q on a by b does x;wear holes;"), 1, 4);
        x = one("thread 10", "wear (day>8)*99;");
        firsts("on DAY 9", x, 0, 10);
        x.day();
        firsts("on DAY 9, by what is now", x, 0, 9);
        x = Due.of(MEN + "button p on a by b does x thread 61;button q on a by b does x thread 60;");
        firsts("the other within 60", x, 1, 60);
        x.day();
        firsts("both within 60", x, 1, 59);
        x.undo();
        x.cut(1);
        firsts("in 61", x, -1, -1);
        x.day();
        firsts("in 60", x, 0, 60);
        Doc.promise(26, "FIRST what 0: the BUTTON, 1: in how many DAYS;");
        x = Due.of(MEN + "button p on a by b does x thread 9;button q on b by a does x thread 5;");
        Due.is("first(0)", x.first(0), 1);
        Due.is("first(1)", x.first(1), 5);
        Doc.promise(26, "NONE if there is none, or for another what.");
        for (int what : Due.beyond(2)) {
            Due.is("first(" + what + ")", x.first(what), -1);
        }
        firsts("of none at all", new OathButtons(), -1, -1);
    }

    private static void noneIsBroken() {
        Doc.terms(26, "(None of these three is BROKEN, KEPT on the way.)");
        for (String promise : new String[] {"does", "never"}) {
            OathButtons x = Due.of(MEN + "button p on a by b " + promise + " x until 1 thread 5;storm 50;");
            Due.is("holds(0, 4, 0)", x.holds(0, 4, 0), 1);
            Due.is("holds(0, 4, 1)", x.holds(0, 4, 1), 1);
            odds("within its thread", x, 4, 1, 1);
            odds("behind its thread", x, 5, 0, 1);
            firsts("behind its until", x, 0, 5);
        }
    }

    private static void will() {
        Doc.terms(27, "WILL: how a BUTTON is behind n DAYS as the SEED tells.");
        String text = MEN + "button p on a by b does x until 4 thread 20;button q on a by c never x until 4 thread 20;"
            + "button r on b by c does x thread 9;button s on b by a never x until 9 thread 99;wear 1+storm*2;storm 40;draw 8;";
        OathButtons x = Due.of(text);
        OathButtons y = Due.of(text);
        for (int n = 0; n <= 60; n++) {
            for (int i = 0; i < 4; i++) {
                Due.is("will(" + i + ", " + n + ")", x.will(i, n), y.button(i, 0));
            }
            y.day();
        }
        // 8 becomes 167, 950, 221, 348, 747: a storm at the third and the fourth but one.
        x = one("thread 2", "wear storm*2;storm 22;draw 8;");
        Due.is("behind 67, 50", x.will(0, 2), 0);
        Due.is("behind 21", x.will(0, 3), 4);
        x.day();
        Due.is("from the SEED that is now", x.will(0, 1), 0);
        Due.is("from the SEED that is now", x.will(0, 2), 4);
        Due.is("21 is not less", one("thread 2", "wear storm*2;storm 21;draw 8;").will(0, 3), 0);
        x = Due.of(MEN + "button p on a by b does x until 1 thread 2;button q on a by b never x until 1 thread 3;"
            + "button r on a by b does x until 1 thread 3;");
        Due.is("on its until", x.will(0, 1), 0);
        Due.is("LOST on the DAY on which it would be BROKEN", x.will(0, 2), 4);
        Due.is("KEPT", x.will(1, 2), 1);
        Due.is("KEPT, its thread is no matter then", x.will(1, 60), 1);
        Due.is("BROKEN", x.will(2, 2), 3);
        Due.is("BROKEN, its thread is no matter then", x.will(2, 60), 3);
        x = mixed();
        int[] states = {1, 3, 2, 4, 4};
        for (int i = 0; i < 5; i++) {
            Due.is("what is not ON stays so: will(" + i + ", 60)", x.will(i, 60), states[i]);
        }
    }

    private static void willAnswers() {
        Doc.promise(27, "WILL (n 0 .. 60): as button() tells it;");
        OathButtons x = mixed();
        for (int i = 0; i < 5; i++) {
            Due.is("will(" + i + ", 0)", x.will(i, 0), x.button(i, 0));
        }
        Due.is("will(4, 8)", x.will(4, 8), 0);
        Due.is("will(4, 9)", x.will(4, 9), 4);
        OathButtons y = one("until 60 thread 99", "");
        Due.is("will(0, 60)", y.will(0, 60), 0);
        y.day();
        Due.is("will(0, 60), a DAY later", y.will(0, 60), 3);
        Doc.promise(27, "NONE if one can't be.");
        for (int i : Due.beyond(5)) {
            Due.is("will(" + i + ", 1)", x.will(i, 1), -1);
        }
        for (int n : Due.beyond(61)) {
            Due.is("will(0, " + n + ")", x.will(0, n), n >= 0 && n <= 60 ? 1 : -1);
        }
        Due.is("of none at all", new OathButtons().will(0, 0), -1);
    }
}
