import java.util.function.ToLongFunction;

/** Promises 11 to 17, 37 and 38: acts, at their edges; what is refused does nothing. */
final class ActEdges {
    private static final String MEN = "man a holes 1;man b holes 3;man c holes 4;deed x hours 5;deed y hours 6;";
    /** On a by b: p does x; on a by c: q never x, r does y behind q; on b by a: s does x. */
    private static final String TEXT = MEN
        + "button p on a by b does x until 2;"
        + "button q on a by c never x until 2;"
        + "button r on a by c does y thread 3 after q;"
        + "button s on b by a does x;";

    private ActEdges() { }

    static void run() {
        does();
        undoes();
        cut();
        sew();
        dayWears();
        dayEnds();
        dayStorms();
        dayAnswers();
        undo();
        redo();
        forty();
        image();
        back();
    }

    /** That the call is an ACT: one more can be undone and none redone; UNDO and REDO take all of it back and forth. */
    private static void isAct(OathButtons x, String call, ToLongFunction<OathButtons> act, long want) {
        x.does(2, 0);
        x.undo();
        int acts = x.about(8);
        String before = Due.seen(x);
        Due.is(call, act.applyAsLong(x), want);
        Due.is(call + ", an ACT more", x.about(8), acts + 1);
        Due.is(call + ", none to redo", x.about(9), 0);
        String after = Due.seen(x);
        Due.is(call + ", undo()", x.undo(), true);
        Due.same("undo() of " + call, x, before);
        Due.is(call + ", redo()", x.redo(), true);
        Due.same("redo() of " + call, x, after);
    }

    /** That the call does nothing, and takes no REDO away. */
    private static void refused(OathButtons x, String call, ToLongFunction<OathButtons> act, long want) {
        x.does(2, 0);
        x.undo();
        String before = Due.seen(x);
        Due.is(call, act.applyAsLong(x), want);
        Due.same(call, x, before);
        Due.is(call + ", redo() stays", x.redo(), true);
        x.undo();
    }

    private static long did(boolean is) {
        return is ? 1 : 0;
    }

    private static void does() {
        Doc.terms(11, "ACTS: a MAN does a DEED: all BUTTONS ON him that promise it are KEPT, all ON him that promise never to are BROKEN;");
        OathButtons x = Due.of(TEXT + "button t on a by b does x;button u on c by b never x;");
        x.does(0, 0);
        int[] states = {1, 3, 0, 0, 1, 0};
        for (int i = 0; i < states.length; i++) {
            Due.is("button(" + i + ", 0)", x.button(i, 0), states[i]);
        }
        x.does(0, 0);
        Due.is("KEPT stays", x.button(0, 0), 1);
        Due.is("BROKEN stays", x.button(1, 0), 3);
        x = Due.of(TEXT);
        x.cut(0);
        x.undoes(1);
        Due.is("what is UNDONE stays so", x.does(0, 0), 0);
        Due.is("UNDONE", x.button(0, 0), 2);
        Due.is("UNDONE", x.button(1, 0), 2);
        Doc.promise(11, "A MAN does a DEED: 100 * how many are KEPT, and how many BROKEN, by it;");
        Due.is("one each", Due.of(TEXT).does(0, 0), 101);
        Due.is("one", Due.of(TEXT).does(1, 0), 100);
        Due.is("none", Due.of(TEXT).does(1, 1), 0);
        Due.is("no BUTTON ON him", Due.of(TEXT).does(2, 0), 0);
        StringBuilder text = new StringBuilder(MEN);
        for (char name = 'a'; name < 'k'; name++) {
            text.append("button ").append(name).append(" on a by b does x;");
        }
        Due.is("ten KEPT", Due.of(text.toString()).does(0, 0), 1000);
        Due.is("ten BROKEN", Due.of(text.toString().replace("does", "never")).does(0, 0), 10);
        x = Due.of(TEXT);
        x.does(0, 0);
        Due.is("those of an earlier one don't count", x.does(0, 0), 0);
        Doc.promise(11, "NONE, doing nothing, if one can't be.");
        for (int man : Due.beyond(3)) {
            refused(Due.of(TEXT), "does(" + man + ", 0)", y -> y.does(man, 0), -1);
        }
        for (int deed : Due.beyond(2)) {
            refused(Due.of(TEXT), "does(0, " + deed + ")", y -> y.does(0, deed), -1);
        }
        Due.is("of none at all", new OathButtons().does(0, 0), -1);
        Doc.promise(11, "(An ACT.)");
        isAct(Due.of(TEXT), "does(0, 0)", y -> y.does(0, 0), 101);
        isAct(Due.of(TEXT), "does(1, 1), by which nothing becomes so,", y -> y.does(1, 1), 0);
    }

    private static void undoes() {
        Doc.terms(12, "a BUTTON that is ON is UNDONE, if that behind which it is told is not ON;");
        OathButtons x = Due.of(TEXT + "button t on c by b does y after r;");
        Due.is("waits for another one that waits", x.undoes(4), false);
        Due.is("waits", x.undoes(2), false);
        Due.is("that ahead of it", x.undoes(1), true);
        Due.is("waits still", x.undoes(4), false);
        Due.is("behind an UNDONE one", x.undoes(2), true);
        Due.is("the next", x.undoes(4), true);
        Due.is("UNDONE", x.many(2), 3);
        x = Due.of(TEXT);
        x.does(0, 0);
        Due.is("behind a BROKEN one", x.undoes(2), true);
        x = Due.of(TEXT.replace("never x until 2", "never x until 1"));
        x.day();
        x.day();
        Due.is("KEPT", x.button(1, 0), 1);
        Due.is("behind a KEPT one", x.undoes(2), true);
        x = Due.of(TEXT.replace("never x until 2", "never x thread 1"));
        x.day();
        Due.is("LOST", x.button(1, 0), 4);
        Due.is("behind a LOST one", x.undoes(2), true);
        x = Due.of(TEXT.replace("never x until 2", "never x thread 1"));
        x.day();
        x.sew(1);
        Due.is("behind one that is sewn anew", x.undoes(2), false);
        Doc.promise(12, "A BUTTON is UNDONE: whether;");
        Due.is("whether", Due.of(TEXT).undoes(0), true);
        Doc.promise(12, "false, doing nothing, if it is not ON, waits for another one, or there is none such.");
        refused(Due.of(TEXT), "undoes(2), which waits,", y -> did(y.undoes(2)), 0);
        for (int i : Due.beyond(4)) {
            refused(Due.of(TEXT), "undoes(" + i + ")", y -> did(y.undoes(i)), 0);
        }
        OathButtons off = Due.of(TEXT + "button t on b by c does y thread 1;");
        off.does(0, 0);
        off.cut(3);
        off.day();
        int[] states = {1, 3, 0, 2, 4};
        for (int i = 0; i < states.length; i++) {
            int button = i;
            Due.is("button(" + i + ", 0)", off.button(i, 0), states[i]);
            if (states[i] != 0) {
                refused(off, "undoes(" + i + "), which is not ON,", y -> did(y.undoes(button)), 0);
            }
        }
        Due.is("of none at all", new OathButtons().undoes(0), false);
        Doc.promise(12, "(An ACT.)");
        isAct(Due.of(TEXT), "undoes(1)", y -> did(y.undoes(1)), 1);
    }

    private static void cut() {
        Doc.terms(13, "one is CUT off, whatever that is (UNDONE then; 3 in all);");
        OathButtons x = Due.of(TEXT);
        Due.is("though it waits", x.cut(2), 1);
        Due.is("UNDONE", x.button(2, 0), 2);
        Due.is("about(6)", x.about(6), 1);
        Doc.promise(13, "A BUTTON is CUT off: how many were;");
        Due.is("the second", x.cut(0), 2);
        Due.is("the third", x.cut(3), 3);
        Doc.promise(13, "NONE, doing nothing, if it is not ON, 3 were, or there is none such.");
        refused(x, "cut(1), the fourth,", y -> y.cut(1), -1);
        Due.is("it is ON", x.button(1, 0), 0);
        x.undo();
        Due.is("behind undo() there is one more", x.cut(1), 3);
        OathButtons off = Due.of(TEXT + "button t on b by c does y thread 1;");
        off.does(0, 0);
        off.undoes(3);
        off.day();
        int[] states = {1, 3, 0, 2, 4};
        for (int i = 0; i < states.length; i++) {
            int button = i;
            Due.is("button(" + i + ", 0)", off.button(i, 0), states[i]);
            if (states[i] != 0) {
                refused(off, "cut(" + i + "), which is not ON,", y -> y.cut(button), -1);
            }
        }
        for (int i : Due.beyond(4)) {
            refused(Due.of(TEXT), "cut(" + i + ")", y -> y.cut(i), -1);
        }
        Due.is("of none at all", new OathButtons().cut(0), -1);
        Doc.promise(13, "(An ACT.)");
        isAct(Due.of(TEXT), "cut(0)", y -> y.cut(0), 1);
    }

    private static void sew() {
        Doc.terms(14, "one that is ON, or LOST, is sewn anew (ON, thread as told);");
        OathButtons x = Due.of(TEXT);
        x.day();
        x.day();
        Due.is("how much it had", x.sew(2), 1);
        Due.is("ON", x.button(2, 0), 0);
        Due.is("as told", x.button(2, 1), 3);
        x = Due.of(TEXT);
        x.day();
        x.day();
        x.day();
        Due.is("LOST", x.button(2, 0), 4);
        Doc.promise(14, "A BUTTON is sewn anew: how much thread it had;");
        Due.is("none", x.sew(2), 0);
        Due.is("ON", x.button(2, 0), 0);
        Due.is("as told", x.button(2, 1), 3);
        Due.is("all of it", x.sew(2), 3);
        Due.is("not told", Due.of(TEXT).sew(0), 10);
        Doc.promise(14, "NONE, doing nothing, if it is neither ON nor LOST, or there is none such.");
        x = Due.of(TEXT);
        x.does(0, 0);
        x.cut(3);
        refused(x, "sew(0), KEPT,", y -> y.sew(0), -1);
        refused(x, "sew(1), BROKEN,", y -> y.sew(1), -1);
        refused(x, "sew(3), UNDONE,", y -> y.sew(3), -1);
        for (int i : Due.beyond(4)) {
            refused(Due.of(TEXT), "sew(" + i + ")", y -> y.sew(i), -1);
        }
        Due.is("of none at all", new OathButtons().sew(0), -1);
        Doc.promise(14, "(An ACT.)");
        isAct(Due.of(TEXT), "sew(0), as it was,", y -> y.sew(0), 10);
        x = Due.of(TEXT + "wear 99;");
        x.day();
        isAct(x, "sew(2)", y -> y.sew(2), 0);
    }

    /** The thread that a button of ten has behind a day, by a man with three holes. */
    private static int worn(String lines) {
        OathButtons x = Due.of(MEN + "button p on a by b does x;" + lines);
        x.day();
        return x.button(0, 1);
    }

    private static void dayWears() {
        Doc.terms(15, "each BUTTON ON loses of its thread what comes of wear (1, if it is not told) by thread, holes (of the MAN by whom "
            + "it is), storm (1, or 0), day (the DAY;");
        Due.is("not told", worn(""), 9);
        Due.is("thread", worn("wear thread-7;"), 7);
        Due.is("holes", worn("wear holes;"), 7);
        Due.is("storm", worn("wear storm+4;storm 100;"), 5);
        Due.is("no storm", worn("wear storm+4;storm 0;"), 6);
        Due.is("day 0", worn("wear day+2;"), 8);
        OathButtons x = Due.of(MEN + "button p on a by b does x thread 99;button q on a by c does x thread 99;wear day*holes;");
        int[] one = {99, 96, 90, 81, 69};
        int[] other = {99, 95, 87, 75, 59};
        for (int day = 0; day < 5; day++) {
            x.day();
            Due.is("the first, behind DAY " + day, x.button(0, 1), one[day]);
            Due.is("the other, behind DAY " + day, x.button(1, 1), other[day]);
        }
        x = Due.of(MEN + "button p on a by b does x thread 90;wear thread/2;");
        int[] halves = {45, 23, 12, 6, 3, 2, 1, 1, 1};
        for (int thread : halves) {
            x.day();
            Due.is("by what is left", x.button(0, 1), thread);
        }
        x = Due.of(TEXT);
        x.does(0, 0);
        x.cut(3);
        x.day();
        Due.is("a KEPT one wears no more", x.button(0, 1), 10);
        Due.is("a BROKEN one wears no more", x.button(1, 1), 10);
        Due.is("an UNDONE one wears no more", x.button(3, 1), 10);
        x = Due.of(MEN + "button p on a by b does x thread 1;");
        x.day();
        x.day();
        Due.is("a LOST one has none", x.button(0, 1), 0);
        Doc.terms(15, "0 at least, all of it at most: with none left it is LOST;");
        Due.is("below 0", worn("wear 0-1;"), 10);
        Due.is("far below 0", worn("wear 0-9999*9999;"), 10);
        Due.is("0", worn("wear 0;"), 10);
        Due.is("all but one", worn("wear 9;"), 1);
        Due.is("all of it", worn("wear 10;"), 0);
        Due.is("more than that", worn("wear 11;"), 0);
        Due.is("the most there is", worn("wear 8192*8192*32-1;"), 0);
        int[] states = {0, 0, 4, 4};
        for (int wear = 8; wear < 12; wear++) {
            x = Due.of(MEN + "button p on a by b does x;wear " + wear + ";");
            x.day();
            Due.is("how it is by wear " + wear, x.button(0, 0), states[wear - 8]);
        }
    }

    private static void dayEnds() {
        Doc.terms(15, "the DAY goes up by 1;");
        OathButtons x = Due.of(TEXT);
        for (int day = 1; day <= 3; day++) {
            x.day();
            Due.is("about(4)", x.about(4), day);
        }
        Doc.terms(15, "each BUTTON ON whose until is less than the DAY is BROKEN, if it promises a DEED, else KEPT.");
        x = Due.of(TEXT + "button t on b by c does y until 60 thread 99;button u on b by c never y until 60 thread 99;");
        x.day();
        x.day();
        Due.is("until 2 on DAY 2", x.button(0, 0), 0);
        Due.is("until 2 on DAY 2", x.button(1, 0), 0);
        x.day();
        Due.is("until 2 on DAY 3, a DEED", x.button(0, 0), 3);
        Due.is("until 2 on DAY 3, never", x.button(1, 0), 1);
        for (int day = 3; day < 60; day++) {
            x.day();
        }
        Due.is("until 60 on DAY 60", x.button(4, 0), 0);
        Due.is("until 60 on DAY 60", x.button(5, 0), 0);
        x.day();
        Due.is("until 60 on DAY 61, a DEED", x.button(4, 0), 3);
        Due.is("until 60 on DAY 61, never", x.button(5, 0), 1);
        x = Due.of(MEN + "button p on a by b does x until 1 thread 2;button q on a by b never x until 1 thread 2;");
        x.day();
        x.day();
        Due.is("LOST is not BROKEN", x.button(0, 0), 4);
        Due.is("LOST is not KEPT", x.button(1, 0), 4);
        x.sew(0);
        x.sew(1);
        Due.is("sewn anew behind its until", x.many(0), 2);
        x.day();
        Due.is("till the next DAY: a DEED", x.button(0, 0), 3);
        Due.is("till the next DAY: never", x.button(1, 0), 1);
        x = Due.of(MEN + "button p on a by b does x until 1;");
        x.cut(0);
        x.day();
        x.day();
        Due.is("an UNDONE one is not BROKEN", x.button(0, 0), 2);
    }

    private static void dayStorms() {
        Doc.terms(15, "a DAY: the SEED (draw, at first) becomes its 137-fold and 71 more, modulo 1,000;");
        OathButtons x = Due.of("draw 999;");
        Due.is("at first", x.about(5), 999);
        int[] seeds = {934, 29, 44, 99, 634, 929};
        for (int seed : seeds) {
            x.day();
            Due.is("about(5)", x.about(5), seed);
        }
        x = Due.of("man a;");
        x.day();
        Due.is("of 0", x.about(5), 71);
        Doc.terms(15, "it storms, if its rest by 100 is less than storm;");
        // Draw 3 becomes 482, draw 17 becomes 400, draw 4 becomes 619, draw 44 becomes 99.
        int[][] draws = {{3, 82}, {17, 0}, {4, 19}, {44, 99}};
        for (int[] draw : draws) {
            int rest = draw[1];
            for (int storm : new int[] {0, rest, rest + 1, 100}) {
                int lost = 10 - worn("wear storm;storm " + storm + ";draw " + draw[0] + ";");
                Due.is("draw " + draw[0] + " by storm " + storm, lost, rest < storm ? 1 : 0);
            }
        }
    }

    private static void dayAnswers() {
        String lost = MEN + "button p on a by b does x thread 1;button q on a by b does x until 1 thread 2;"
            + "button r on a by b never y thread 1;button s on a by b never y until 1 thread 3;button t on a by b does x thread 1;";
        Doc.promise(15, "A DAY: how many BUTTONS went LOST;");
        OathButtons x = Due.of(lost);
        x.cut(4);
        Due.is("two", x.day(), 2);
        Due.is("one, those of earlier don't count", x.day(), 1);
        Due.is("none", x.day(), 0);
        Due.is("ten", Due.of(ten()).day(), 10);
        Due.is("of none at all", new OathButtons().day(), 0);
        Doc.promise(15, "NONE, doing nothing, behind 99 of them.");
        x = Due.of(TEXT + "wear 0;");
        for (int day = 1; day <= 99; day++) {
            Due.is("day()", x.day(), 0);
            Due.is("about(4)", x.about(4), day);
        }
        refused(x, "day(), the 100th,", y -> y.day(), -1);
        x.undo();
        Due.is("one was taken back", x.day(), 0);
        refused(x, "day(), the 100th,", y -> y.day(), -1);
        Due.feed(x, TEXT);
        x.regiment();
        Due.is("of another REGIMENT", x.day(), 0);
        Doc.promise(15, "(An ACT.)");
        isAct(Due.of(lost), "day()", y -> y.day(), 3);
        isAct(Due.of("man a;man b;man c;deed x hours 1;"), "day() with no BUTTONS", y -> y.day(), 0);
    }

    private static String ten() {
        StringBuilder text = new StringBuilder(MEN);
        for (char name = 'a'; name < 'k'; name++) {
            text.append("button ").append(name).append(" on a by b does x thread 1;");
        }
        return text.toString();
    }

    private static void undo() {
        Doc.terms(16, "UNDO takes back the latest ACT that was not,");
        OathButtons x = Due.of(TEXT + "storm 50;draw 8;");
        String[] seen = new String[6];
        seen[0] = state(x);
        x.does(0, 1);
        seen[1] = state(x);
        x.undoes(1);
        seen[2] = state(x);
        x.cut(0);
        seen[3] = state(x);
        x.day();
        seen[4] = state(x);
        x.sew(3);
        seen[5] = state(x);
        for (int i = 4; i >= 0; i--) {
            Due.is("undo()", x.undo(), true);
            Due.is("all is as it was: " + state(x), state(x).equals(seen[i]), true);
            Due.is("about(8)", x.about(8), i);
            Due.is("about(9)", x.about(9), 5 - i);
        }
        Doc.promise(16, "UNDO: true; false if there is none.");
        Due.is("none any more", x.undo(), false);
        Due.is("nothing is done", state(x).equals(seen[0]), true);
        Due.is("about(9)", x.about(9), 5);
        Due.is("none at first", new OathButtons().undo(), false);
        Doc.terms(17, "REDO does that again which was taken back last");
        for (int i = 1; i <= 5; i++) {
            Due.is("redo()", x.redo(), true);
            Due.is("all is as it was: " + state(x), state(x).equals(seen[i]), true);
            Due.is("about(8)", x.about(8), i);
            Due.is("about(9)", x.about(9), 5 - i);
        }
        Due.is("none any more", x.redo(), false);
        Due.is("nothing is done", state(x).equals(seen[5]), true);
    }

    /** How BUTTONS are, their thread, the DAY, the SEED, how many were CUT. */
    private static String state(OathButtons x) {
        StringBuilder s = new StringBuilder();
        for (int i = 0; i < x.about(0); i++) {
            s.append(x.button(i, 0)).append(':').append(x.button(i, 1)).append(' ');
        }
        return s.append(x.about(4)).append(' ').append(x.about(5)).append(' ').append(x.about(6)).toString();
    }

    private static void redo() {
        Doc.terms(17, "(till another ACT);");
        OathButtons x = Due.of(TEXT);
        x.day();
        x.day();
        x.day();
        x.undo();
        x.undo();
        Due.is("two to redo", x.about(9), 2);
        x.does(1, 1);
        Due.is("none to redo", x.about(9), 0);
        Due.is("redo()", x.redo(), false);
        Due.is("about(4)", x.about(4), 1);
        Due.is("undo()", x.undo(), true);
        Due.is("undo()", x.undo(), true);
        Due.is("undo()", x.undo(), false);
        x.keep(0, 0);
        x.truce();
        x.tug(0, 0, true);
        x.image(0);
        x.feed(0, 0, 0, 0, 0);
        x.regiment();
        Due.is("what is no ACT leaves it", x.redo(), true);
        Doc.promise(17, "REDO: true; false if there is none.");
        Due.is("one more", x.redo(), true);
        Due.is("none", x.redo(), false);
        Due.is("none at first", new OathButtons().redo(), false);
    }

    private static void forty() {
        Doc.terms(16, "40 at most are kept, the oldest go.");
        OathButtons x = Due.of("man a;deed x hours 1;");
        for (int acts = 1; acts <= 45; acts++) {
            x.day();
            Due.is("about(8)", x.about(8), Math.min(40, acts));
        }
        for (int i = 1; i <= 40; i++) {
            Due.is("undo(), the " + i + ".", x.undo(), true);
            Due.is("about(4)", x.about(4), 45 - i);
        }
        Due.is("the 41st is gone", x.undo(), false);
        Due.is("about(4)", x.about(4), 5);
        for (int i = 1; i <= 40; i++) {
            Due.is("redo(), the " + i + ".", x.redo(), true);
            Due.is("about(4)", x.about(4), 5 + i);
        }
        Due.is("redo(), the 41st", x.redo(), false);
        x.undo();
        x.undo();
        x.does(0, 0);
        Due.is("two taken back, one done", x.about(8), 39);
        x.does(0, 0);
        x.does(0, 0);
        Due.is("40 again", x.about(8), 40);
        for (int i = 0; i < 40; i++) {
            x.undo();
        }
        Due.is("the oldest went", x.about(4), 6);
        OathButtons y = Due.of("man a;");
        for (int i = 0; i < 40; i++) {
            y.day();
        }
        for (int i = 0; i < 40; i++) {
            Due.is("all of 40", y.undo(), true);
        }
        Due.is("about(4)", y.about(4), 0);
    }

    private static void image() {
        Doc.promise(37, "How BUTTONS are, their thread, the DAY, the SEED, how many were CUT are kept in a BOX 0 .. 2: the DAY;");
        for (int box = 0; box < 3; box++) {
            OathButtons x = Due.of(TEXT + "storm 50;draw 8;");
            x.does(0, 1);
            x.day();
            x.cut(3);
            String then = state(x);
            String before = Due.seen(x);
            Due.is("image(" + box + ")", x.image(box), 1);
            Due.same("image(" + box + ")", x, before);
            x.day();
            x.sew(0);
            x.undoes(1);
            x.cut(0);
            Due.is("back(" + box + ")", x.back(box), 1);
            Due.is("all is as it was: " + state(x), state(x).equals(then), true);
        }
        tenKept();
        OathButtons x = Due.of(TEXT);
        for (int box = 0; box < 3; box++) {
            Due.is("image(" + box + ")", x.image(box), box);
            x.day();
        }
        x.image(1);
        int[] days = {0, 3, 2};
        for (int box = 2; box >= 0; box--) {
            Due.is("each BOX by itself, the latest in it: back(" + box + ")", x.back(box), days[box]);
        }
        Due.is("image(0) of none at all", new OathButtons().image(0), 0);
        Doc.promise(37, "NONE if there is none such.");
        for (int box : Due.beyond(3)) {
            String before = Due.seen(x);
            Due.is("image(" + box + ")", x.image(box), -1);
            Due.same("image(" + box + ")", x, before);
        }
    }

    /** Each of ten has a state and a thread by itself, and none of them is the DAY, the SEED, or how many were CUT. */
    private static void tenKept() {
        StringBuilder text = new StringBuilder(MEN);
        for (int i = 0; i < 10; i++) {
            text.append("button ").append((char) ('a' + i)).append(" on a by b does x thread ").append(20 + i).append(';');
        }
        OathButtons x = Due.of(text + "draw 123;");
        x.cut(9);
        x.cut(0);
        x.day();
        String then = state(x);
        StringBuilder due = new StringBuilder("2:20 ");
        for (int i = 1; i < 9; i++) {
            due.append("0:").append(19 + i).append(' ');
        }
        Due.is(then, then.contentEquals(due.append("2:29 1 922 2")), true);
        x.image(0);
        x.day();
        x.does(0, 0);
        x.back(0);
        Due.is(state(x), state(x).equals(then), true);
        x.day();
        x.undo();
        Due.is(state(x), state(x).equals(then), true);
    }

    private static void back() {
        Doc.promise(38, "All is as it was kept (no ACTS are kept then): the DAY;");
        OathButtons x = Due.of(TEXT);
        x.day();
        x.day();
        x.image(0);
        x.day();
        x.day();
        x.undo();
        x.tug(0, 0, false);
        x.later(3);
        x.truce();
        Due.is("back(0)", x.back(0), 2);
        int[] about = {4, 3, 2, 0, 2, 798, 0, 8, 0, 0, 1, 3, 0, 0, 3};
        for (int what = 0; what < about.length; what++) {
            Due.is("about(" + what + ")", x.about(what), about[what]);
        }
        Due.is("undo()", x.undo(), false);
        Due.is("redo()", x.redo(), false);
        Due.is("day() goes on from there", x.day(), 1);
        Due.is("about(4)", x.about(4), 3);
        Due.is("undo()", x.undo(), true);
        Due.is("about(4)", x.about(4), 2);
        Due.is("undo() ends there", x.undo(), false);
        x.day();
        Due.is("it stays in the BOX", x.back(0), 2);
        Due.is("and again", x.back(0), 2);
        Doc.promise(38, "NONE, doing nothing, if nothing was.");
        OathButtons y = Due.of(TEXT);
        y.day();
        y.image(1);
        y.day();
        int[] others = Due.beyond(3);
        for (int box : others) {
            refused(y, "back(" + box + ")", z -> z.back(box), -1);
        }
        refused(y, "back(0)", z -> z.back(0), -1);
        refused(y, "back(2)", z -> z.back(2), -1);
        Due.is("back(0) of none at all", new OathButtons().back(0), -1);
        Due.feed(y, TEXT);
        y.regiment();
        refused(y, "back(1), of another REGIMENT", z -> z.back(1), -1);
        Due.is("about(5)", y.about(5), 0);
    }
}
