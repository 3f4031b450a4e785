/** Promises 6 to 10, 20, 30, 31 and 39: what is, looked at. */
final class LookEdges {
    private static final String MEN = "man a;man b;man c;man d;deed x hours 5;deed y hours 6;deed z hours 1;";
    private static final String TEXT = MEN
        + "button p on a by b does x until 9 thread 7;"
        + "button q on a by c never y;"
        + "button r on b by a never x until 3 thread 2 after p;"
        + "button s on c by a does y until 1 thread 1;"
        + "button t on d by a never z until 60 thread 99 after r;";
    private static final int[][] AT_FIRST = {
        {0, 7, 0, 1, 0, 1, 9, -1},
        {0, 10, 0, 2, 1, 0, 60, -1},
        {0, 2, 1, 0, 0, 0, 3, 0},
        {0, 1, 2, 0, 1, 1, 1, -1},
        {0, 99, 3, 0, 2, 0, 60, 2},
    };

    private LookEdges() { }

    static void run() {
        button();
        coat();
        free();
        sworn();
        many();
        ties();
        likes();
        lies();
        about();
    }

    /** p is KEPT, q BROKEN, r UNDONE, s LOST, t ON; it is day 1. */
    private static OathButtons mixed() {
        OathButtons x = Due.of(TEXT);
        x.does(0, 0);
        x.does(0, 1);
        x.cut(2);
        x.day();
        return x;
    }

    private static void button() {
        OathButtons x = Due.of(TEXT);
        Doc.terms(6, "A BUTTON is ON (at first), KEPT, UNDONE, BROKEN, or LOST; it has thread (as told at first). It is DAY 0.");
        for (int i = 0; i < 5; i++) {
            Due.is("button(" + i + ", 0)", x.button(i, 0), 0);
            Due.is("button(" + i + ", 1)", x.button(i, 1), AT_FIRST[i][1]);
        }
        Due.is("the DAY", x.about(4), 0);
        Doc.promise(6, "Of a BUTTON what 0: 0 ON, 1 KEPT, 2 UNDONE, 3 BROKEN, 4 LOST");
        x = mixed();
        int[] states = {1, 3, 2, 4, 0};
        for (int i = 0; i < 5; i++) {
            Due.is("button(" + i + ", 0)", x.button(i, 0), states[i]);
        }
        Doc.promise(6, "1: its thread, 2: on whom, 3: by whom, 4: the DEED, 5: 1 if it promises it, 0 never, 6: until, "
            + "7: behind which it is told (NONE)");
        int[] threads = {7, 10, 2, 0, 98};
        for (int i = 0; i < 5; i++) {
            Due.is("button(" + i + ", 1)", x.button(i, 1), threads[i]);
            for (int what = 2; what < 8; what++) {
                Due.is("button(" + i + ", " + what + ")", x.button(i, what), AT_FIRST[i][what]);
            }
        }
        Doc.promise(6, "-2 if there is none such, or for another what.");
        for (int other : Due.beyond(5)) {
            Due.is("button(" + other + ", 0)", x.button(other, 0), -2);
            Due.is("button(" + other + ", 7)", x.button(other, 7), -2);
        }
        for (int what : Due.beyond(8)) {
            Due.is("button(0, " + what + ")", x.button(0, what), -2);
        }
        Due.is("of none at all", new OathButtons().button(0, 0), -2);
        OathButtons ten = Due.of(tenButtons());
        Due.is("the tenth", ten.button(9, 1), 19);
        Due.is("an eleventh", ten.button(10, 1), -2);
    }

    private static String tenButtons() {
        StringBuilder text = new StringBuilder(MEN);
        for (int i = 0; i < 10; i++) {
            text.append("button ").append((char) ('a' + i)).append(" on a by b does x thread ").append(10 + i).append(';');
        }
        return text.toString();
    }

    private static void coat() {
        OathButtons x = Due.of(TEXT + "button u on a by b does x;button v on a by d never x;");
        x.sew(3);
        x.does(0, 1);
        x.day();
        Doc.promise(7, "Of a MAN what 0: BUTTONS ON him");
        int[] on = {1 + 32 + 64, 4, 0, 16};
        for (int man = 0; man < 4; man++) {
            Due.is("coat(" + man + ", 0)", x.coat(man, 0), on[man]);
        }
        Doc.promise(7, "1: those by him that are ON");
        int[] by = {4 + 16, 1 + 32, 0, 64};
        for (int man = 0; man < 4; man++) {
            Due.is("coat(" + man + ", 1)", x.coat(man, 1), by[man]);
        }
        Doc.promise(7, "2: BROKEN ones that were on him");
        int[] broken = {2, 0, 0, 0};
        for (int man = 0; man < 4; man++) {
            Due.is("coat(" + man + ", 2)", x.coat(man, 2), broken[man]);
        }
        Doc.promise(7, "3: LOST ones, all as bits");
        int[] lost = {0, 0, 8, 0};
        for (int man = 0; man < 4; man++) {
            Due.is("coat(" + man + ", 3)", x.coat(man, 3), lost[man]);
        }
        Due.is("all ten", Due.of(tenButtons()).coat(0, 0), 1023);
        Due.is("all ten", Due.of(tenButtons()).coat(1, 1), 1023);
        Doc.promise(7, "NONE if there is none such, or for another what.");
        for (int man : Due.beyond(4)) {
            Due.is("coat(" + man + ", 0)", x.coat(man, 0), -1);
            Due.is("coat(" + man + ", 3)", x.coat(man, 3), -1);
        }
        for (int what : Due.beyond(4)) {
            Due.is("coat(0, " + what + ")", x.coat(0, what), -1);
        }
        Due.is("of none at all", new OathButtons().coat(0, 0), -1);
    }

    private static void free() {
        Doc.promise(8, "MEN who have no BUTTON ON them, as bits.");
        OathButtons x = Due.of(TEXT);
        Due.is("all have one", x.free(), 0);
        x.does(0, 0);
        Due.is("one of two is left", x.free(), 0);
        x.does(0, 1);
        Due.is("KEPT and BROKEN ones are not ON", x.free(), 1);
        x.day();
        Due.is("a LOST one is not ON", x.free(), 5);
        x.cut(2);
        Due.is("an UNDONE one is not ON", x.free(), 7);
        x.sew(3);
        Due.is("sewn anew", x.free(), 3);
        x = Due.of(MEN + "button p on b by a does x;button q on c by a does x;");
        Due.is("by the first BUTTON, and by the last", x.free(), 9);
        Due.is("six men with none", Due.of("man a;man b;man c;man d;man e;man f;").free(), 63);
        Due.is("of none at all", new OathButtons().free(), 0);
    }

    private static void sworn() {
        OathButtons x = Due.of(TEXT + "button u on d by a does x;button v on d by b does x;button w on c by b never x;");
        Doc.promise(9, "Of a DEED: MEN who have a BUTTON ON them that promises it (what 0), never to (1), as bits");
        Due.is("sworn(0, 0)", x.sworn(0, 0), 9);
        Due.is("sworn(0, 1)", x.sworn(0, 1), 6);
        Due.is("sworn(1, 0)", x.sworn(1, 0), 4);
        Due.is("sworn(1, 1)", x.sworn(1, 1), 1);
        Due.is("sworn(2, 0)", x.sworn(2, 0), 0);
        Due.is("sworn(2, 1)", x.sworn(2, 1), 8);
        x.undoes(5);
        Due.is("by another one still", x.sworn(0, 0), 9);
        x.does(3, 0);
        Due.is("not ON any more", x.sworn(0, 0), 1);
        Doc.promise(9, "NONE if there is none such, or for another what.");
        for (int deed : Due.beyond(3)) {
            Due.is("sworn(" + deed + ", 0)", x.sworn(deed, 0), -1);
            Due.is("sworn(" + deed + ", 1)", x.sworn(deed, 1), -1);
        }
        for (int what : Due.beyond(2)) {
            Due.is("sworn(0, " + what + ")", x.sworn(0, what), -1);
        }
        Due.is("of none at all", new OathButtons().sworn(0, 0), -1);
    }

    private static void many() {
        Doc.promise(10, "How many BUTTONS are so (0 .. 4, as button() tells them)");
        OathButtons x = Due.of(TEXT);
        int[] first = {5, 0, 0, 0, 0};
        int[] then = {1, 1, 1, 1, 1};
        OathButtons y = mixed();
        for (int state = 0; state < 5; state++) {
            Due.is("many(" + state + ")", x.many(state), first[state]);
            Due.is("then many(" + state + ")", y.many(state), then[state]);
        }
        Due.is("ten", Due.of(tenButtons()).many(0), 10);
        Due.is("of none at all", new OathButtons().many(0), 0);
        Doc.promise(10, "NONE for another number.");
        for (int state : Due.beyond(5)) {
            Due.is("many(" + state + ")", x.many(state), -1);
        }
    }

    private static void ties() {
        OathButtons x = Due.of(TEXT + "button u on a by b never z;");
        Doc.promise(20, "BUTTONS ON a MAN by another one, as bits");
        int[][] want = {{-1, 33, 2, 0}, {4, -1, 0, 0}, {8, 0, -1, 0}, {16, 0, 0, -1}};
        for (int man = 0; man < 4; man++) {
            for (int other = 0; other < 4; other++) {
                Due.is("ties(" + man + ", " + other + ")", x.ties(man, other), want[man][other]);
            }
        }
        x.does(0, 0);
        Due.is("a KEPT one is not ON", x.ties(0, 1), 32);
        Due.is("all ten", Due.of(tenButtons()).ties(0, 1), 1023);
        Doc.promise(20, "NONE if one can't be (the same one twice, too).");
        for (int man : Due.beyond(4)) {
            Due.is("ties(" + man + ", 0)", x.ties(man, 0), -1);
            Due.is("ties(0, " + man + ")", x.ties(0, man), -1);
            Due.is("ties(" + man + ", " + man + ")", x.ties(man, man), -1);
        }
        Due.is("of none at all", new OathButtons().ties(0, 1), -1);
    }

    private static void likes() {
        OathButtons x = Due.of(MEN + "friend c a -9;friend a b 0;friend d c 9;");
        Doc.promise(30, "What two MEN are told to be worth to one another");
        int none = -100;
        int[][] want = {{none, 0, -9, none}, {0, none, none, none}, {-9, none, none, 9}, {none, none, 9, none}};
        for (int man = 0; man < 4; man++) {
            for (int other = 0; other < 4; other++) {
                Due.is("likes(" + man + ", " + other + ")", x.likes(man, other), want[man][other]);
            }
        }
        Doc.promise(30, "-100 if that is not told, or one can't be.");
        Due.is("not told", x.likes(1, 3), -100);
        Due.is("the same one twice", x.likes(2, 2), -100);
        for (int man : Due.beyond(4)) {
            Due.is("likes(" + man + ", 0)", x.likes(man, 0), -100);
            Due.is("likes(0, " + man + ")", x.likes(0, man), -100);
            Due.is("likes(" + man + ", " + man + ")", x.likes(man, man), -100);
        }
        Due.is("of none at all", new OathButtons().likes(0, 0), -100);
    }

    private static void lies() {
        OathButtons x = Due.of(MEN + "friend b c 3;button p on a by b does z;button q on a by b does x;");
        Doc.promise(31, "The i-th number of what lies there");
        x.truce();
        int[] want = {-1, 2, 1, -1};
        for (int i = 0; i < 4; i++) {
            Due.is("lies(" + i + ")", x.lies(i), want[i]);
        }
        Doc.promise(31, "-2 if there is none such.");
        for (int i : Due.beyond(4)) {
            Due.is("lies(" + i + ") of 4", x.lies(i), -2);
        }
        x.keep(0, 0);
        Due.lies(x, "fewer lie there then", 0, 2);
        Due.is("what lay there is gone", x.lies(3), -2);
        Due.is("of none at all", new OathButtons().lies(0), -2);
    }

    private static void about() {
        OathButtons x = Due.of(TEXT + "friend c a -4;friend a b 1;day 6;draw 12;wear thread>0 and(1);");
        x.day();
        x.cut(0);
        x.cut(1);
        x.does(1, 1);
        x.undo();
        x.undo();
        x.tug(0, 0, true);
        x.tug(1, 1, false);
        x.tug(1, 1, false);
        x.untell(0);
        x.later(9);
        x.later(8);
        x.calm();
        x.feed(0, 0, 0, 0, 0);
        x.end(19);
        Doc.promise(39, "What 0: BUTTONS, 1: MEN, 2: DEEDS, 3: FRIENDS, 4: the DAY, 5: the SEED, 6: how many were CUT, "
            + "7: HOURS of a DAY, 8: ACTS that can be undone, 9: redone, 10: TUGS, 11: the TIME, 12: bytes on the TAPE, 13: units, "
            + "14: how many lie there.");
        int[] want = {5, 4, 3, 2, 1, (12 * 137 + 71) % 1000, 1, 6, 2, 2, 3, 17, 19, 4, 4};
        for (int what = 0; what < want.length; what++) {
            Due.is("about(" + what + ")", x.about(what), want[what]);
        }
        Doc.promise(39, "NONE for another what.");
        for (int what : Due.beyond(15)) {
            Due.is("about(" + what + ")", x.about(what), -1);
        }
    }
}
