/** Promises 18, 19 and 21 to 23: what can be kept, and what must be undone ahead of a deed. */
final class KeepEdges {
    private static final String MEN = "man a;man b;man c;";

    private KeepEdges() { }

    static void run() {
        nothingIsDone();
        oneBehindTheOther();
        neverToDo();
        whatIsKept();
        likeOnes();
        keepAnswers();
        rest();
        clash();
        clashAnswers();
        leave();
        leaveAnswers();
        asked();
    }

    private static OathButtons told(String lines) {
        return Due.of(MEN + lines);
    }

    private static void keeps(String call, OathButtons x, int hours, int bits, int... order) {
        Due.is(call + ": keep(0, 0)", x.keep(0, 0), Integer.bitCount(bits));
        Due.is(call + ": keep(0, 1)", x.keep(0, 1), hours);
        Due.is(call + ": keep(0, 2)", x.keep(0, 2), bits);
        Due.lies(x, call, order);
    }

    private static void keeps(String call, String lines, int hours, int bits, int... order) {
        keeps(call, told(lines), hours, bits, order);
    }

    private static void nothingIsDone() {
        OathButtons x = told("deed x hours 5;deed y hours 9;button p on a by b does x until 2 thread 2;button q on a by c never y;"
            + "button r on a by b does y after q;friend a b 1;storm 50;wear 1+storm;");
        x.day();
        x.cut(2);
        x.undo();
        x.truce();
        String before = Due.seen(x);
        Doc.terms(18, "(By what is now; nothing is done.)");
        x.rest(0);
        x.clash(0, 0);
        x.clash(0, 1);
        x.asked(0, 1);
        x.holds(0, 60, 1);
        x.odds(0, 6, 0);
        x.first(0);
        x.will(0, 60);
        Due.same("what lays nothing there", x, before);
        x.keep(0, 0);
        x.leave(0, 1);
        x.calm();
        x.truce();
        Due.same("what lays something there", x, before);
        Due.is("redo() stays", x.redo(), true);
        Due.is("r is CUT, q is ON", x.keep(0, 2), 1);
        x.undoes(1);
        Due.is("r is CUT, q is UNDONE", x.keep(0, 2), 1);
        x.undo();
        x.undo();
        Due.is("both are ON", x.keep(0, 2), 1);
        x.undoes(1);
        Due.is("q is UNDONE", x.keep(0, 2), 5);
    }

    private static void oneBehindTheOther() {
        Doc.terms(18, "KEEP of a MAN: an order of unlike DEEDS, one behind the other, the first from the beginning of the DAY on,");
        String two = "deed x hours 8;deed y hours 8;button p on a by b does x until 1;button q on a by b does y until 1;";
        keeps("16 HOURS are in two DAYS", two, 16, 3, 0, 1);
        keeps("17 are not", two.replace("y hours 8", "y hours 9"), 8, 1, 0);
        OathButtons x = told(two);
        x.day();
        keeps("from the DAY on that is now", x, 8, 1, 0);
        keeps("they go on from one DAY into the next", "day 6;deed x hours 5;deed y hours 7;"
            + "button p on a by b does x until 1;button q on a by b does y until 1;", 12, 3, 0, 1);
        // A deed of 8 hours fills a day, but it can be done once only; one of 16 fills two.
        String wait = "deed w hours 8;deed x hours 1;button p on a by b does x;button q on a by c never x until 1;";
        keeps("unlike", wait, 0, 0);
        keeps("one that is long enough", wait.replace("w hours 8", "w hours 16"), 17, 1, 0, 1);
        Doc.terms(18, "each done in the DAY in which its last HOUR is,");
        String one = "deed x hours 24;button p on a by b does x until 2;";
        keeps("the last HOUR of DAY 2", one, 24, 1, 0);
        keeps("an HOUR of DAY 3", one + "day 7;", 0, 0);
        keeps("24 DAYS of an HOUR", "day 1;" + one.replace("until 2", "until 23"), 24, 1, 0);
        keeps("one DAY less", "day 1;" + one.replace("until 2", "until 22"), 0, 0);
        keeps("a DAY of 24 HOURS", "day 24;deed y hours 24;" + one.replace("until 2", "until 1;button q on a by b does y until 1"),
            48, 3, 0, 1);
    }

    private static void neverToDo() {
        Doc.terms(18, "none that a BUTTON ON him promises never to do whose until is that DAY or later;");
        String first = "deed x hours 1;button p on a by b does x;button q on a by c never x";
        keeps("till the end", first + ";", 0, 0);
        keeps("on its first DAY", first + " until 1;", 0, 0);
        OathButtons x = told(first + " until 1;");
        x.day();
        keeps("its until is that DAY", x, 0, 0);
        x.day();
        keeps("its until is ahead of that DAY", x, 1, 1, 0);
        keeps("another man's", first.replace("q on a", "q on b") + ";", 1, 1, 0);
        keeps("another deed", "deed y hours 1;" + first.replace("never x", "never y") + ";", 1, 1, 1);
        x = told(first + ";");
        x.undoes(1);
        keeps("one that is not ON", x, 1, 1, 0);
        // 17 hours end in day 2, though they begin in day 0.
        String begun = "deed x hours 17;button p on a by b does x;button q on a by c never x until 1;";
        keeps("begun ahead, but not done", begun, 17, 1, 0);
        keeps("done in it", begun.replace("hours 17", "hours 16"), 0, 0);
        // x can be done only behind w, which keeps nothing itself.
        String between = "deed w hours 16;deed x hours 1;button p on a by b does x;button q on a by c never x until 1;"
            + "button r on a by c never ";
        keeps("a DEED that goes between, too", between + "w;", 0, 0);
        keeps("on the DAY in which its last HOUR is", between + "w until 1;", 0, 0);
        keeps("behind its until", between.replace("hours 16", "hours 17") + "w until 1;", 18, 1, 0, 1);
        keeps("another one that goes between", "deed v hours 24;" + between + "w;", 25, 1, 0, 2);
        x = told("deed x hours 1;button p on a by b does x;button q on a by c never x until 1 thread 2;");
        x.day();
        x.day();
        x.sew(1);
        keeps("sewn anew behind its until", x, 1, 1, 0);
    }

    private static void whatIsKept() {
        Doc.terms(18, "by it those BUTTONS ON him are kept that promise one of these, and whose until is not ahead of its DAY: the most;");
        keeps("its until is that DAY, or later", "deed x hours 24;button p on a by b does x until 1;button q on a by b does x until 2;"
            + "button r on a by c does x until 3;", 24, 6, 0);
        keeps("on another man", "deed x hours 1;button p on b by a does x;", 0, 0);
        keeps("one that never does is not kept", "deed x hours 17;button p on a by b does x;button q on a by b never x until 1;", 17, 1, 0);
        OathButtons x = told("deed x hours 1;button p on a by b does x;button q on a by c does x;button r on a by c does x thread 1;");
        x.cut(0);
        x.day();
        keeps("one that is not ON", x, 1, 2, 0);
        keeps("the shorter until ahead", "deed x hours 16;deed y hours 8;button p on a by b does x until 2;"
            + "button q on a by b does y until 1;", 24, 3, 1, 0);
        keeps("two by one rather than one", "day 1;deed x hours 2;deed y hours 2;button p on a by b does x until 1;"
            + "button q on a by b does y until 1;button r on a by b does y until 1;", 2, 6, 1);
        StringBuilder six = new StringBuilder("day 24;");
        for (int i = 0; i < 6; i++) {
            six.append("deed ").append((char) ('p' + i)).append(" hours 24;");
        }
        for (int i = 0; i < 6; i++) {
            six.append("button ").append((char) ('p' + i)).append(" on a by b does ").append((char) ('p' + i));
            six.append(" until ").append(i == 0 ? 5 : Math.max(1, 5 - i)).append(';');
        }
        keeps("six, from the last on", six.toString(), 144, 63, 4, 5, 3, 2, 1, 0);
        StringBuilder ten = new StringBuilder("deed x hours 1;");
        for (int i = 0; i < 10; i++) {
            ten.append("button ").append((char) ('a' + i)).append(" on a by b does x;");
        }
        keeps("ten by one", ten.toString(), 1, 1023, 0);
    }

    private static void likeOnes() {
        Doc.terms(18, "of like ones the fewest HOURS; of like ones the first (DEED by DEED).");
        String few = "day 5;deed x hours 4;deed y hours 9;deed z hours 4;button p on a by b does x until 1;"
            + "button q on a by b does y until 1;button r on a by b does y until 1;button s on a by b does z until 1;";
        keeps("two of 4 HOURS rather than one of 9", few, 8, 9, 0, 2);
        keeps("one of 7 rather than two of 4", few.replace("hours 9", "hours 7"), 7, 6, 1);
        keeps("of 8 each, the first", few.replace("hours 9", "hours 8"), 8, 9, 0, 2);
        keeps("of 8 each, the first", few.replace("does x until", "does v until").replace("deed x hours 4;deed y hours 9;deed z hours 4;",
            "deed y hours 8;deed v hours 4;deed z hours 4;"), 8, 6, 0);
        keeps("none that keeps nothing", "deed w hours 1;deed x hours 2;deed y hours 1;button p on a by b does x;", 2, 1, 1);
        keeps("all of three, by number", "deed x hours 2;deed y hours 3;deed z hours 4;button p on a by b does z;"
            + "button q on a by b does y;button r on a by b does x;", 9, 7, 0, 1, 2);
        keeps("by number as far as can be", "deed x hours 8;deed y hours 8;deed z hours 8;button p on a by b does x until 2;"
            + "button q on a by b does y until 2;button r on a by b does z until 1;", 24, 7, 0, 2, 1);
        keeps("of two that are like, the first", "day 1;deed x hours 3;deed y hours 3;button p on a by b does y until 3;"
            + "button q on a by b does x until 3;", 3, 2, 0);
    }

    private static void keepAnswers() {
        OathButtons x = told("deed x hours 5;deed y hours 3;button p on b by a does y;button q on b by a does x;button r on b by c does x;");
        Doc.promise(18, "KEEP what 0: how many, 1: HOURS together, 2: which BUTTONS, as bits;");
        Due.is("keep(1, 0)", x.keep(1, 0), 3);
        Due.is("keep(1, 1)", x.keep(1, 1), 8);
        Due.is("keep(1, 2)", x.keep(1, 2), 7);
        Due.is("nothing can be: keep(0, 0)", x.keep(0, 0), 0);
        Due.is("nothing can be: keep(0, 1)", x.keep(0, 1), 0);
        Due.is("nothing can be: keep(0, 2)", x.keep(0, 2), 0);
        Due.is("no DEEDS: keep(0, 0)", Due.of("man a;").keep(0, 0), 0);
        Doc.promise(18, "The DEEDS lie there then, in their order (behind NONE: nothing).");
        x.keep(1, 0);
        Due.lies(x, "keep(1, 0)", 0, 1);
        x.keep(0, 0);
        Due.lies(x, "keep(0, 0), by none");
        x.truce();
        x.keep(3, 0);
        Due.lies(x, "keep(3, 0)");
        x.truce();
        x.keep(1, 3);
        Due.lies(x, "keep(1, 3)");
        Doc.promise(18, "NONE if one can't be.");
        for (int other : Due.beyond(3)) {
            Due.is("keep(" + other + ", 0)", x.keep(other, 0), -1);
            Due.is("keep(1, " + other + ")", x.keep(1, other), -1);
            Due.lies(x, "behind NONE");
        }
        Due.is("of none at all", new OathButtons().keep(0, 0), -1);
    }

    private static void rest() {
        Doc.terms(19, "REST of a MAN: the most DAYS (60 at most) by which it can begin later, so that as many at least are kept "
            + "(BUTTONS as they are now).");
        String one = "deed x hours 8;button p on a by b does x until 9;";
        Due.is("till its until", told(one).rest(0), 9);
        Due.is("an HOUR more, a DAY less", told(one.replace("hours 8", "hours 9")).rest(0), 8);
        OathButtons x = told(one);
        for (int day = 0; day < 4; day++) {
            x.day();
        }
        Due.is("from the DAY on that is now", x.rest(0), 5);
        Due.is("60", told("deed x hours 8;button p on a by b does x;").rest(0), 60);
        Due.is("59", told("deed x hours 8;button p on a by b does x until 59;").rest(0), 59);
        Due.is("59", told("deed x hours 9;button p on a by b does x;").rest(0), 59);
        Due.is("1", told("deed x hours 8;button p on a by b does x until 1;").rest(0), 1);
        Due.is("0", told("deed x hours 9;button p on a by b does x until 1;").rest(0), 0);
        Due.is("nothing ON him", told(one).rest(1), 60);
        Due.is("none can be kept now", told("deed x hours 24;button p on a by b does x until 1;").rest(0), 60);
        Due.is("nor later", told("deed x hours 1;button p on a by b does x;button q on a by b never x;").rest(0), 60);
        String two = "deed x hours 8;deed y hours 8;button p on a by b does x until 9;button q on a by b does y until 20;";
        Due.is("both, in the order that is the latest", told(two).rest(0), 9);
        Due.is("both, in the order that is the latest", told(two.replace("until 9", "until 20").replace("until 20;b", "until 21;b")).rest(0), 20);
        String never = "deed x hours 1;deed y hours 1;button p on a by b does x until 2;button q on a by b does y until 20;"
            + "button r on a by b never y until 10;";
        Due.is("fewer on the way", told(never).rest(0), 20);
        Due.is("more are as many at least", told(never.replace("until 2;", "until 15;")).rest(0), 20);
        Due.is("another one is as good", told("deed x hours 1;deed y hours 1;button p on a by b does x until 2;"
            + "button q on a by b does x until 2;button r on a by b does y until 30;").rest(0), 2);
        Due.is("as many, if by more HOURS", told("deed x hours 1;deed y hours 5;button p on a by b does x until 2;"
            + "button q on a by b does y until 30;button r on a by b never y until 2;").rest(0), 30);
        Due.is("as many, by one DEED for another", told("deed x hours 2;deed y hours 5;day 5;button p on a by b does x until 1;"
            + "button q on a by b does y until 7;button r on a by b never y until 1;").rest(0), 7);
        // A thread that would not hold so long is as it is now.
        Due.is("as they are now: LOST by then", told("deed x hours 1;button p on a by b does x until 30 thread 1;").rest(0), 30);
        Due.is("as they are now: never, LOST by then", told("deed x hours 1;deed y hours 1;button p on a by b does x until 50;"
            + "button q on a by b never x thread 1;button r on a by b does y until 5;").rest(0), 5);
        x = told(one);
        x.cut(0);
        Due.is("one that is not ON", x.rest(0), 60);
        Doc.promise(19, "REST; NONE if there is no such MAN.");
        Due.is("rest(0)", told(one).rest(0), 9);
        x.keep(0, 0);
        x.truce();
        for (int man : Due.beyond(3)) {
            Due.is("rest(" + man + ")", x.rest(man), -1);
        }
        Due.lies(x, "what lies there stays", -1, -1, -1);
        Due.is("of none at all", new OathButtons().rest(0), -1);
    }

    private static void clashes(String call, OathButtons x, int bits) {
        Due.is(call + ": clash(0, 0)", x.clash(0, 0), bits < 0 ? -1 : Integer.bitCount(bits));
        Due.is(call + ": clash(0, 1)", x.clash(0, 1), bits);
    }

    private static void clash() {
        Doc.terms(21, "CLASH of a MAN: the smallest set of BUTTONS ON him that promise a DEED of which no such order keeps all; "
            + "of like ones the least set as bits.");
        String days = "day 1;deed x hours 1;deed y hours 1;deed z hours 1;deed w hours 1;";
        String three = days + "button p on a by b does x until 1;button q on a by b does y until 1;button r on a by b does z until 1;";
        clashes("three in two DAYS", told(three), 7);
        clashes("three of four in two DAYS", told(three + "button s on a by b does w until 1;"), 7);
        clashes("the others have time", told(three.replace("x until 1", "x until 9") + "button s on a by b does w until 1;"), 14);
        clashes("three of ten in one", told("day 24;deed x hours 24;deed y hours 24;deed z hours 24;" + "button p on a by b does x;"
            + "button q on a by b does x until 1;button r on a by b does y until 1;button s on a by b does z;"
            + "button t on a by b does z until 1;"), 2 + 4 + 16);
        clashes("two rather than three", told("day 2;deed x hours 1;deed y hours 1;deed z hours 3;deed w hours 3;"
            + "button p on a by b does x until 1;button q on a by b does y until 1;button r on a by b does z until 1;"
            + "button s on a by b does w until 1;"), 12);
        clashes("of two the least as bits", told("day 1;deed x hours 1;deed y hours 2;deed z hours 2;"
            + "button p on a by b does z until 1;button q on a by b does x until 1;button r on a by b does y until 1;"), 3);
        clashes("one alone", told("deed x hours 24;button p on a by b does x until 1;"), 1);
        clashes("one alone rather than two", told(three + "button s on a by c does w;button t on a by b never w;"), 8);
        clashes("of two alone the least", told("deed x hours 1;button p on a by b does x;button q on a by b does x;"
            + "button r on a by b never x;"), 1);
        OathButtons x = told(three);
        x.cut(1);
        clashes("one that is not ON", x, -1);
        x = told(three);
        clashes("on DAY 0", x, 7);
        x.day();
        clashes("by the DAY that is now", x, 3);
        clashes("on another man", told(three.replace("q on a", "q on c")), -1);
        clashes("those that never do are in no set", told(days + "button p on a by b never x;button q on a by b never y;"), -1);
        clashes("a DEED that none promises may go between", told("day 4;deed x hours 2;deed w hours 8;button p on a by b does x;"
            + "button q on a by c never x until 1;"), -1);
        clashes("but none that he promises never to do", told("day 4;deed x hours 2;deed w hours 8;button p on a by b does x;"
            + "button q on a by c never x until 1;button r on a by c never w until 1;"), 1);
        clashes("but not long enough", told("day 4;deed x hours 2;deed w hours 6;button p on a by b does x;"
            + "button q on a by c never x until 1;"), 1);
        x = told("day 8;deed x hours 8;deed y hours 8;button p on b by c does x;button q on b by c does y;button r on b by c never x;"
            + "button s on a by b does x until 1;button t on a by b does y until 1;button u on a by b does x until 1;");
        clashes("all can be at first", x, -1);
        x.day();
        clashes("two of like late ones behind a DAY", x, 24);
        x.undo();
        clashes("all can be again", x, -1);
        x.day();
        Due.is("another MAN, asked between", x.clash(1, 1), 1);
        clashes("and again not", x, 24);
        x = told("deed x hours 1;button p on a by b does x until 1 thread 2;");
        x.day();
        x.day();
        x.sew(0);
        clashes("sewn anew behind its until", x, 1);
        StringBuilder ten = new StringBuilder("day 24;");
        for (int i = 0; i < 6; i++) {
            ten.append("deed ").append((char) ('p' + i)).append(" hours 24;");
        }
        for (int i = 0; i < 10; i++) {
            ten.append("button ").append((char) ('a' + i)).append(" on a by b does ").append((char) ('p' + (i < 5 ? 0 : i - 4)));
            ten.append(" until ").append(i < 5 ? 60 : 4).append(';');
        }
        clashes("ten, all can be", told(ten.toString()), -1);
        clashes("ten, six of which can't be", told(ten.toString().replace("p until 60", "p until 4")), 1 + (31 << 5));
    }

    private static void clashAnswers() {
        String two = "day 12;deed x hours 24;deed y hours 24;button p on c by b does x;button q on b by a does x until 1;"
            + "button r on b by c does y until 1;";
        Doc.promise(21, "CLASH what 0: how many, 1: which, as bits;");
        OathButtons x = told(two);
        Due.is("clash(1, 0)", x.clash(1, 0), 2);
        Due.is("clash(1, 1)", x.clash(1, 1), 6);
        Doc.promise(21, "NONE if all can be kept, or one can't be.");
        Due.is("all can be: clash(2, 0)", x.clash(2, 0), -1);
        Due.is("all can be: clash(2, 1)", x.clash(2, 1), -1);
        Due.is("nothing ON him: clash(0, 0)", x.clash(0, 0), -1);
        Due.is("nothing ON him: clash(0, 1)", x.clash(0, 1), -1);
        x.truce();
        for (int man : Due.beyond(3)) {
            Due.is("clash(" + man + ", 0)", x.clash(man, 0), -1);
            Due.is("clash(" + man + ", 1)", x.clash(man, 1), -1);
        }
        for (int what : Due.beyond(2)) {
            Due.is("clash(1, " + what + ")", x.clash(1, what), -1);
        }
        Due.lies(x, "what lies there stays", -1, -1, -1);
        Due.is("of none at all", new OathButtons().clash(0, 0), -1);
    }

    private static final String ROW = "deed x hours 1;deed y hours 1;"
        + "button a on c by b does y until 1;"
        + "button b on b by c never x until 3 after a;"
        + "button c on b by a does y after b;"
        + "button d on a by b never x until 1 thread 2 after c;"
        + "button e on a by b never y after a;"
        + "button f on a by b does x;"
        + "button g on a by c never x until 2;";

    private static void leaves(String call, OathButtons x, int man, int deed, int... row) {
        Due.is(call + ": leave(" + man + ", " + deed + ")", x.leave(man, deed), row.length);
        Due.lies(x, call, row);
    }

    private static void leave() {
        Doc.terms(22, "LEAVE for a MAN to do a DEED now: BUTTONS ON him that promise never to, whose until is the DAY or later, and, "
            + "again and again, those ON that are told to be undone ahead of these; one by one, each behind those: "
            + "the first that can be, by number.");
        OathButtons x = told(ROW);
        leaves("of two rows", x, 0, 0, 0, 1, 2, 3, 6);
        leaves("of another DEED", x, 0, 1, 0, 4);
        leaves("of another MAN", x, 1, 0, 0, 1);
        leaves("what he promises to do is none", x, 2, 1);
        leaves("none", x, 1, 1);
        x.cut(1);
        leaves("what is not ON ends the row", x, 0, 0, 2, 3, 6);
        x.cut(3);
        leaves("and begins none", x, 0, 0, 6);
        x.undo();
        x.undo();
        for (int i : new int[] {0, 1, 2, 3, 6}) {
            Due.is("undoes(" + i + ") in that order", x.undoes(i), true);
        }
        leaves("all of them are undone", x, 0, 0);
        x = told(ROW);
        x.day();
        leaves("until is the DAY", x, 0, 0, 0, 1, 2, 3, 6);
        x.day();
        Due.is("LOST", x.button(3, 0), 4);
        Due.is("BROKEN", x.button(0, 0), 3);
        leaves("until is the DAY, the other is LOST", x, 0, 0, 6);
        x.sew(3);
        leaves("until is ahead of the DAY, though it is sewn anew", x, 0, 0, 6);
        leaves("the first by itself", told("deed x hours 1;button a on b by a never x;"), 1, 0, 0);
        x = told("deed x hours 1;button a on b by a does x until 1 thread 2;button b on a by b never x after a;");
        x.day();
        x.day();
        x.sew(0);
        leaves("of those ahead no until is asked", x, 0, 0, 0, 1);
        StringBuilder ten = new StringBuilder("deed x hours 1;");
        for (int i = 0; i < 10; i++) {
            ten.append("button ").append((char) ('a' + i)).append(i < 9 ? " on b by a does x" : " on a by b never x");
            ten.append(i == 0 ? ";" : " after " + (char) ('a' + i - 1) + ";");
        }
        leaves("ten, one behind the other", told(ten.toString()), 0, 0, 0, 1, 2, 3, 4, 5, 6, 7, 8, 9);
        leaves("two behind one", told("deed x hours 1;button a on b by c does x;button b on c by b does x;"
            + "button c on a by b never x after b;button d on a by c never x after b;"), 0, 0, 1, 2, 3);
    }

    private static void leaveAnswers() {
        OathButtons x = told(ROW);
        Doc.promise(22, "LEAVE: how many BUTTONS;");
        Due.is("leave(0, 0)", x.leave(0, 0), 5);
        Due.is("leave(2, 0)", x.leave(2, 0), 0);
        Doc.promise(22, "They lie there then, one behind the other (behind NONE: nothing).");
        x.leave(0, 1);
        Due.lies(x, "leave(0, 1)", 0, 4);
        x.leave(2, 0);
        Due.lies(x, "leave(2, 0)");
        x.leave(0, 1);
        Doc.promise(22, "NONE if one can't be.");
        for (int man : Due.beyond(3)) {
            x.truce();
            Due.is("leave(" + man + ", 0)", x.leave(man, 0), -1);
            Due.lies(x, "behind NONE");
        }
        for (int deed : Due.beyond(2)) {
            x.truce();
            Due.is("leave(0, " + deed + ")", x.leave(0, deed), -1);
            Due.lies(x, "behind NONE");
        }
        Due.is("of none at all", new OathButtons().leave(0, 0), -1);
    }

    private static void asked() {
        OathButtons x = told(ROW);
        x.truce();
        Doc.promise(23, "MEN who must be asked for that: by whom a BUTTON of LEAVE is, as bits;");
        Due.is("all three", x.asked(0, 0), 7);
        Due.is("one of them twice", x.asked(0, 1), 2);
        Due.is("two", x.asked(1, 0), 6);
        Due.is("none", x.asked(2, 0), 0);
        x.cut(2);
        Due.is("the row ends there", x.asked(0, 0), 6);
        Doc.promise(23, "NONE if one can't be.");
        for (int man : Due.beyond(3)) {
            Due.is("asked(" + man + ", 0)", x.asked(man, 0), -1);
        }
        for (int deed : Due.beyond(2)) {
            Due.is("asked(0, " + deed + ")", x.asked(0, deed), -1);
        }
        Due.lies(x, "what lies there stays", -1, -1, -1);
        Due.is("of none at all", new OathButtons().asked(0, 0), -1);
    }
}
