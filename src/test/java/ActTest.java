/** Promises 11 to 17, 37 and 38: acts, taking them back, images. */
public final class ActTest {
    private static final String MEN = "man a;man b holes 3;man c;deed x hours 5;deed y hours 6;";
    private static final String TEXT = MEN
        + "button p on a by b does x until 2;"
        + "button q on a by c never x until 2;"
        + "button r on a by c does y thread 3 after q;"
        + "button s on b by a does x;";

    public static void main(String[] args) {
        does();
        undoes();
        cut();
        sew();
        dayWearsAndEnds();
        dayStorms();
        dayLimit();
        undoAndRedo();
        fortyActs();
        boxes();
        Due.endTest();
    }

    private static void does() {
        OathButtons x = Due.of(TEXT);
        Due.is("does(0, 0)", x.does(0, 0), 101);
        Due.is("kept", x.button(0, 0), 1);
        Due.is("broken", x.button(1, 0), 3);
        Due.is("another deed's", x.button(2, 0), 0);
        Due.is("another man's", x.button(3, 0), 0);
        Due.is("again", x.does(0, 0), 0);
        Due.is("it is an act all the same", x.about(8), 2);
        Due.is("does(3, 0)", x.does(3, 0), -1);
        Due.is("does(0, 2)", x.does(0, 2), -1);
        Due.is("does(-1, 0)", x.does(-1, 0), -1);
        Due.is("does(0, -1)", x.does(0, -1), -1);
        Due.is("what can't be is no act", x.about(8), 2);
        StringBuilder text = new StringBuilder(MEN);
        for (char name = 'a'; name < 'k'; name++) {
            text.append("button ").append(name).append(" on a by b ").append(name < 'h' ? "does" : "never").append(" y;");
        }
        Due.is("ten at once", Due.of(text.toString()).does(0, 1), 703);
    }

    private static void undoes() {
        OathButtons x = Due.of(TEXT);
        Due.is("undoes(2) waits", x.undoes(2), false);
        Due.is("undoes(4)", x.undoes(4), false);
        Due.is("undoes(-1)", x.undoes(-1), false);
        Due.is("no act", x.about(8), 0);
        Due.is("undoes(1)", x.undoes(1), true);
        Due.is("undoes(1) again", x.undoes(1), false);
        Due.is("undoes(2)", x.undoes(2), true);
        Due.is("undone", x.button(2, 0), 2);
        Due.is("acts", x.about(8), 2);
        x = Due.of(TEXT);
        x.does(0, 0);
        Due.is("behind a broken one", x.undoes(2), true);
        Due.is("a kept one", x.undoes(0), false);
    }

    private static void cut() {
        OathButtons x = Due.of(TEXT);
        Due.is("cut(4)", x.cut(4), -1);
        Due.is("cut(-1)", x.cut(-1), -1);
        Due.is("cut(2), though it waits", x.cut(2), 1);
        Due.is("cut(2) again", x.cut(2), -1);
        Due.is("undone", x.button(2, 0), 2);
        Due.is("cut(0)", x.cut(0), 2);
        Due.is("about(6)", x.about(6), 2);
        x.undo();
        Due.is("about(6)", x.about(6), 1);
        Due.is("cut(3)", x.cut(3), 2);
        Due.is("cut(1)", x.cut(1), 3);
        Due.is("acts", x.about(8), 3);
        Due.is("cut(0), the fourth", x.cut(0), -1);
        Due.is("it stays on", x.button(0, 0), 0);
        Due.is("no act", x.about(8), 3);
    }

    private static void sew() {
        OathButtons x = Due.of(TEXT);
        x.day();
        x.day();
        Due.is("sew(2)", x.sew(2), 1);
        Due.is("thread", x.button(2, 1), 3);
        x.day();
        x.day();
        Due.is("lost", x.day(), 1);
        Due.is("LOST", x.button(2, 0), 4);
        Due.is("sew(2)", x.sew(2), 0);
        Due.is("ON", x.button(2, 0), 0);
        Due.is("thread", x.button(2, 1), 3);
        int acts = x.about(8);
        Due.is("sew(0), broken", x.sew(0), -1);
        Due.is("sew(1), kept", x.sew(1), -1);
        x.undoes(2);
        Due.is("sew(2), undone", x.sew(2), -1);
        Due.is("sew(4)", x.sew(4), -1);
        Due.is("sew(-1)", x.sew(-1), -1);
        Due.is("acts", x.about(8), acts + 1);
        // Sewn anew behind its day, it is on till the next day ends.
        x = Due.of(MEN + "button p on a by b does x until 1 thread 1;");
        x.day();
        x.day();
        Due.is("sew(0)", x.sew(0), 0);
        Due.is("on", x.button(0, 0), 0);
        Due.is("a deed that comes too late is kept all the same", x.does(0, 0), 100);
    }

    private static void dayWearsAndEnds() {
        OathButtons x = Due.of(TEXT);
        Due.is("day()", x.day(), 0);
        Due.is("about(4)", x.about(4), 1);
        Due.is("1 without wear", x.button(0, 1), 9);
        x.day();
        Due.is("until the day itself", x.button(0, 0), 0);
        Due.is("day()", x.day(), 1);
        Due.is("a deed not done", x.button(0, 0), 3);
        Due.is("a deed never done", x.button(1, 0), 1);
        Due.is("lost", x.button(2, 0), 4);
        Due.is("coat(0, 2)", x.coat(0, 2), 1);
        Due.is("coat(0, 3)", x.coat(0, 3), 4);
        Due.is("thread stays when it is off", x.button(0, 1), 7);
        x.day();
        Due.is("thread stays when it is off", x.button(0, 1), 7);
        // Lost goes ahead of broken in one day.
        x = Due.of(MEN + "button p on a by b does x until 1 thread 2;button q on a by b never x until 1 thread 3;");
        x.day();
        Due.is("day()", x.day(), 1);
        Due.is("lost", x.button(0, 0), 4);
        Due.is("kept", x.button(1, 0), 1);
        // Below 0 nothing is lost; above all of it, all.
        Due.is("below 0", wornOnce("wear 0-5;"), 10);
        Due.is("0", wornOnce("wear 0;"), 10);
        Due.is("all", wornOnce("wear 10;"), 0);
        Due.is("above all", wornOnce("wear 9999;"), 0);
        Due.is("wrapped below 0", wornOnce("wear 9999*9999*9999*9999;"), 10 - clamp(9999 * 9999 * 9999 * 9999));
        Due.is("holes of him by whom it is", wornOnce("wear holes;"), 7);
        Due.is("day", wornOnce("wear day+2;"), 8);
        Due.is("thread", wornOnce("wear thread/2;"), 5);
    }

    private static int clamp(int loss) {
        return Math.max(0, Math.min(10, loss));
    }

    private static int wornOnce(String wear) {
        OathButtons x = Due.of(MEN + "button p on a by b does x;" + wear);
        x.day();
        return x.button(0, 1);
    }

    private static void dayStorms() {
        OathButtons x = Due.of(MEN + "button p on a by b does x thread 99;wear storm;storm 50;draw 500;");
        int seed = 500;
        int thread = 99;
        for (int i = 0; i < 60; i++) {
            seed = (seed * 137 + 71) % 1000;
            thread -= seed % 100 < 50 ? 1 : 0;
            x.day();
            Due.is("seed", x.about(5), seed);
            Due.is("thread", x.button(0, 1), thread);
        }
        Due.is("storm 0", stormsOnce(0, 0), 0);
        // 17 * 137 + 71 = 2400: the rest is 0, which storms by storm 1 only.
        Due.is("storm 1", stormsOnce(1, 17), 1);
        Due.is("storm 0", stormsOnce(0, 17), 0);
        OathButtons untold = Due.of(MEN + "button p on a by b does x;wear storm;draw 17;");
        untold.day();
        Due.is("storm not told", untold.button(0, 1), 10);
        Due.is("storm 71 by the rest 71", stormsOnce(71, 0), 0);
        Due.is("storm 72 by the rest 71", stormsOnce(72, 0), 1);
        Due.is("storm 100", stormsOnce(100, 4), 1);
    }

    private static int stormsOnce(int storm, int draw) {
        OathButtons x = Due.of(MEN + "button p on a by b does x;wear storm;storm " + storm + ";draw " + draw + ";");
        x.day();
        return 10 - x.button(0, 1);
    }

    private static void dayLimit() {
        OathButtons x = Due.of(TEXT);
        for (int i = 0; i < 99; i++) {
            x.day();
        }
        Due.is("about(4)", x.about(4), 99);
        Due.is("day() behind 99", x.day(), -1);
        Due.is("about(4)", x.about(4), 99);
        Due.is("about(8)", x.about(8), 40);
        x.undo();
        Due.is("about(4)", x.about(4), 98);
        Due.is("day() again", x.day(), 0);
        Due.is("day() behind 99", x.day(), -1);
    }

    private static void undoAndRedo() {
        OathButtons x = Due.of(TEXT);
        Due.is("undo()", x.undo(), false);
        Due.is("redo()", x.redo(), false);
        x.does(0, 0);
        x.cut(3);
        x.day();
        Due.is("undo()", x.undo(), true);
        Due.is("day", x.about(4), 0);
        Due.is("seed", x.about(5), 0);
        Due.is("thread", x.button(2, 1), 3);
        Due.is("undo()", x.undo(), true);
        Due.is("on again", x.button(3, 0), 0);
        Due.is("cut", x.about(6), 0);
        Due.is("undone", x.about(8), 1);
        Due.is("redone", x.about(9), 2);
        Due.is("redo()", x.redo(), true);
        Due.is("off again", x.button(3, 0), 2);
        Due.is("cut", x.about(6), 1);
        Due.is("an act", x.sew(2), 3);
        Due.is("nothing to redo", x.redo(), false);
        Due.is("about(9)", x.about(9), 0);
        x.undo();
        Due.is("what can't be leaves redo", x.cut(3), -1);
        Due.is("redo()", x.redo(), true);
        Due.is("undo()", x.undo(), true);
        Due.is("undo()", x.undo(), true);
        Due.is("undo()", x.undo(), true);
        Due.is("undo()", x.undo(), false);
        Due.is("all on", x.many(0), 4);
        Due.is("about(9)", x.about(9), 3);
    }

    private static void fortyActs() {
        OathButtons x = Due.of(TEXT + "wear 0;");
        for (int i = 0; i < 43; i++) {
            x.day();
        }
        Due.is("about(8)", x.about(8), 40);
        for (int i = 0; i < 40; i++) {
            Due.is("undo()", x.undo(), true);
            Due.is("day", x.about(4), 42 - i);
        }
        Due.is("undo()", x.undo(), false);
        Due.is("about(9)", x.about(9), 40);
        for (int i = 0; i < 40; i++) {
            Due.is("redo()", x.redo(), true);
            Due.is("day", x.about(4), 4 + i);
        }
        Due.is("redo()", x.redo(), false);
        x.undo();
        x.day();
        Due.is("about(8)", x.about(8), 40);
    }

    private static void boxes() {
        OathButtons x = Due.of(TEXT);
        Due.is("back(0), empty", x.back(0), -1);
        Due.is("image(3)", x.image(3), -1);
        Due.is("image(-1)", x.image(-1), -1);
        Due.is("back(3)", x.back(3), -1);
        Due.is("back(-1)", x.back(-1), -1);
        x.day();
        x.cut(3);
        Due.is("image(1)", x.image(1), 1);
        Due.is("acts stay", x.about(8), 2);
        x.undo();
        x.day();
        x.does(0, 0);
        Due.is("image(2)", x.image(2), 2);
        Due.is("back(0), empty", x.back(0), -1);
        Due.is("acts stay", x.about(8), 3);
        x.undo();
        Due.is("back(1)", x.back(1), 1);
        Due.is("acts", x.about(8), 0);
        Due.is("redone", x.about(9), 0);
        Due.is("undo()", x.undo(), false);
        Due.is("redo()", x.redo(), false);
        Due.is("cut", x.about(6), 1);
        Due.is("seed", x.about(5), 71);
        Due.is("off", x.button(3, 0), 2);
        Due.is("thread", x.button(0, 1), 9);
        Due.is("back(2)", x.back(2), 2);
        Due.is("kept", x.button(0, 0), 1);
        Due.is("cut", x.about(6), 0);
        Due.is("day()", x.day(), 1);
        Due.is("undo() ends at the image", x.undo(), true);
        Due.is("undo()", x.undo(), false);
        Due.is("back(1) again", x.back(1), 1);
        x.image(2);
        Due.is("a box filled anew", x.back(2), 1);
        Due.is("image(0)", x.image(0), 1);
        x.day();
        Due.is("back(0)", x.back(0), 1);
        Due.is("back(3)", x.back(3), -1);
        tenButtons();
    }

    private static void tenButtons() {
        StringBuilder text = new StringBuilder(MEN);
        for (int i = 0; i < 10; i++) {
            text.append("button ").append((char) ('a' + i)).append(" on a by b does x thread ").append(20 + i).append(";");
        }
        OathButtons x = Due.of(text.append("draw 123;").toString());
        x.cut(9);
        x.day();
        x.image(0);
        x.day();
        x.undo();
        x.sew(8);
        x.back(0);
        Due.is("day", x.about(4), 1);
        Due.is("seed", x.about(5), (123 * 137 + 71) % 1000);
        Due.is("cut", x.about(6), 1);
        for (int i = 0; i < 10; i++) {
            Due.is("thread of " + i, x.button(i, 1), i < 9 ? 19 + i : 29);
            Due.is("state of " + i, x.button(i, 0), i < 9 ? 0 : 2);
        }
    }
}
