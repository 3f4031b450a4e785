/** Promises 6 to 10, 20, 30 and 39: what is, looked at. */
public final class LookTest {
    private static final String TEXT = "man a;man b;man c;deed x hours 5;deed y hours 6;"
        + "button p on a by b does x until 9 thread 7;"
        + "button q on a by c never y;"
        + "button r on b by a never x until 3 thread 2 after p;"
        + "button s on c by a does y until 1 thread 1;"
        + "friend c a -4;day 6;draw 12;wear thread>0;";

    public static void main(String[] args) {
        button();
        coatAndFree();
        sworn();
        many();
        ties();
        likes();
        about();
        Due.endTest();
    }

    private static void button() {
        OathButtons x = Due.of(TEXT);
        int[][] want = {
            {0, 7, 0, 1, 0, 1, 9, -1},
            {0, 10, 0, 2, 1, 0, 60, -1},
            {0, 2, 1, 0, 0, 0, 3, 0},
            {0, 1, 2, 0, 1, 1, 1, -1},
        };
        for (int i = 0; i < want.length; i++) {
            for (int what = 0; what < 8; what++) {
                Due.is("button(" + i + ", " + what + ")", x.button(i, what), want[i][what]);
            }
            Due.is("button(" + i + ", 8)", x.button(i, 8), -2);
            Due.is("button(" + i + ", -1)", x.button(i, -1), -2);
        }
        Due.is("button(4, 0)", x.button(4, 0), -2);
        Due.is("button(-1, 0)", x.button(-1, 0), -2);
        Due.is("button(MIN, 7)", x.button(Integer.MIN_VALUE, 7), -2);
        x.does(0, 0);
        x.does(0, 1);
        x.undoes(2);
        x.day();
        int[] states = {1, 3, 2, 4};
        for (int i = 0; i < 4; i++) {
            Due.is("then button(" + i + ", 0)", x.button(i, 0), states[i]);
        }
        Due.is("thread of what was not on stays", x.button(0, 1), 7);
        Due.is("thread of what is lost", x.button(3, 1), 0);
    }

    private static void coatAndFree() {
        OathButtons x = Due.of(TEXT);
        Due.is("free()", x.free(), 0);
        int[][] before = {{3, 12, 0, 0}, {4, 1, 0, 0}, {8, 2, 0, 0}};
        coats(x, before);
        x.does(0, 1);
        x.day();
        int[][] behind = {{1, 4, 2, 0}, {4, 1, 0, 0}, {0, 0, 0, 8}};
        coats(x, behind);
        Due.is("free()", x.free(), 4);
        x.undoes(0);
        Due.is("free()", x.free(), 5);
        for (int what = 0; what < 4; what++) {
            Due.is("coat(3, ..)", x.coat(3, what), -1);
            Due.is("coat(-1, ..)", x.coat(-1, what), -1);
        }
        Due.is("coat(0, 4)", x.coat(0, 4), -1);
        Due.is("coat(0, -1)", x.coat(0, -1), -1);
        Due.is("free() of men alone", Due.of("man a;man b;man c;man d;man e;man f;").free(), 63);
    }

    private static void coats(OathButtons x, int[][] want) {
        for (int man = 0; man < want.length; man++) {
            for (int what = 0; what < 4; what++) {
                Due.is("coat(" + man + ", " + what + ")", x.coat(man, what), want[man][what]);
            }
        }
    }

    private static void sworn() {
        OathButtons x = Due.of(TEXT);
        Due.is("sworn(0, 0)", x.sworn(0, 0), 1);
        Due.is("sworn(0, 1)", x.sworn(0, 1), 2);
        Due.is("sworn(1, 0)", x.sworn(1, 0), 4);
        Due.is("sworn(1, 1)", x.sworn(1, 1), 1);
        Due.is("sworn(2, 0)", x.sworn(2, 0), -1);
        Due.is("sworn(-1, 0)", x.sworn(-1, 0), -1);
        Due.is("sworn(0, 2)", x.sworn(0, 2), -1);
        Due.is("sworn(0, -1)", x.sworn(0, -1), -1);
        x.cut(0);
        Due.is("sworn(0, 0) when it is off", x.sworn(0, 0), 0);
    }

    private static void many() {
        OathButtons x = Due.of(TEXT);
        x.does(0, 0);
        x.does(0, 1);
        x.undoes(2);
        for (int state = 0; state < 4; state++) {
            Due.is("many(" + state + ")", x.many(state), 1);
        }
        Due.is("many(4)", x.many(4), 0);
        x.day();
        Due.is("many(0)", x.many(0), 0);
        Due.is("many(4)", x.many(4), 1);
        Due.is("many(5)", x.many(5), -1);
        Due.is("many(-1)", x.many(-1), -1);
    }

    private static void ties() {
        OathButtons x = Due.of(TEXT + "button t on a by b does y;");
        Due.is("ties(0, 1)", x.ties(0, 1), 17);
        Due.is("ties(0, 2)", x.ties(0, 2), 2);
        Due.is("ties(1, 0)", x.ties(1, 0), 4);
        Due.is("ties(1, 2)", x.ties(1, 2), 0);
        Due.is("ties(1, 1)", x.ties(1, 1), -1);
        Due.is("ties(3, 0)", x.ties(3, 0), -1);
        Due.is("ties(0, 3)", x.ties(0, 3), -1);
        Due.is("ties(-1, 0)", x.ties(-1, 0), -1);
        x.does(0, 0);
        Due.is("ties(0, 1)", x.ties(0, 1), 16);
    }

    private static void likes() {
        OathButtons x = Due.of(TEXT);
        Due.is("likes(0, 2)", x.likes(0, 2), -4);
        Due.is("likes(2, 0)", x.likes(2, 0), -4);
        Due.is("likes(0, 1)", x.likes(0, 1), -100);
        Due.is("likes(0, 0)", x.likes(0, 0), -100);
        Due.is("likes(3, 0)", x.likes(3, 0), -100);
        Due.is("likes(0, 3)", x.likes(0, 3), -100);
        Due.is("likes(-1, 0)", x.likes(-1, 0), -100);
        Due.is("likes(0, 6)", x.likes(0, 6), -100);
    }

    private static void about() {
        OathButtons x = Due.of(TEXT);
        x.day();
        x.cut(0);
        x.does(1, 1);
        x.undo();
        x.tug(0, 0, true);
        x.tug(1, 1, false);
        x.untell(0);
        x.later(9);
        x.later(8);
        x.calm();
        x.feed(0, 0, 0, 0, 0);
        int[] want = {4, 3, 2, 1, 1, (12 * 137 + 71) % 1000, 1, 6, 2, 1, 2, 17, 20, 2, 3};
        for (int what = 0; what < want.length; what++) {
            Due.is("about(" + what + ")", x.about(what), want[what]);
        }
        Due.is("about(15)", x.about(15), -1);
        Due.is("about(-1)", x.about(-1), -1);
        Due.is("NONE", OathButtons.NONE, -1);
    }
}
