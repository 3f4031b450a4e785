/** Promises 18, 19, 21 to 23 and 31: what can be kept, and what must be undone ahead of a deed. */
public final class KeepTest {
    private static final String MEN = "man a;man b;man c;";

    public static void main(String[] args) {
        keepMost();
        keepFewestHours();
        keepFirst();
        keepByDelay();
        keepByDays();
        rest();
        clash();
        leave();
        wrong();
        Due.endTest();
    }

    private static void keep(String call, OathButtons x, int count, int hours, int bits, int... order) {
        Due.is(call + ": keep(0, 0)", x.keep(0, 0), count);
        Due.lies(x, call, order);
        Due.is(call + ": keep(0, 1)", x.keep(0, 1), hours);
        Due.lies(x, call, order);
        Due.is(call + ": keep(0, 2)", x.keep(0, 2), bits);
        Due.lies(x, call, order);
    }

    private static void keepMost() {
        keep("nothing told", Due.of(MEN), 0, 0, 0);
        keep("nothing on him", Due.of(MEN + "deed x hours 1;button p on b by a does x;"), 0, 0, 0);
        keep("one", Due.of(MEN + "deed x hours 8;button p on a by b does x;"), 1, 8, 1, 0);
        keep("two by one deed", Due.of(MEN + "deed x hours 8;button p on a by b does x;button q on a by c does x;"), 2, 8, 3, 0);
        // The deed with the earlier day goes first, though its number is higher.
        keep("an order", Due.of(MEN + "deed x hours 8;deed y hours 8;button p on a by b does x;"
            + "button q on a by b does y until 1;deed z hours 8;button r on a by b does z until 1;"), 3, 24, 7, 1, 2, 0);
        // One of two only.
        keep("one of two", Due.of(MEN + "deed x hours 24;deed y hours 24;day 12;button p on a by b does x until 1;"
            + "button q on a by b does y until 1;"), 1, 24, 1, 0);
        keep("never it", Due.of(MEN + "deed x hours 1;button p on a by b does x;button q on a by c never x;"), 0, 0, 0);
        keep("never it, another man", Due.of(MEN + "deed x hours 1;button p on a by b does x;button q on b by c never x;"),
            1, 1, 1, 0);
        OathButtons x = Due.of(MEN + "deed x hours 1;button p on a by b does x;button q on a by c never x;");
        x.cut(1);
        keep("what is off does not count", x, 1, 1, 1, 0);
        x.cut(0);
        keep("what is off does not count", x, 0, 0, 0);
    }

    private static void keepFewestHours() {
        // Three buttons: two by y in 3 hours, or one by x in 3: the day has room for one deed.
        keep("more of them", Due.of(MEN + "day 2;deed x hours 3;deed y hours 3;button p on a by b does x until 1;"
            + "button q on a by b does y until 1;button r on a by c does y until 1;"), 2, 3, 6, 1);
        keep("fewest hours", Due.of(MEN + "day 2;deed x hours 4;deed y hours 3;button p on a by b does x until 1;"
            + "button q on a by b does y until 1;"), 1, 3, 2, 1);
        keep("no deed for nothing", Due.of(MEN + "deed w hours 1;deed x hours 2;button p on a by b does x;"), 1, 2, 1, 1);
    }

    private static void keepFirst() {
        keep("by number", Due.of(MEN + "deed x hours 2;deed y hours 3;deed z hours 4;button p on a by b does z;"
            + "button q on a by b does y;button r on a by b does x;"), 3, 9, 7, 0, 1, 2);
        keep("the first of like ones", Due.of(MEN + "day 1;deed x hours 3;deed y hours 3;button p on a by b does y until 3;"
            + "button q on a by b does x until 3;"), 1, 3, 2, 0);
    }

    private static void keepByDelay() {
        // Never x until day 1: w fills two days, so that x may come behind it.
        String text = MEN + "day 4;deed x hours 2;deed w hours 8;button p on a by b does x;button q on a by c never x until 1;";
        keep("a deed that keeps nothing, done for its hours", Due.of(text), 1, 10, 1, 1, 0);
        keep("too short", Due.of(MEN + "day 4;deed x hours 2;deed w hours 6;button p on a by b does x;"
            + "button q on a by c never x until 1;"), 0, 0, 0);
        // x ends in day 2, though it begins in day 1.
        keep("by its last hour", Due.of(MEN + "day 4;deed x hours 3;deed w hours 7;button p on a by b does x;"
            + "button q on a by c never x until 1;"), 1, 10, 1, 1, 0);
        // No waiting: even on the day itself the never counts.
        OathButtons x = Due.of(text);
        x.day();
        keep("on its last day", x, 1, 10, 1, 1, 0);
        x.day();
        keep("behind it", x, 1, 2, 1, 0);
    }

    private static void keepByDays() {
        String text = MEN + "day 6;deed x hours 12;button p on a by b does x until 1;";
        OathButtons x = Due.of(text);
        keep("its last hour is the day's last", x, 1, 12, 1, 0);
        x.day();
        keep("a day later", x, 0, 0, 0);
        keep("one hour more", Due.of(MEN + "day 6;deed x hours 13;button p on a by b does x until 1;"), 0, 0, 0);
        keep("one hour less in the day", Due.of(MEN + "day 5;deed x hours 11;button p on a by b does x until 1;"), 0, 0, 0);
        keep("six", Due.of(MEN + "deed a hours 24;deed b hours 24;deed c hours 24;deed d hours 24;deed e hours 24;"
            + "deed f hours 24;day 24;button a on a by b does a until 5;button b on a by b does b until 4;"
            + "button c on a by b does c until 3;button d on a by b does d until 2;button e on a by b does e until 1;"
            + "button f on a by b does f;"), 6, 144, 63, 0, 4, 3, 2, 1, 5);
    }

    private static void rest() {
        OathButtons x = Due.of(MEN + "day 6;deed x hours 12;button p on a by b does x until 9;");
        Due.is("rest(0)", x.rest(0), 8);
        x.day();
        x.day();
        Due.is("rest(0)", x.rest(0), 6);
        Due.is("nothing on him", x.rest(1), 60);
        Due.is("until 60", Due.of(MEN + "deed x hours 1;button p on a by b does x;").rest(0), 60);
        Due.is("as many at least: more is fine", Due.of(MEN + "deed x hours 1;button p on a by b does x until 40;"
            + "button q on a by b never x until 30;").rest(0), 60);
        // Now one can be kept, later none, still later one again.
        Due.is("not by steps", Due.of(MEN + "deed x hours 1;deed y hours 1;button p on a by b does x until 2;"
            + "button q on a by b does y until 20;button r on a by b never y until 10;").rest(0), 20);
        Due.is("no day", Due.of(MEN + "day 6;deed x hours 12;button p on a by b does x until 1;").rest(0), 0);
        Due.is("one day", Due.of(MEN + "day 6;deed x hours 12;button p on a by b does x until 2;").rest(0), 1);
        Due.is("rest(3)", x.rest(3), -1);
        Due.is("rest(-1)", x.rest(-1), -1);
        x.truce();
        x.rest(0);
        Due.lies(x, "rest leaves what lies there", -1, -1, -1);
    }

    private static void clash() {
        String two = MEN + "day 12;deed x hours 24;deed y hours 24;button p on a by b does x until 1;"
            + "button q on a by b does y until 1;";
        clash("two", Due.of(two), 2, 3);
        clash("all can be kept", Due.of(MEN + "deed x hours 8;deed y hours 8;button p on a by b does x;"
            + "button q on a by b does y;"), -1, -1);
        clash("none is on him", Due.of(MEN), -1, -1);
        clash("one alone is smaller", Due.of(two + "deed z hours 24;button r on a by b does z;"
            + "button s on a by c never z;"), 1, 4);
        clash("the least as bits", Due.of(MEN + "day 24;deed x hours 24;deed y hours 24;deed z hours 24;"
            + "button p on a by b does x until 9;button q on a by b does z until 1;button r on a by b does y until 1;"
            + "button s on a by b does x until 1;"), 3, 14);
        clash("three of four", Due.of(MEN + "day 24;deed x hours 24;deed y hours 24;deed z hours 24;deed w hours 24;"
            + "button p on a by b does x until 1;button q on a by b does y until 1;button r on a by b does z until 1;"
            + "button s on a by b does w until 1;"), 3, 7);
        // Together by way of a deed that none of them promises.
        clash("by delay", Due.of(MEN + "day 4;deed x hours 2;deed w hours 8;button p on a by b does x;"
            + "button q on a by c never x until 1;"), -1, -1);
        clash("in one order only", Due.of(MEN + "deed x hours 16;deed y hours 8;button p on a by b does x until 1;"
            + "button q on a by b does y;"), -1, -1);
        clash("in the other order only", Due.of(MEN + "deed y hours 8;deed x hours 16;button p on a by b does x until 1;"
            + "button q on a by b does y;"), -1, -1);
        String six = MEN + "deed a hours 24;deed b hours 24;deed c hours 24;deed d hours 24;deed e hours 24;deed f hours 24;day 24;"
            + "button a on a by b does a until 5;button b on a by b does b until 4;button c on a by b does c until 3;"
            + "button d on a by b does d until 2;button e on a by b does e until 1;";
        clash("six", Due.of(six + "button f on a by b does f;"), -1, -1);
        clash("six, ten buttons", Due.of(six + "button f on a by b does f;button g on a by b does f;button h on a by b does f;"
            + "button i on a by b does f;button j on a by b does f;"), -1, -1);
        clash("six, one day less", Due.of(six.replace("until 5", "until 4") + "button f on a by b does f until 4;button g on a by b does f;button h on a by b does f;"
            + "button i on a by b does f;button j on a by b does f until 4;"), 6, 63);
        OathButtons x = Due.of(two);
        x.cut(0);
        clash("what is off does not count", x, -1, -1);
        x.truce();
        x.clash(0, 0);
        Due.lies(x, "clash leaves what lies there", -1, -1, -1);
    }

    private static void clash(String call, OathButtons x, int count, int bits) {
        Due.is(call + ": clash(0, 0)", x.clash(0, 0), count);
        Due.is(call + ": clash(0, 1)", x.clash(0, 1), bits);
    }

    private static void leave() {
        OathButtons x = Due.of(MEN + "deed x hours 1;deed y hours 1;"
            + "button a on c by b does y;"
            + "button b on a by c never x until 3 after a;"
            + "button c on b by a does y after b;"
            + "button d on a by b never x until 1 thread 2 after c;"
            + "button e on a by b never y;"
            + "button f on a by b does x;");
        Due.is("leave(0, 0)", x.leave(0, 0), 4);
        Due.lies(x, "leave(0, 0)", 0, 1, 2, 3);
        Due.is("asked(0, 0)", x.asked(0, 0), 7);
        Due.is("leave(0, 1)", x.leave(0, 1), 1);
        Due.lies(x, "leave(0, 1)", 4);
        Due.is("asked(0, 1)", x.asked(0, 1), 2);
        Due.is("asked(0, 0) leaves what lies there", x.asked(0, 0), 7);
        Due.lies(x, "asked(0, 0)", 4);
        Due.is("leave(1, 0)", x.leave(1, 0), 0);
        Due.lies(x, "leave(1, 0)");
        Due.is("asked(1, 0)", x.asked(1, 0), 0);
        tenButtons();
        // What is off ends the row behind it, too.
        x.cut(1);
        Due.is("leave(0, 0)", x.leave(0, 0), 2);
        Due.lies(x, "leave(0, 0)", 2, 3);
        Due.is("asked(0, 0)", x.asked(0, 0), 3);
        x.undo();
        x.day();
        Due.is("leave(0, 0) on its last day", x.leave(0, 0), 4);
        x.day();
        Due.is("lost", x.button(3, 0), 4);
        Due.is("leave(0, 0)", x.leave(0, 0), 2);
        Due.lies(x, "leave(0, 0)", 0, 1);
        x.sew(3);
        Due.is("on again, but behind its day", x.leave(0, 0), 2);
        Due.is("asked(0, 0)", x.asked(0, 0), 6);
    }

    private static void wrong() {
        OathButtons x = Due.of(MEN + "deed x hours 8;button p on a by b does x;button q on a by c never x until 1;");
        int[][] bad = {{3, 0}, {-1, 0}, {0, 3}, {0, -1}, {Integer.MAX_VALUE, Integer.MIN_VALUE}};
        for (int[] pair : bad) {
            x.truce();
            Due.is("keep", x.keep(pair[0], pair[1]), -1);
            Due.lies(x, "behind NONE of keep");
        }
        int[][] badDeeds = {{3, 0}, {-1, 0}, {0, 1}, {0, -1}};
        for (int[] pair : badDeeds) {
            x.truce();
            Due.is("asked", x.asked(pair[0], pair[1]), -1);
            Due.lies(x, "behind NONE of asked", -1, -1, -1);
            Due.is("leave", x.leave(pair[0], pair[1]), -1);
            Due.lies(x, "behind NONE of leave");
        }
        Due.is("clash(3, 0)", x.clash(3, 0), -1);
        Due.is("clash(-1, 0)", x.clash(-1, 0), -1);
        Due.is("clash(0, 2)", x.clash(0, 2), -1);
        Due.is("clash(0, -1)", x.clash(0, -1), -1);
        Due.is("clash(0, 0)", x.clash(0, 0), 1);
        Due.is("no act", x.about(8), 0);
    }

    private static void tenButtons() {
        StringBuilder text = new StringBuilder(MEN + "deed x hours 1;");
        for (int i = 0; i < 10; i++) {
            text.append("button ").append((char) ('a' + i)).append(" on a by b never x;");
        }
        OathButtons x = Due.of(text.toString());
        Due.is("leave(0, 0)", x.leave(0, 0), 10);
        Due.lies(x, "leave(0, 0)", 0, 1, 2, 3, 4, 5, 6, 7, 8, 9);
        Due.is("asked(0, 0)", x.asked(0, 0), 2);
        Due.is("ties(0, 1)", x.ties(0, 1), 1023);
        Due.is("coat(0, 0)", x.coat(0, 0), 1023);
    }
}
