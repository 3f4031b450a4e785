/** Promises 24 to 27: how long threads hold; and the wear formula's values. */
public final class ThreadTest {
    private static final String MEN = "man a;man b holes 3;deed x hours 5;";

    public static void main(String[] args) {
        holds();
        formulaValues();
        odds();
        first();
        will();
        Due.endTest();
    }

    private static OathButtons one(String terms, String rest) {
        return Due.of(MEN + "button p on a by b does x " + terms + ";" + rest);
    }

    private static void holds() {
        OathButtons x = one("until 1 thread 9", "wear 1+storm;");
        for (int n = 0; n <= 60; n++) {
            Due.is("holds(0, " + n + ", 0)", x.holds(0, n, 0), Math.max(0, 9 - n));
            Due.is("holds(0, " + n + ", 1)", x.holds(0, n, 1), Math.max(0, 9 - 2 * n));
        }
        Due.is("holds(0, 61, 0)", x.holds(0, 61, 0), -1);
        Due.is("holds(0, -1, 0)", x.holds(0, -1, 0), -1);
        Due.is("holds(0, 1, 2)", x.holds(0, 1, 2), -1);
        Due.is("holds(0, 1, -1)", x.holds(0, 1, -1), -1);
        Due.is("holds(1, 1, 0)", x.holds(1, 1, 0), -1);
        Due.is("holds(-1, 1, 0)", x.holds(-1, 1, 0), -1);
        x.cut(0);
        Due.is("off", x.holds(0, 1, 0), -1);
        // The day goes on, from what it is now.
        x = one("thread 99", "wear day;");
        Due.is("days 0, 1, 2, 3", x.holds(0, 4, 0), 99 - 6);
        x.day();
        x.day();
        Due.is("then", x.button(0, 1), 98);
        Due.is("days 2, 3, 4", x.holds(0, 3, 0), 98 - 9);
        Due.is("the thread, too", one("thread 99", "wear thread/2;").holds(0, 3, 0), 13);
        Due.is("60 storms", one("thread 99", "wear storm;").holds(0, 60, 1), 39);
    }

    /** What the formula comes to, 0 to 98, by the loss of one day. */
    private static void value(String formula, int want) {
        OathButtons x = one("thread 99", "wear " + formula + ";");
        Due.is("wear " + formula, 99 - x.holds(0, 1, 1), want);
    }

    private static void formulaValues() {
        value("2+3*4", 14);
        value("(2+3)*4", 20);
        value("20-5-3", 12);
        value("40/2/5", 4);
        value("17%10%4", 3);
        value("2*9/4", 4);
        value("7/2", 3);
        value("5+(0-7)/2", 2);
        value("5+(0-7)%4", 2);
        value("5/0", 0);
        value("7+5%0", 7);
        value("10+3<5", 0);
        value("3<5+10", 1);
        value("5>3", 1);
        value("3<3", 0);
        value("4<3", 0);
        value("3=4", 0);
        value("3>3", 0);
        value("3=3", 1);
        value("(3=4)+2", 2);
        value("5 and 7", 1);
        value("5 and 0", 0);
        value("0 or 9", 1);
        value("0 or 0", 0);
        value("(0-1) and 1", 1);
        value("not 5", 0);
        value("not 0", 1);
        value("not not 5", 1);
        value("not 1<0", 1);
        value("not 0 and 0", 0);
        value("not(0 and 0)", 1);
        value("1 or 0 and 0", 1);
        value("(1 or 0)and 0", 0);
        value("1=1 and 2<3 or 0", 1);
        value("thread-10", 89);
        value("holes*10", 30);
        value("storm*7", 7);
        value("day+4", 4);
        value("9999*9999*43/9999*0+6", 6);
        // 9999^3 wraps to a number below 0: 999700029999 = -1041543697 modulo 2^32.
        value("(9999*9999*9999<0)*5", 9999 * 9999 * 9999 < 0 ? 5 : 0);
        value("(9999*9999*9999*9999%97+97)%97", ((9999 * 9999 * 9999 * 9999) % 97 + 97) % 97);
        // The least number by -1: it stays, and its rest is 0; neither may throw.
        String least = "(8192*8192*32)";
        value("(" + least + "<0)*9", 9);
        value(least + "/(0-1)=" + least, 1);
        value("3+" + least + "%(0-1)", 3);
    }

    private static void odds(OathButtons x, int button, int n, long upper, long lower) {
        Due.is("odds(" + button + ", " + n + ", 0)", x.odds(button, n, 0), upper);
        Due.is("odds(" + button + ", " + n + ", 1)", x.odds(button, n, 1), lower);
    }

    private static void odds() {
        OathButtons x = one("thread 2", "wear storm;storm 30;");
        odds(x, 0, 0, 1, 1);
        odds(x, 0, 1, 1, 1);
        odds(x, 0, 2, 91, 100);
        odds(x, 0, 3, 98, 125);
        // 6 days: none or one storm: 0.7^6 + 6 * 0.3 * 0.7^5 = 0.420175
        odds(x, 0, 6, 16807, 40000);
        Due.is("odds(0, 7, 0)", x.odds(0, 7, 0), -1);
        Due.is("odds(0, -1, 0)", x.odds(0, -1, 0), -1);
        Due.is("odds(0, 1, 2)", x.odds(0, 1, 2), -1);
        Due.is("odds(0, 1, -1)", x.odds(0, 1, -1), -1);
        Due.is("odds(1, 1, 0)", x.odds(1, 1, 0), -1);
        Due.is("odds(-1, 1, 0)", x.odds(-1, 1, 0), -1);
        odds(one("thread 1", "wear 1;storm 30;"), 0, 1, 0, 1);
        odds(one("until 1 thread 6", "wear 1;storm 30;"), 0, 5, 1, 1);
        odds(one("thread 1", "wear storm;storm 100;"), 0, 1, 0, 1);
        odds(one("thread 1", "wear storm;storm 0;draw 3;"), 0, 6, 1, 1);
        // 99^6 of 100^6 has nothing in common.
        odds(one("thread 1", "wear storm;storm 1;"), 0, 6, 941480149401L, 1000000000000L);
        // Storms count more on later days: by which days they come matters.
        odds(one("thread 2", "wear storm*day;storm 50;"), 0, 3, 1, 2);
        x.cut(0);
        odds(x, 0, 1, -1, -1);
        x = one("thread 3", "wear 1+storm;storm 25;");
        x.day();
        odds(x, 0, 1, x.button(0, 1) == 2 ? 3 : 0, x.button(0, 1) == 2 ? 4 : 1);
    }

    private static void first() {
        OathButtons x = Due.of(MEN + "button p on a by b does x until 1 thread 9;button q on b by a never x thread 7;"
            + "button r on a by b does x thread 7;storm 100;wear 1+storm*9;");
        Due.is("first(0)", x.first(0), 1);
        Due.is("first(1)", x.first(1), 7);
        Due.is("first(2)", x.first(2), -1);
        Due.is("first(-1)", x.first(-1), -1);
        x.cut(1);
        Due.is("first(0)", x.first(0), 2);
        x.cut(2);
        Due.is("first(0)", x.first(0), 0);
        Due.is("first(1)", x.first(1), 9);
        x.cut(0);
        Due.is("none is on", x.first(0), -1);
        Due.is("none is on", x.first(1), -1);
        Due.is("in 60 days", one("thread 60", "").first(1), 60);
        Due.is("in 61 days", one("thread 61", "").first(1), -1);
        Due.is("in 61 days", one("thread 61", "").first(0), -1);
        Due.is("never", one("", "wear 0;").first(0), -1);
        x = Due.of(MEN + "button p on a by b does x;button q on b by a does x;wear holes;");
        Due.is("by whose holes", x.first(0), 0);
        Due.is("by whose holes", x.first(1), 4);
        x = one("thread 99", "wear day>8 and thread;");
        Due.is("day by day", one("thread 99", "wear (day>8)*99;").first(1), 10);
        for (int i = 0; i < 5; i++) {
            x.day();
        }
        Due.is("from the day on", x.first(1), -1);
        x = one("thread 99", "wear (day>8)*99;");
        x.day();
        Due.is("from the day on", x.first(1), 9);
    }

    private static void will() {
        OathButtons x = Due.of(MEN + "button p on a by b does x until 7 thread 99;button q on b by a never x until 9 thread 99;"
            + "button r on a by b does x thread 12;storm 40;draw 3;wear 1+storm*2;");
        int[][] want = new int[61][3];
        OathButtons y = Due.of(MEN + "button p on a by b does x until 7 thread 99;button q on b by a never x until 9 thread 99;"
            + "button r on a by b does x thread 12;storm 40;draw 3;wear 1+storm*2;");
        for (int n = 0; n <= 60; n++) {
            for (int i = 0; i < 3; i++) {
                want[n][i] = y.button(i, 0);
                Due.is("will(" + i + ", " + n + ")", x.will(i, n), want[n][i]);
            }
            y.day();
        }
        Due.is("broken", x.will(0, 60), 3);
        Due.is("kept", x.will(1, 60), 1);
        Due.is("lost", x.will(2, 60), 4);
        Due.is("nothing is done", x.about(4) + x.about(8), 0);
        Due.is("will(0, 61)", x.will(0, 61), -1);
        Due.is("will(0, -1)", x.will(0, -1), -1);
        Due.is("will(3, 0)", x.will(3, 0), -1);
        Due.is("will(-1, 0)", x.will(-1, 0), -1);
        x.cut(0);
        Due.is("what is off stays so", x.will(0, 60), 2);
    }
}
