/** Promises 1 to 5: a new object, feed, end, regiment, fault. */
public final class TextTest {
    private static final String BASE = "man m;man n;deed d hours 1;";

    public static void main(String[] args) {
        newObject();
        tape();
        regimentTakesAll();
        faultLeavesAll();
        tokens();
        menAndDeeds();
        buttons();
        friends();
        numbersOnce();
        formulas();
        tooMany();
        whatIsCutOffTheTape();
        lessBehindMore();
        Due.endTest();
    }

    /** The fault of a text on a new object, and where. */
    private static void fault(String text, int kind, int place) {
        OathButtons x = new OathButtons();
        Due.feed(x, text);
        Due.is("regiment() of '" + text + "'", x.regiment(), -1);
        Due.is("fault(0) of '" + text + "'", x.fault(0), kind);
        Due.is("fault(1) of '" + text + "'", x.fault(1), place);
    }

    private static OathButtons right(String text, int buttons) {
        OathButtons x = new OathButtons();
        Due.feed(x, text);
        Due.is("regiment() of '" + text + "'", x.regiment(), buttons);
        Due.is("fault(0) of '" + text + "'", x.fault(0), 0);
        Due.is("fault(1) of '" + text + "'", x.fault(1), -1);
        return x;
    }

    private static void newObject() {
        OathButtons x = new OathButtons();
        int[] about = {0, 0, 0, 0, 0, 0, 0, 8, 0, 0, 0, 0, 0, 0, 0};
        for (int i = 0; i < about.length; i++) {
            Due.is("new: about(" + i + ")", x.about(i), about[i]);
        }
        Due.is("new: fault(0)", x.fault(0), 0);
        Due.is("new: fault(1)", x.fault(1), -1);
        Due.is("new: button(0, 0)", x.button(0, 0), -2);
        Due.is("new: regiment()", x.regiment(), 0);
        Due.is("new: undo()", x.undo(), false);
    }

    private static void tape() {
        OathButtons x = new OathButtons();
        Due.is("end(0)", x.end(0), 0);
        Due.is("end(1) of nothing", x.end(1), -1);
        for (int i = 1; i <= 80; i++) {
            Due.is("feed " + i, x.feed(0x20202020, 0x0A0A0A0A, 0x20202020, 0x20202020, 0x20202020), 20 * i);
        }
        Due.is("feed 81", x.feed(0, 0, 0, 0, 0), -1);
        Due.is("about(12)", x.about(12), 1600);
        Due.is("end(-1)", x.end(-1), -1);
        Due.is("end(1601)", x.end(1601), -1);
        Due.is("end(1600)", x.end(1600), 1600);
        Due.is("end(1581)", x.end(1581), 1581);
        Due.is("feed above", x.feed(0, 0, 0, 0, 0), -1);
        Due.is("about(12)", x.about(12), 1581);
        Due.is("end(1580)", x.end(1580), 1580);
        Due.is("feed to the end", x.feed(0x20202020, 0x20202020, 0x20202020, 0x20202020, 0x2020203B), 1600);
        Due.is("regiment()", x.regiment(), -1);
        Due.is("fault(0)", x.fault(0), 2);
        Due.is("fault(1)", x.fault(1), 1599);
        Due.is("fault(2)", x.fault(2), -1);
        Due.is("fault(-1)", x.fault(-1), -1);
        Due.is("about(12) behind regiment()", x.about(12), 0);
        // The highest byte of each number comes first: "day 24;" and blanks.
        x.feed(0x64617920, 0x32343B20, 0x20202020, 0x20202020, 0x20202020);
        Due.is("regiment()", x.regiment(), 0);
        Due.is("about(7)", x.about(7), 24);
    }

    private static void regimentTakesAll() {
        OathButtons x = right("man m;man n;deed d hours 3;button b on m by n does d thread 5;draw 7;", 1);
        x.day();
        x.cut(0);
        x.image(0);
        x.tug(0, 0, true);
        x.later(5);
        x.keep(0, 0);
        x.truce();
        Due.feed(x, "man a;man b;deed d hours 3;deed e hours 4;button b on b by a never e until 3;"
            + "button c on a by b does d thread 7 after b;draw 42;friend a b -3;wear 1+2;");
        Due.is("regiment()", x.regiment(), 2);
        int[] about = {2, 2, 2, 1, 0, 42, 0, 8, 0, 0, 0, 5, 0, 2, 0};
        for (int i = 0; i < about.length; i++) {
            Due.is("about(" + i + ")", x.about(i), about[i]);
        }
        Due.is("back(0)", x.back(0), -1);
        Due.is("undo()", x.undo(), false);
        Due.is("button(0, 0)", x.button(0, 0), 0);
        Due.is("button(1, 1)", x.button(1, 1), 7);
        Due.is("regiment() of an empty tape", x.regiment(), 0);
        Due.is("about(1)", x.about(1), 0);
        Due.is("about(7)", x.about(7), 8);
        Due.is("about(13)", x.about(13), 0);
        Due.is("about(11)", x.about(11), 5);
    }

    private static void faultLeavesAll() {
        OathButtons x = right("man m left;man n;deed d hours 3;button b on m by n does d;wear 2;storm 100;", 1);
        x.day();
        x.image(2);
        x.tug(2, 1, true);
        x.truce();
        Due.feed(x, "man z;man y;deed e hours 1;button q on z by y never e;wear 3;day 3;storm 5;draw 8;friend z y 1;?");
        Due.is("regiment()", x.regiment(), -1);
        Due.is("fault(0)", x.fault(0), 1);
        int[] about = {1, 2, 1, 0, 1, 71, 0, 8, 1, 0, 1, 0, 0, 1, 2};
        for (int i = 0; i < about.length; i++) {
            Due.is("behind a fault: about(" + i + ")", x.about(i), about[i]);
        }
        Due.is("swore(0)", x.swore(0), 1);
        Due.is("likes(0, 1)", x.likes(0, 1), -100);
        Due.is("holds(0, 1, 0)", x.holds(0, 1, 0), 6);
        Due.is("back(2)", x.back(2), 1);
        Due.feed(x, "man m;");
        Due.is("regiment()", x.regiment(), 0);
        Due.is("fault(0)", x.fault(0), 0);
        Due.is("fault(1)", x.fault(1), -1);
    }

    private static void tokens() {
        right("", 0);
        right(" \n \n", 0);
        right("man\na;man b left;", 0);
        right("man a colour3 holes4 left;", 0);
        fault("man a colour 3holes 4;", 1, 13);
        right("man abcdefgh;", 0);
        right("day 0008;", 0);
        fault("\t", 1, 0);
        fault("man a\r;", 1, 5);
        fault("man A;", 1, 4);
        fault("man a\u00e9;", 1, 5);
        fault("man a\u0000;", 1, 5);
        fault("man a,", 1, 5);
        fault("man abcdefghi;", 1, 4);
        fault("day 12345;", 1, 4);
        fault("draw 00001;", 1, 5);
        fault("day 8a;", 1, 4);
        fault("day 8z;", 1, 4);
        fault("wear 1or 2;", 1, 5);
        right("wear 1 or 2;", 0);
        right("wear(thread)or(1)or 2;", 0);
    }

    private static void menAndDeeds() {
        OathButtons x = right("man a;man b colour 9;man c holes 4;man d left;man e colour 0 holes 1 left;", 0);
        Due.is("about(1)", x.about(1), 5);
        x.tug(0, 9, true);
        Due.is("colour 9", x.swore(0), 2);
        x.untell(0);
        x.tug(1, 2, true);
        Due.is("holes 2", x.swore(0), 11);
        x.untell(1);
        x.tug(2, 1, true);
        Due.is("left", x.swore(0), 24);
        x.untell(2);
        x.tug(0, 0, true);
        Due.is("colour 0", x.swore(0), 29);
        // Each sort has names by itself.
        right("man a;man b;deed a hours 1;button a on a by b does a;", 1);
        fault("man", 2, 3);
        fault("man ;", 2, 4);
        fault("man 5;", 2, 4);
        fault("man and;", 2, 4);
        fault("man a", 2, 5);
        fault("man a  ", 2, 7);
        fault("man a colour", 2, 12);
        fault("man a colour x", 2, 13);
        fault("man a colour 10", 4, 13);
        fault("man a holes 0", 4, 12);
        fault("man a holes 5", 4, 12);
        fault("man a holes 1 colour 1", 2, 14);
        fault("man a left left", 2, 11);
        fault("man a;man a;", 3, 10);
        fault("man a;;", 2, 6);
        fault("a", 2, 0);
        fault("5", 2, 0);
        fault(";", 2, 0);
        fault("colour", 2, 0);
        fault("deed d hours 0;", 4, 13);
        fault("deed d hours 25;", 4, 13);
        fault("deed d hours -1;", 2, 13);
        fault("deed d;", 2, 6);
        fault("deed d hours;", 2, 12);
        fault("deed d hours 1", 2, 14);
        fault("deed d hours 1;deed d", 3, 20);
        right("deed d hours 1;deed e hours 24;", 0);
        String[] words = ("man colour holes left deed hours button on by does never until thread after friend wear day "
            + "storm draw or and not").split(" ");
        for (String word : words) {
            fault("man " + word + ";", 2, 4);
        }
        for (String name : "line both one sum term unit e v n regiment men days storms".split(" ")) {
            right("man " + name + ";", 0);
        }
    }

    private static void buttons() {
        right(BASE + "button b on m by n does d;", 1);
        right(BASE + "button b on m by n never d until 1 thread 99;button c on n by m does d after b;", 2);
        int at = BASE.length();
        fault(BASE + "button", 2, at + 6);
        fault(BASE + "button until", 2, at + 7);
        fault(BASE + "button b by", 2, at + 9);
        fault(BASE + "button b on by", 2, at + 12);
        fault(BASE + "button b on z", 5, at + 12);
        fault(BASE + "button b on d", 5, at + 12);
        fault(BASE + "button b on m on", 2, at + 14);
        fault(BASE + "button b on m by z", 5, at + 17);
        fault(BASE + "button b on m by m", 3, at + 17);
        fault(BASE + "button b on m by n d", 2, at + 19);
        fault(BASE + "button b on m by n does m", 5, at + 24);
        fault(BASE + "button b on m by n never z", 5, at + 25);
        fault(BASE + "button b on m by n does day", 2, at + 24);
        fault(BASE + "button b on m by n does d until 0", 4, at + 32);
        fault(BASE + "button b on m by n does d until 61", 4, at + 32);
        fault(BASE + "button b on m by n does d thread 0", 4, at + 33);
        fault(BASE + "button b on m by n does d thread 100", 4, at + 33);
        fault(BASE + "button b on m by n does d thread 1 until 1", 2, at + 35);
        fault(BASE + "button b on m by n does d after b", 5, at + 32);
        fault(BASE + "button b on m by n does d after m", 5, at + 32);
        fault(BASE + "button b on m by n does d after 1", 2, at + 32);
        fault(BASE + "button b on m by n does d", 2, at + 25);
        fault(BASE + "button b on m by n does d;button b", 3, at + 33);
        // What is told later is not told ahead.
        fault("man m;man n;button b on m by n does d;deed d hours 1;", 5, 36);
    }

    private static void friends() {
        OathButtons x = right("man m;man n;man o;friend m n 9;friend o n - 9;friend o m -0;", 0);
        Due.is("likes(0, 1)", x.likes(0, 1), 9);
        Due.is("likes(1, 2)", x.likes(1, 2), -9);
        Due.is("likes(0, 2)", x.likes(0, 2), 0);
        int at = BASE.length();
        fault(BASE + "friend z", 5, at + 7);
        fault(BASE + "friend m z", 5, at + 9);
        fault(BASE + "friend m m 1", 3, at + 9);
        fault(BASE + "friend m n 10", 4, at + 11);
        fault(BASE + "friend m n -10", 4, at + 11);
        fault(BASE + "friend m n - 10", 4, at + 11);
        fault(BASE + "friend m n --1", 2, at + 12);
        fault(BASE + "friend m n -10a", 1, at + 12);
        fault(BASE + "friend m n -;", 2, at + 12);
        fault(BASE + "friend m n +1", 2, at + 11);
        fault(BASE + "friend m n;", 2, at + 10);
        fault(BASE + "friend m n 1", 2, at + 12);
        fault(BASE + "friend m n 1;friend m n", 3, at + 22);
        fault(BASE + "friend m n 1;friend n m", 3, at + 22);
    }

    private static void numbersOnce() {
        OathButtons x = right("draw 999;storm 100;day 1;wear 0;", 0);
        Due.is("about(5)", x.about(5), 999);
        Due.is("about(7)", x.about(7), 1);
        right("day 24;storm 0;draw 0;", 0);
        fault("day 0;", 4, 4);
        fault("day 25;", 4, 4);
        fault("storm 101;", 4, 6);
        fault("draw 1000;", 4, 5);
        fault("day -1;", 2, 4);
        fault("day;", 2, 3);
        fault("day 1 2;", 2, 6);
        fault("day 1;day 2;", 2, 6);
        fault("storm 1;storm 2;", 2, 8);
        fault("draw 1;draw 2;", 2, 7);
        fault("wear 1;wear 2;", 2, 7);
    }

    private static void formulas() {
        units("wear 1;", 1);
        units("wear (1);", 2);
        units("wear thread+holes*storm-day/2%3;", 6);
        units("wear not 1<2 and not(3=4 or 5>6);", 7);
        units("wear 9999;", 1);
        fault("wear;", 2, 4);
        fault("wear -1;", 2, 5);
        fault("wear 1+;", 2, 7);
        fault("wear 1 2;", 2, 7);
        fault("wear (1;", 2, 7);
        fault("wear 1);", 2, 6);
        fault("wear ();", 2, 6);
        fault("wear 1<2<3;", 2, 8);
        fault("wear 1+not 2;", 2, 7);
        fault("wear not;", 2, 8);
        fault("wear 1 and;", 2, 10);
        fault("wear 1 or and;", 2, 10);
        fault("wear colour;", 2, 5);
        fault("wear x;", 2, 5);
        fault("wear 1+$", 1, 7);
        units("wear " + "(".repeat(7) + "1" + ")".repeat(7) + ";", 8);
        fault("wear " + "(".repeat(8) + "1" + ")".repeat(8) + ";", 2, 12);
        units("wear " + "not ".repeat(7) + "1;", 1);
        fault("wear " + "not ".repeat(8) + "1;", 2, 33);
        units("wear " + "not(".repeat(3) + "not 1" + ")".repeat(3) + ";", 4);
        // Both sorts count together: the eighth that is open is a bracket here, a not there.
        fault("wear " + "not(".repeat(4) + "1", 2, 20);
        fault("wear (" + "not(".repeat(3) + "not 1", 2, 18);
        // What has been closed does not count.
        units("wear " + "((((((1))))))+".repeat(2) + "((((((1))))));", 21);
        units("wear not not not 1 and not not not not not not not 1;", 2);
    }

    private static void units(String text, int count) {
        OathButtons x = right(text, 0);
        Due.is("about(13) of '" + text + "'", x.about(13), count);
    }

    private static void tooMany() {
        String men = "man a;man b;man c;man d;man e;man f;";
        Due.is("men", right(men, 0).about(1), 6);
        fault(men + "man g;", 2, men.length());
        fault(men + "man a;", 2, men.length());
        String deeds = "deed a hours 1;deed b hours 1;deed c hours 1;deed d hours 1;deed e hours 1;deed f hours 1;";
        Due.is("deeds", right(deeds, 0).about(2), 6);
        fault(deeds + "deed", 2, deeds.length());
        StringBuilder buttons = new StringBuilder(men + deeds);
        for (char name = 'a'; name < 'k'; name++) {
            buttons.append("button ").append(name).append(" on a by b does c;");
        }
        right(buttons.toString(), 10);
        fault(buttons + "button z on a by b does c;", 2, buttons.length());
        StringBuilder friends = new StringBuilder(men);
        for (char a = 'a'; a < 'g'; a++) {
            for (char b = (char) (a + 1); b < 'g'; b++) {
                friends.append("friend ").append(b).append(' ').append(a).append(" 1;");
            }
        }
        Due.is("friends", right(friends.toString(), 0).about(3), 15);
        fault(friends + "friend a b 1;", 2, friends.length());
        String thirty = "wear " + "1+".repeat(29) + "1";
        units(thirty + ";", 30);
        for (String sign : new String[] {"-", "*", "/", "%", " or ", " and "}) {
            units("wear " + ("1 " + sign).repeat(29) + "1;", 30);
        }
        fault(thirty + "+1;", 2, thirty.length() + 1);
        fault(thirty + "+(1);", 2, thirty.length() + 1);
        fault(thirty + "+#", 1, thirty.length() + 1);
        // A bracket is a unit too: with what is in it there are 31.
        String bracket = "wear " + "1+".repeat(29) + "(1);";
        fault(bracket, 2, bracket.length() - 3);
        String nots = "wear " + "not not not not not not not 1 and ".repeat(29) + "not not not not not not not 1;";
        Due.is("holds by many nots", Due.of("man m;man n;deed d hours 1;button b on m by n does d;" + nots).holds(0, 3, 0), 10);
    }

    /** Bytes that end() took off the tape are no part of the text, though they were there. */
    private static void whatIsCutOffTheTape() {
        String[][] cut = {{"man a", " "}, {"man a", "b"}, {"day 1", "2"}, {"day 1", "a"}, {"man a", ";"}, {"wear 1", ";"}};
        for (String[] two : cut) {
            OathButtons x = new OathButtons();
            Due.feed(x, two[0] + two[1]);
            x.end(two[0].length());
            Due.is("regiment() of '" + two[0] + "', cut", x.regiment(), -1);
            Due.is("fault(0) of '" + two[0] + "', cut", x.fault(0), 2);
            Due.is("fault(1) of '" + two[0] + "', cut", x.fault(1), two[0].length());
        }
    }

    /** A small regiment behind a great one has nothing of it. */
    private static void lessBehindMore() {
        StringBuilder great = new StringBuilder("man a colour 1 holes 1 left;man b left;man c left;man d left;man e left;man f left;");
        great.append("deed a hours 9;deed b hours 9;deed c hours 9;deed d hours 9;deed e hours 9;deed f hours 9;");
        for (char name = 'a'; name < 'k'; name++) {
            great.append("button ").append(name).append(" on a by b ");
            great.append(name % 2 == 0 ? "does " : "never ").append(name < 'g' ? name : 'b');
            great.append(" until 1 thread 9").append(name > 'a' ? " after a;" : ";");
        }
        great.append("friend a b 9;friend c d 9;wear 0 or 1 or 0 or 1 or 0;day 3;storm 100;draw 9;");
        OathButtons x = right(great.toString(), 10);
        x.keep(0, 0);
        x.clash(0, 0);
        x.tug(0, 7, true);
        x.cut(9);
        Due.feed(x, "man a;man b;deed x hours 8;deed y hours 8;button p on a by b does x;button q on a by b does y until 1;"
            + "wear holes;");
        Due.is("regiment()", x.regiment(), 2);
        OathButtons y = right("man a;man b;deed x hours 8;deed y hours 8;button p on a by b does x;button q on a by b does y until 1;"
            + "wear holes;", 2);
        for (int a = -1; a < 11; a++) {
            for (int b = -1; b < 8; b++) {
                Due.is("button", x.button(a, b), y.button(a, b));
                Due.is("coat", x.coat(a, b), y.coat(a, b));
                Due.is("sworn", x.sworn(a, b), y.sworn(a, b));
                Due.is("keep", x.keep(a, b), y.keep(a, b));
                Due.is("ties", x.ties(a, b), y.ties(a, b));
                Due.is("clash", x.clash(a, b), y.clash(a, b));
                Due.is("leave", x.leave(a, b), y.leave(a, b));
                Due.is("asked", x.asked(a, b), y.asked(a, b));
                Due.is("holds", x.holds(a, b, 1), y.holds(a, b, 1));
                Due.is("will", x.will(a, b), y.will(a, b));
                Due.is("likes", x.likes(a, b), y.likes(a, b));
            }
            Due.is("many", x.many(a), y.many(a));
            Due.is("rest", x.rest(a), y.rest(a));
        }
        Due.is("keep(0, 2)", x.keep(0, 2), 3);
        Due.is("free()", x.free(), 2);
        Due.is("truce()", x.truce(), 0);
        Due.is("calm()", x.calm(), 1);
        Due.is("untell(0)", x.untell(0), false);
        Due.is("swore(0)", x.swore(0), 3);
        x.tug(0, 0, true);
        Due.is("swore(0)", x.swore(0), 3);
        x.day();
        Due.is("no storm", x.button(0, 1), 8);
    }
}
