/** Promises 1 to 5: the tape, and which texts are a regiment. */
final class TextEdges {
    private static final String TWO = "man a;man b;deed d hours 1;";
    private static final String SIX = "man a;man b;man c;man d;man e;man f;";
    private static final String WORDS = "man colour holes left deed hours button on by does never until thread after friend wear "
        + "day storm draw or and not";

    private TextEdges() { }

    static void run() {
        newObject();
        feed();
        end();
        regiment();
        fault();
        lengthOfText();
        lines();
        tokens();
        names();
        men();
        deeds();
        buttons();
        friends();
        toldOnce();
        formulaLines();
    }

    private static OathButtons right(String text) {
        return Due.of(text);
    }

    private static void newObject() {
        Doc.promise(1, "An empty REGIMENT.");
        OathButtons x = new OathButtons();
        for (int what = 0; what < 15; what++) {
            Due.is("about(" + what + ")", x.about(what), what == 7 ? 8 : 0);
        }
        Due.is("button(0, 0)", x.button(0, 0), -2);
        Due.is("coat(0, 0)", x.coat(0, 0), -1);
        Due.is("sworn(0, 0)", x.sworn(0, 0), -1);
        Due.is("does(0, 0)", x.does(0, 0), -1);
        Due.is("rest(0)", x.rest(0), -1);
        Due.is("clash(0, 0)", x.clash(0, 0), -1);
        Due.is("leave(0, 0)", x.leave(0, 0), -1);
        Due.is("lies(0)", x.lies(0), -2);
        Due.is("back(0)", x.back(0), -1);
        Doc.terms(1, "The constants: `NONE = -1`: There is none.");
        Due.is("NONE", OathButtons.NONE, -1);
    }

    private static int feedBlanks(OathButtons x) {
        return x.feed(0x20202020, 0x20202020, 0x20202020, 0x20202020, 0x20202020);
    }

    private static void feed() {
        Doc.promise(2, "Twenty bytes come behind those on the TAPE, of each number the highest first");
        OathButtons x = new OathButtons();
        x.feed(0x64726177, 0x20200A20, 0x20202020, 0x20202020, 0x20202039); // "draw" .. "9"
        x.feed(0x3820203B, 0x64617920, 0x20202020, 0x20202020, 0x2031373B); // "8  ;day" .. " 17;"
        Due.is("regiment()", x.regiment(), 0);
        Due.is("98 goes on from one call to the next", x.about(5), 98);
        Due.is("the lowest byte is the last", x.about(7), 17);
        x.feed(0xFF000000, 0, 0, 0, 0);
        x.regiment();
        Due.is("a byte of 255 is the first", x.fault(1), 0);
        Doc.promise(2, "how many there are");
        x = new OathButtons();
        for (int i = 1; i <= 80; i++) {
            Due.is("feed, the " + i + ". time", feedBlanks(x), 20 * i);
        }
        Doc.promise(2, "NONE, and nothing comes, if there would be more than 1,600.");
        Due.is("feed, the 81. time", x.feed(-1, -1, -1, -1, -1), -1);
        Due.is("about(12)", x.about(12), 1600);
        x.end(1581);
        Due.is("1,601 would be", x.feed(-1, -1, -1, -1, -1), -1);
        Due.is("about(12)", x.about(12), 1581);
        x.end(1580);
        Due.is("1,600 would be", feedBlanks(x), 1600);
        Due.is("nothing of what was refused is there", x.regiment(), 0);
    }

    private static void end() {
        Doc.promise(3, "The TAPE has its first n bytes: n");
        OathButtons x = new OathButtons();
        Due.is("end(0) of none", x.end(0), 0);
        Due.feed(x, "draw 12;draw 34;");
        Due.is("end of all", x.end(16), 16);
        Due.is("end(8)", x.end(8), 8);
        Due.is("about(12)", x.about(12), 8);
        Due.is("regiment()", x.regiment(), 0);
        Due.is("the first of them stayed", x.about(5), 12);
        Due.feed(x, "draw 12;");
        Due.is("end(0)", x.end(0), 0);
        Due.is("regiment() of none", x.regiment(), 0);
        Due.is("about(5)", x.about(5), 0);
        Doc.promise(3, "NONE, doing nothing, if it has not so many, or n is below 0.");
        Due.is("end(1) of none", x.end(1), -1);
        Due.feed(x, "draw 12;");
        for (int n : new int[] {9, -1, 1600, 1601, Integer.MAX_VALUE, Integer.MIN_VALUE}) {
            Due.is("end(" + n + ") of 8", x.end(n), -1);
            Due.is("about(12)", x.about(12), 8);
        }
        x.end(7);
        Due.is("end(8), what was taken off does not come back", x.end(8), -1);
    }

    private static OathButtons lived() {
        OathButtons x = Due.of("man m left;man n;deed d hours 3;button b on m by n does d;button c on n by m never d thread 2;"
            + "friend m n 2;wear 1;draw 7;day 5;");
        x.later(9);
        x.day();
        x.cut(0);
        x.day();
        x.undo();
        x.image(0);
        x.image(1);
        x.image(2);
        x.tug(2, 1, true);
        x.truce();
        return x;
    }

    private static void regiment() {
        Doc.promise(4, "The TAPE (empty then) is the REGIMENT");
        OathButtons x = lived();
        Due.feed(x, "man z;deed e hours 2;draw 40;");
        Due.is("regiment()", x.regiment(), 0);
        Due.is("the tape is empty then", x.about(12), 0);
        Doc.promise(4, "(all as told, DAY 0, none was CUT, no ACTS are kept, TUGS are none, nothing lies there, BOXES are empty then; "
            + "the TIME stays)");
        int[] about = {0, 1, 1, 0, 0, 40, 0, 8, 0, 0, 0, 9, 0, 0, 0};
        for (int what = 0; what < about.length; what++) {
            Due.is("about(" + what + ")", x.about(what), about[what]);
        }
        Due.is("undo()", x.undo(), false);
        Due.is("redo()", x.redo(), false);
        for (int box = 0; box < 3; box++) {
            Due.is("back(" + box + ")", x.back(box), -1);
        }
        Due.is("lies(0)", x.lies(0), -2);
        Due.is("untell(0)", x.untell(0), false);
        Due.is("swore(9)", x.swore(9), 1);
        x = lived();
        Due.is("an empty tape", x.regiment(), 0);
        Due.is("no men", x.about(1), 0);
        Due.is("hours of a day as at first", x.about(7), 8);
        nothingOfTheEarlier();
        Doc.promise(4, "how many BUTTONS");
        StringBuilder text = new StringBuilder(TWO);
        for (int i = 0; i <= 10; i++) {
            Due.feed(x, text.toString());
            Due.is("regiment() of " + i, x.regiment(), i);
            text.append("button ").append((char) ('a' + i)).append(" on a by b does d;");
        }
        Doc.promise(4, "NONE: a FAULT (all stays).");
        x = lived();
        String before = Due.seen(x);
        Due.feed(x, "man z;man y;deed e hours 9;button q on z by y never e;friend z y 1;wear 5;draw 8;day 9;storm 100;man z;");
        Due.is("regiment()", x.regiment(), -1);
        Due.is("fault(0)", x.fault(0), 3);
        x.feed(0x20202020, 0x20202020, 0x20202020, 0x20202020, 0x20202020);
        Due.is("the tape was empty, too", x.about(12), 20);
        x.regiment();
        x = lived();
        Due.feed(x, "man z;man y;deed e hours 9;button q on z by y never e;friend z y 1;wear 5;draw 8;day 9;storm 100");
        Due.is("regiment()", x.regiment(), -1);
        String behind = Due.seen(x);
        Due.is("all but the fault: " + before + " became " + behind,
            behind.equals(before.replaceAll("0 -1$", x.fault(0) + " " + x.fault(1))), true);
        Due.is("the tug stays", x.swore(9), 1);
        Due.is("redo() goes on", x.redo(), true);
        Due.is("the boxes stay", x.back(2), 1);
        Due.is("the wear stays", x.holds(1, 1, 0), 0);
    }

    /** What an object answers that has this regiment behind another one, by that of a new object. */
    private static void nothingOfTheEarlier() {
        String great = SIX.replace(";", " colour 7 holes 4 left;") + "deed p hours 9;deed q hours 9;deed r hours 9;deed s hours 9;deed t hours 1;"
            + "button a on a by b does p until 1 thread 1;button b on a by b never q until 1 after a;button c on a by b does r until 1;"
            + "button d on a by b does s;friend a b 9;friend c d 9;friend e f 9;wear (1 or 0)*thread+storm;day 3;storm 100;draw 9;";
        String small = "man a;man b;man c;man d;deed x hours 8;deed y hours 8;deed z hours 8;"
            + "button a on a by b does x until 1;button b on a by b does y until 1;button c on b by a never x;friend c d 0;";
        for (String wear : new String[] {"", "wear storm;", "friend a c 1;wear holes;"}) {
            for (String ahead : new String[] {"", great, great + "#"}) {
                OathButtons x = Due.of(great);
                x.cut(2);
                x.day();
                x.day();
                x.sew(3);
                x.truce();
                x.calm();
                x.keep(0, 0);
                x.clash(0, 0);
                x.tug(0, 7, true);
                x.image(0);
                x.undo();
                Due.feed(x, ahead);
                x.regiment();
                Due.feed(x, small + wear);
                Due.is("regiment()", x.regiment(), 3);
                String seen = answers(x);
                String due = answers(Due.of(small + wear));
                Due.is(seen + " are due to be " + due, seen.equals(due), true);
            }
        }
    }

    private static String answers(OathButtons x) {
        StringBuilder s = new StringBuilder(Due.seen(x));
        for (int man = -1; man < 7; man++) {
            s.append('\n').append(x.keep(man, 1)).append(' ').append(x.keep(man, 2)).append(' ').append(x.about(14)).append(' ');
            s.append(x.rest(man)).append(' ').append(x.clash(man, 1)).append(' ');
            s.append(x.ties(man, 0)).append(' ').append(x.ties(man, 1)).append(' ').append(x.ties(man, 2)).append(' ');
            s.append(x.leave(man, 0)).append(' ').append(x.asked(man, 0)).append(' ').append(x.coat(man, 0)).append(' ');
            s.append(x.coat(man, 1)).append(' ').append(x.likes(man, 1)).append(' ').append(x.likes(man, 3));
            s.append(' ').append(x.button(man, 0)).append(' ').append(x.button(man, 1)).append(' ').append(x.button(man, 7));
            s.append(' ').append(x.holds(man, 3, 0)).append(' ').append(x.holds(man, 3, 1)).append(' ').append(x.odds(man, 2, 0));
            s.append(' ').append(x.will(man, 1)).append(' ').append(x.will(man, 2)).append(' ').append(x.sworn(man, 0));
        }
        s.append('\n').append(x.truce()).append(' ').append(Due.seen(x)).append('\n').append(x.calm()).append(' ').append(Due.seen(x));
        s.append('\n').append(x.free()).append(' ').append(x.first(0)).append(' ').append(x.ask(1, 9)).append(' ').append(x.swore(9));
        for (int what = 0; what < 3; what++) {
            s.append(' ').append(x.tug(what, 0, true)).append(' ').append(x.swore(9)).append(x.untell(what));
        }
        s.append(x.undo()).append(x.redo()).append(x.back(0));
        for (int day = 0; day < 3; day++) {
            s.append('\n').append(x.day()).append(' ').append(Due.seen(x));
        }
        return s.toString();
    }

    private static void fault() {
        Doc.promise(5, "Of the latest regiment() what 0: its FAULT (0), 1: its place (NONE).");
        OathButtons x = new OathButtons();
        Due.is("fault(0) ahead of all", x.fault(0), 0);
        Due.is("fault(1) ahead of all", x.fault(1), -1);
        Due.feed(x, "day 0;");
        x.regiment();
        Due.is("fault(0)", x.fault(0), 4);
        Due.is("fault(1)", x.fault(1), 4);
        Due.feed(x, "day 3;");
        Due.is("fault(0) till the next regiment()", x.fault(0), 4);
        x.regiment();
        Due.is("fault(0)", x.fault(0), 0);
        Due.is("fault(1)", x.fault(1), -1);
        Due.feed(x, "?");
        x.regiment();
        Due.is("fault(0)", x.fault(0), 1);
        Due.is("fault(1)", x.fault(1), 0);
        Doc.promise(5, "NONE for another what.");
        for (int what : new int[] {2, -1, Integer.MAX_VALUE, Integer.MIN_VALUE}) {
            Due.is("fault(" + what + ")", x.fault(what), -1);
        }
    }

    private static void lengthOfText() {
        Doc.terms(4, "A REGIMENT is a text of at most 1,600 bytes (empty at first)");
        Due.is("1,600 bytes", right("man a" + " ".repeat(1594) + ";").about(1), 1);
        Due.fault("man a" + " ".repeat(1595), 2, 1600);
        Due.is("at first", new OathButtons().regiment(), 0);
        Doc.terms(4, "regiment = {line}");
        right("");
        Due.is("in whichever order", right("draw 3;man a;day 2;deed d hours 1;man b;friend a b 1;storm 1;").about(1), 2);
        Due.fault(";", 2, 0);
        Due.fault("man a;;", 2, 6);
    }

    private static void lines() {
        Doc.terms(4, "line = man NAME [colour N] [holes N] [left] ;");
        right("man a colour 1 holes 1 left;man b holes 1 left;man c colour 1 left;man d colour 1 holes 1;");
        Due.fault("man a holes 1 colour 1;", 2, 14);
        Due.fault("man a left holes 1;", 2, 11);
        Due.fault("man a colour 1 colour 1;", 2, 15);
        Due.fault("man;", 2, 3);
        Due.fault("man a", 2, 5);
        Doc.terms(4, "deed NAME hours N ;");
        Due.fault("deed hours 1;", 2, 5);
        Due.fault("deed d 1;", 2, 7);
        Due.fault("deed d hours;", 2, 12);
        Due.fault("deed d hours 1 2;", 2, 15);
        Doc.terms(4, "button NAME on NAME by NAME (does | never) NAME [until N] [thread N] [after NAME] ;");
        String one = TWO + "button o on a by b does d;";
        Due.is("all told", right(one + "button p on a by b never d until 1 thread 2 after o;").about(0), 2);
        Due.is("none told", right(one + "button p on b by a does d;").about(0), 2);
        Due.fault(TWO + "button o by b on a does d;", 2, 36);
        Due.fault(TWO + "button o does d;", 2, 36);
        Due.fault(TWO + "button o on a does d;", 2, 41);
        Due.fault(TWO + "button o on a by b d;", 2, 46);
        Due.fault(TWO + "button o on a by b does never d;", 2, 51);
        Due.fault(TWO + "button o on a by b does d thread 1 until 1;", 2, 62);
        Due.fault(one + "button p on a by b does d after o thread 1;", 2, 87);
        Doc.terms(4, "friend NAME NAME V ;");
        Due.fault(TWO + "friend a 1;", 2, 36);
        Due.fault(TWO + "friend a b;", 2, 37);
        Due.fault(TWO + "friend a b 1 1;", 2, 40);
        Doc.terms(4, "V = [-] N");
        Due.is("- 3", right(TWO + "friend a b - 3;").likes(0, 1), -3);
        Due.is("-0", right(TWO + "friend a b -0;").likes(0, 1), 0);
        Due.fault(TWO + "friend a b --3;", 2, 39);
        Due.fault(TWO + "friend a b +3;", 2, 38);
        Due.fault(TWO + "friend a b -;", 2, 39);
        Doc.terms(4, "wear e ; | day N ; | storm N ; | draw N ;");
        for (String word : "wear day storm draw".split(" ")) {
            right(word + " 1;");
            Due.fault(word + ";", 2, word.length());
            Due.fault(word + " -1;", 2, word.length() + 1);
            Due.fault(word + " 1", 2, word.length() + 2);
            Due.fault(word + " 1 1;", 2, word.length() + 3);
        }
    }

    private static void tokens() {
        Doc.terms(4, "TOKENS: words (a .. z, 8 at most)");
        Due.is("eight letters are told apart", right("man abcdefgh;man abcdefgi;man zbcdefgh;").about(1), 3);
        Due.fault("man abcdefgh;man abcdefgh;", 3, 17);
        Due.fault("man abcdefghi;", 1, 4);
        Due.fault("a".repeat(1600), 1, 0);
        Doc.terms(4, "N (1 to 4 digits)");
        Due.is("one", right("draw 7;").about(5), 7);
        Due.is("four", right("draw 0007;").about(5), 7);
        Due.fault("draw 00007;", 1, 5);
        Due.fault("draw 4294967297;", 1, 5);
        Due.fault("9".repeat(1600), 1, 0);
        Doc.terms(4, "signs ; ( ) < > = + - * / %");
        allBytes();
        Doc.terms(4, "blanks (32, 10) part them or not");
        right("\n man\n\na colour 1 holes2 left ;man b;");
        right("man a colour1 holes2 left;");
        Due.fault("man a colour 1\tholes 2;", 1, 14);
        Due.fault("man a\r\n;", 1, 5);
        Doc.terms(4, "each is as long as can be");
        Due.fault("mana;", 2, 0);
        Due.fault("man a colour 12;", 4, 13);
        Due.fault("man a colour 1 2;", 2, 15);
        Due.is("day 12", right("day 12;").about(7), 12);
        Due.fault("man aman b;", 2, 9);
        Doc.terms(4, "no letter directly behind an N");
        Due.fault("man a colour 1left;", 1, 13);
        Due.fault("day 8a;", 1, 4);
        Due.fault("day 8z;", 1, 4);
        right("man a colour 1 left;");
        right("day 8;man a;");
        Due.fault("wear (1)and 1or 1;", 1, 12);
    }

    /** Each byte by itself, at the beginning and behind a name. */
    private static void allBytes() {
        for (int sign = 0; sign < 256; sign++) {
            String text = String.valueOf((char) sign);
            boolean letter = sign >= 'a' && sign <= 'z';
            boolean digit = sign >= '0' && sign <= '9';
            boolean known = ";()<>=+-*/%".contains(text);
            if (sign == 32 || sign == 10) {
                right(text);
                right("man a" + text + ";");
            } else {
                Due.fault(text, letter || digit || known ? 2 : 1, 0);
                if (letter) {
                    right("man a" + text + ";");
                } else {
                    Due.fault("man a" + text + ";", digit || known ? 2 : 1, sign == ';' ? 6 : 5);
                }
            }
        }
    }

    private static void names() {
        Doc.terms(4, "Words that stand for themselves here are no NAMES");
        for (String word : WORDS.split(" ")) {
            Due.fault("man " + word + ";", 2, 4);
            Due.fault("deed " + word + " hours 1;", 2, 5);
            Due.fault(TWO + "button " + word + " on a by b does d;", 2, 34);
            Due.fault(TWO + "button o on " + word + " by b does d;", 2, 39);
            Due.fault(TWO + "friend a " + word + " 1;", 2, 36);
            right("man " + word + "x;man x" + (word.length() < 8 ? word : "y") + ";");
        }
        Doc.terms(4, "numbered as told, each sort by itself");
        OathButtons x = right("man a;deed a hours 1;man b;button a on b by a does a;deed b hours 2;button b on a by b never b after a;");
        Due.is("button(0, 2)", x.button(0, 2), 1);
        Due.is("button(0, 4)", x.button(0, 4), 0);
        Due.is("button(1, 2)", x.button(1, 2), 0);
        Due.is("button(1, 4)", x.button(1, 4), 1);
        Due.is("button(1, 7)", x.button(1, 7), 0);
    }

    /** Men who have this number, of colour (0), holes (1), the left hand (2). */
    private static int who(String text, int what, int number) {
        OathButtons x = right(text);
        x.tug(what, number, true);
        return x.swore(0);
    }

    private static void men() {
        Doc.terms(4, "At most 6 MEN");
        Due.is("six", right(SIX).about(1), 6);
        Due.fault(SIX + "man g;", 2, SIX.length());
        Doc.terms(4, "colour 0 .. 9, 0 if not told");
        String colours = "man a colour 0;man b colour 9;man c;";
        Due.is("0", who(colours, 0, 0), 5);
        Due.is("9", who(colours, 0, 9), 2);
        Due.fault("man a colour 10;", 4, 13);
        Due.fault("man a colour 9999;", 4, 13);
        Due.fault("man a colour -1;", 2, 13);
        Doc.terms(4, "holes 1 .. 4, 2");
        String holes = "man a holes 1;man b holes 4;man c;man d holes 2;";
        Due.is("1", who(holes, 1, 1), 1);
        Due.is("4", who(holes, 1, 4), 2);
        Due.is("2", who(holes, 1, 2), 12);
        Due.fault("man a holes 0;", 4, 12);
        Due.fault("man a holes 5;", 4, 12);
    }

    private static void deeds() {
        Doc.terms(4, "6 DEEDS (1 .. 24 HOURS)");
        StringBuilder text = new StringBuilder();
        for (char name = 'a'; name < 'g'; name++) {
            text.append("deed ").append(name).append(" hours 1;");
        }
        Due.is("six", right(text.toString()).about(2), 6);
        Due.fault(text + "deed g hours 1;", 2, text.length());
        OathButtons x = right("man a;man b;deed x hours 1;deed y hours 24;button p on a by b does x;button q on b by a does y;");
        Due.is("1", x.keep(0, 1), 1);
        Due.is("24", x.keep(1, 1), 24);
        Due.fault("deed x hours 0;", 4, 13);
        Due.fault("deed x hours 25;", 4, 13);
    }

    private static void buttons() {
        Doc.terms(4, "10 BUTTONS");
        StringBuilder text = new StringBuilder(TWO);
        for (char name = 'a'; name < 'k'; name++) {
            text.append("button ").append(name).append(" on a by b does d;");
        }
        Due.is("ten", right(text.toString()).about(0), 10);
        Due.fault(text + "button k on a by b does d;", 2, text.length());
        Doc.terms(4, "on a MAN by another one, a DEED, all told ahead");
        Due.fault("man a;deed d hours 1;button o on a by b does d;man b;", 5, 38);
        Due.fault("man b;deed d hours 1;button o on a by b does d;man a;", 5, 33);
        Due.fault("man a;man b;button o on a by b does d;deed d hours 1;", 5, 36);
        Due.fault(TWO + "button o on a by a does d;", 3, 44);
        Doc.terms(4, "until 1 .. 60, 60");
        Due.is("1", right(TWO + "button o on a by b does d until 1;").button(0, 6), 1);
        Due.is("60", right(TWO + "button o on a by b does d until 60;").button(0, 6), 60);
        Due.is("not told", right(TWO + "button o on a by b does d;").button(0, 6), 60);
        Due.fault(TWO + "button o on a by b does d until 0;", 4, 59);
        Due.fault(TWO + "button o on a by b does d until 61;", 4, 59);
        Doc.terms(4, "thread 1 .. 99, 10");
        Due.is("1", right(TWO + "button o on a by b does d thread 1;").button(0, 1), 1);
        Due.is("99", right(TWO + "button o on a by b does d thread 99;").button(0, 1), 99);
        Due.is("not told", right(TWO + "button o on a by b does d;").button(0, 1), 10);
        Due.fault(TWO + "button o on a by b does d thread 0;", 4, 60);
        Due.fault(TWO + "button o on a by b does d thread 100;", 4, 60);
        Doc.terms(4, "after a BUTTON told ahead");
        Due.is("told", right(TWO + "button o on a by b does d;button p on b by a does d after o;").button(1, 7), 0);
        Due.fault(TWO + "button o on a by b does d after o;", 5, 59);
        Due.fault(TWO + "button o on a by b does d after p;button p on a by b does d;", 5, 59);
        Due.fault(TWO + "button o on a by b does d after a;", 5, 59);
    }

    private static void friends() {
        Doc.terms(4, "15 FRIENDS");
        StringBuilder text = new StringBuilder(SIX);
        for (char a = 'a'; a < 'g'; a++) {
            for (char b = (char) (a + 1); b < 'g'; b++) {
                text.append("friend ").append(a).append(' ').append(b).append(" 1;");
            }
        }
        Due.is("fifteen", right(text.toString()).about(3), 15);
        Due.fault(text + "friend a b 1;", 2, text.length());
        Doc.terms(4, "two unlike MEN told ahead, each two once in whichever order");
        Due.fault("man a;friend a b 1;man b;", 5, 15);
        Due.fault("man b;friend a b 1;man a;", 5, 13);
        Due.fault(TWO + "friend a a 1;", 3, 36);
        Due.fault(TWO + "friend a b 1;friend a b 1;", 3, 49);
        Due.fault(TWO + "friend a b 1;friend b a 1;", 3, 49);
        Due.fault(TWO + "friend a b 0;friend b a 0;", 3, 49);
        Doc.terms(4, "-9 .. 9");
        Due.is("-9", right(TWO + "friend a b -9;").likes(0, 1), -9);
        Due.is("9", right(TWO + "friend a b 9;").likes(1, 0), 9);
        Due.fault(TWO + "friend a b 10;", 4, 38);
        Due.fault(TWO + "friend a b -10;", 4, 38);
    }

    private static void toldOnce() {
        Doc.terms(4, "wear, day (HOURS of a DAY, 1 .. 24; 8)");
        Due.is("1", right("day 1;").about(7), 1);
        Due.is("24", right("day 24;").about(7), 24);
        Due.is("not told", right("man a;").about(7), 8);
        Due.fault("day 0;", 4, 4);
        Due.fault("day 25;", 4, 4);
        Doc.terms(4, "storm (0 .. 100; 0)");
        Due.is("0", stormsOf("storm 0;"), 0);
        Due.is("100", stormsOf("storm 100;"), 10);
        Due.is("not told", stormsOf(""), 0);
        Due.fault("storm 101;", 4, 6);
        Doc.terms(4, "draw (0 .. 999; 0)");
        Due.is("0", right("draw 0;").about(5), 0);
        Due.is("999", right("draw 999;").about(5), 999);
        Due.is("not told", right("man a;").about(5), 0);
        Due.fault("draw 1000;", 4, 5);
        Doc.terms(4, "once each");
        for (String word : "wear day storm draw".split(" ")) {
            String line = word + " 1;";
            right(line);
            Due.fault(line + line, 2, line.length());
            Due.fault(line + "man a;" + line, 2, line.length() + 6);
            for (String other : "wear day storm draw".split(" ")) {
                String between = word.equals(other) ? "" : other + " 1;";
                Due.fault(line + between + line, 2, line.length() + between.length());
            }
        }
        String all = "wear 1;day 1;storm 1;draw 1;";
        right(all);
        for (String word : "wear day storm draw".split(" ")) {
            Due.fault(all + word + " 1;", 2, all.length());
        }
    }

    /** How many of ten days by all seeds' way storm. */
    private static int stormsOf(String line) {
        OathButtons x = right(TWO + "button o on a by b does d thread 99;wear storm;draw 17;" + line);
        for (int i = 0; i < 10; i++) {
            x.day();
        }
        return 99 - x.button(0, 1);
    }

    private static int units(String formula) {
        return right("wear " + formula + ";").about(13);
    }

    private static void formulaLines() {
        Doc.terms(4, "60 units in all, 30 in one e");
        String thirty = "1" + "+1".repeat(29);
        Due.is("thirty", units(thirty), 30);
        Due.fault("wear " + thirty + "+1;", 2, 65);
        for (String sign : new String[] {"+", "-", "*", "/", "%", " and ", " or "}) {
            String joined = "1" + (sign + "1").repeat(29);
            Due.is("thirty by " + sign, units(joined), 30);
            Due.fault("wear " + joined + sign + "1;", 2, 5 + joined.length() + sign.length());
            Due.fault("wear " + joined + sign + "not 1;", 2, 5 + joined.length() + sign.length() + (sign.length() > 2 ? 4 : 0));
        }
        Due.is("a bracket is one, and what is in it", units("1" + "+1".repeat(27) + "+(1)"), 30);
        Due.fault("wear 1" + "+1".repeat(28) + "+(1);", 2, 64);
        Due.is("by and, or, not", units("not 1" + " and 1 or 1<1".repeat(9) + " or 1 and 1"), 30);
        Due.fault("wear not 1" + " and 1 or 1<1".repeat(9) + " or 1 and 1 or not 1;", 2, 146);
        Doc.terms(4, "(a unit ( e ), or a one behind not, within 6 others at most)");
        Due.is("seven brackets", units("(((((((1)))))))"), 8);
        Due.fault("wear ((((((((1))))))));", 2, 12);
        Due.is("seven nots", units("not not not not not not not 1"), 1);
        Due.fault("wear not not not not not not not not 1;", 2, 33);
        Due.is("both, seven", units("not(not(not(not 1)))"), 4);
        Due.fault("wear not(not(not(not(1))));", 2, 20);
        Due.fault("wear (not(not(not(not 1))));", 2, 18);
        Due.is("what is closed does not count", units("((((((1))))))+((((((1))))))"), 14);
        Due.is("a plain unit within seven", units("(((((((thread+1)))))))"), 9);
    }
}
