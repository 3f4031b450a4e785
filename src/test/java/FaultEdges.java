/** Promises 4 and 5: the faults, one by one, and where they are; promise 15: what a formula comes to. */
final class FaultEdges {
    private static final String TWO = "man a;man b;deed d hours 1;";

    private FaultEdges() { }

    static void run() {
        places();
        noToken();
        cannotStand();
        linesCutShort();
        toldAlready();
        numbersAndNames();
        formulaGrammar();
        formulaValues();
    }

    private static void places() {
        Doc.terms(5, "FAULTS, the first by its place (bytes from 0; the end: the text's length)");
        Due.fault("#", 1, 0);
        Due.fault("   #", 1, 3);
        Due.fault("man", 2, 3);
        Due.fault("man a", 2, 5);
        Due.fault("man a  \n", 2, 8);
        Due.fault("day 25;#", 4, 4);
        Due.fault("friend a b 10;day 0;", 5, 7);
        Due.fault("day 8 man a;#", 2, 6);
        Due.fault("man a;man a #", 3, 10);
        // The fault of V lies ahead of the token that follows its number.
        Due.fault(TWO + "friend a b -10#", 4, 38);
        Due.fault(TWO + "friend a b -#10", 1, 39);
        Doc.terms(5, "at one place the least");
        Due.fault("man #;", 1, 4);
        Due.fault("man 12345;", 1, 4);
        Due.fault("day 99999;", 1, 4);
        Due.fault("day 25a;", 1, 4);
        Due.fault("man abcdefghi;man abcdefghi;", 1, 4);
        Due.fault(TWO + "friend a abcdefghi;", 1, 36);
        Due.fault("wear 1" + "+1".repeat(29) + "+#;", 1, 65);
        // A word that stands for itself is no name, told or not: it can't stand there.
        Due.fault(TWO + "friend a until;", 2, 36);
        // By his own man, and that none is told: the first name is at fault already.
        Due.fault(TWO + "button o on z by z does d;", 5, 39);
        Due.fault(TWO + "friend z z 1;", 5, 34);
        // Too many, and a name told already behind it.
        Due.fault("man a;man b;man c;man d;man e;man f;man a;", 2, 36);
        Due.fault("day 1;day 99;", 2, 6);
    }

    private static void noToken() {
        Doc.terms(5, "1 no TOKEN");
        for (String text : new String[] {"#", "A", "\t", "\r", "\u0000", "\u007f", "\u0080", "\u00e9", "\u00ff", ",", ".", ":", "_", "{", "`", "!", "&"}) {
            Due.fault(text, 1, 0);
            Due.fault("man a;" + text, 1, 6);
            Due.fault("wear " + text, 1, 5);
        }
        Due.fault("man a#;", 1, 5);
        Due.fault("man abcdefghi", 1, 4);
        Due.fault("abcdefghi", 1, 0);
        Due.fault("12345", 1, 0);
        Due.fault("1a", 1, 0);
    }

    private static void cannotStand() {
        Doc.terms(5, "2 one that can't stand there (one of a sort too many or a second time: at the line's first word");
        Due.fault("man a;man b;man c;man d;man e;man f;  man g;", 2, 38);
        StringBuilder deeds = new StringBuilder();
        StringBuilder buttons = new StringBuilder(TWO);
        for (char name = 'a'; name < 'k'; name++) {
            deeds.append(name < 'g' ? "deed " + name + " hours 1;" : "");
            buttons.append("button ").append(name).append(" on a by b does d;");
        }
        Due.fault(deeds + " deed", 2, deeds.length() + 1);
        Due.fault(buttons + " button #", 2, buttons.length() + 1);
        for (String word : "wear day storm draw".split(" ")) {
            Due.fault(word + " 1; " + word, 2, word.length() + 4);
        }
        Doc.terms(5, "a unit too many, what is within 7 others: at its first TOKEN, or the not)");
        String thirty = "wear 1" + "+1".repeat(29);
        Due.fault(thirty + "+ thread;", 2, 66);
        Due.fault(thirty + "+((1));", 2, 65);
        Due.fault(thirty + " and not not 1;", 2, 77);
        Due.fault("wear (((((((1+(2)))))))) ;", 2, 14);
        Due.fault("wear (((((((not 2)))))));", 2, 12);
        Due.fault("wear not not not not not not not(1);", 2, 32);
        Due.fault("wear not not not not not not not not(1);", 2, 33);
    }

    /** Each line ended behind each of its tokens: by its sign, by the end of the text, and by what is no token. */
    private static void linesCutShort() {
        Doc.terms(5, "2 one that can't stand there");
        cutShort("", "man a colour 1 holes 2 left", "a 1 2 left");
        cutShort("", "deed d hours 3", "3");
        String ahead = TWO + "button p on a by b does d;";
        cutShort(ahead, "button o on b by a does d until 1 thread 2 after p", "d 1 2 p");
        cutShort(ahead, "button o on b by a never d thread 2 after p", "d 2 p");
        cutShort(TWO, "friend a b - 9", "9");
        cutShort("", "day 3", "3");
        cutShort("", "storm 3", "3");
        cutShort("", "draw 3", "3");
        cutShort("", "wear 1 + thread - holes * 3 / 4 % storm < 2 and day > 5 or not 6 = 7", "1 2 3 4 5 6 7 thread holes storm day");
        cutShort("", "wear ( 1 + 2 ) * 3", ") 3");
        cutShort("", "wear not ( ( 1 and 2 ) or 3 )", "");
    }

    /** Behind which of its tokens the line may end is told by the tokens; a bracket's last sign ends the last line. */
    private static void cutShort(String ahead, String line, String ends) {
        String[] tokens = line.split(" ");
        java.util.List<String> right = java.util.Arrays.asList(ends.split(" "));
        StringBuilder text = new StringBuilder(ahead);
        for (int i = 0; i < tokens.length; i++) {
            text.append(i > 0 ? " " : "").append(tokens[i]);
            boolean begun = i > (tokens[0].equals("wear") ? 0 : 1);
            boolean first = tokens[0].equals("man") && i == 1;
            if ((begun || first) && right.contains(tokens[i]) || i == tokens.length - 1) {
                Due.of(text + ";");
            } else {
                Due.fault(text + " ;", 2, text.length() + 1);
            }
            Due.fault(text + " ", 2, text.length() + 1);
            Due.fault(text + " #", 1, text.length() + 1);
        }
    }

    private static void toldAlready() {
        Doc.terms(5, "3 a NAME told already (of its sort)");
        Due.fault("man a;man b;man a;", 3, 16);
        Due.fault("deed d hours 1;deed d hours 1;", 3, 20);
        Due.fault(TWO + "button o on a by b does d;button o", 3, 60);
        Due.of("man a;deed a hours 1;man b;deed b hours 1;button a on a by b does b;button b on b by a does a after a;");
        Doc.terms(5, "a BUTTON by its own MAN");
        Due.fault(TWO + "button o on b by b does d;", 3, 44);
        Doc.terms(5, "a FRIEND of himself");
        Due.fault(TWO + "friend b b 1;", 3, 36);
        Doc.terms(5, "one told already (at the second NAME)");
        Due.fault(TWO + "friend a b 1; friend  b  a 1;", 3, 52);
        Due.fault(TWO + "friend a b -9;friend a b 10;", 3, 50);
    }

    private static void numbersAndNames() {
        Doc.terms(5, "4 a number that can't be (of V at its sign, if it has one)");
        Due.fault(TWO + "friend a b 10;", 4, 38);
        Due.fault(TWO + "friend a b  - 10;", 4, 39);
        Due.fault(TWO + "friend a b 9999;", 4, 38);
        Due.fault("man a colour 0010;", 4, 13);
        Doc.terms(5, "5 a NAME that nothing of the sort has");
        Due.fault(TWO + "button o on d by b does d;", 5, 39);
        Due.fault(TWO + "button o on a by d does d;", 5, 44);
        Due.fault(TWO + "button o on a by b does a;", 5, 51);
        Due.fault(TWO + "button o on a by b never o;", 5, 52);
        Due.fault(TWO + "button o on a by b does d after d;", 5, 59);
        Due.fault(TWO + "friend d a 1;", 5, 34);
        Due.fault(TWO + "friend a d 1;", 5, 36);
    }

    private static void formulaGrammar() {
        Doc.terms(4, "e = both {or both}. both = one {and one}");
        Due.is("or goes behind and", value("1 or 0 and 0", 0), 1);
        Due.is("three", value("0 or 0 or 1", 0), 1);
        Due.is("three", value("1 and 1 and 0", 0), 0);
        Due.fault("wear 1 or;", 2, 9);
        Due.fault("wear 1 and;", 2, 10);
        Due.fault("wear or 1;", 2, 5);
        Doc.terms(4, "one = not one | sum [(< | > | =) sum]");
        Due.is("not takes the relation with it", value("not 5<3", 0), 1);
        Due.is("but no and", value("not 0 and 0", 0), 0);
        Due.fault("wear not;", 2, 8);
        Due.fault("wear 1<2<3;", 2, 8);
        Due.fault("wear 1=2>3;", 2, 8);
        Due.fault("wear 1<not 2;", 2, 7);
        Due.fault("wear 1<=2;", 2, 7);
        Doc.terms(4, "sum = term {(+ | -) term}. term = unit {(* | / | %) unit}");
        Due.is("from the left", value("20-5-3", 0), 12);
        Due.is("from the left", value("40/4*5", 0), 50);
        Due.is("from the left", value("50%7*5", 0), 5);
        Due.is("* ahead of +", value("2+3*4-1", 0), 13);
        Due.fault("wear 1+;", 2, 7);
        Due.fault("wear 1*-1;", 2, 7);
        Due.fault("wear -1;", 2, 5);
        Due.fault("wear 1+not 1;", 2, 7);
        Doc.terms(4, "unit = N | thread | holes | storm | day | ( e )");
        Due.is("all of them", value("thread-holes*10+storm+day+(2 or 0)", 1), 99 - 30 + 1 + 0 + 1);
        Due.is("9999", value("9999/101", 0), 99);
        for (String word : "man colour left deed hours button on by does never until after friend wear draw x".split(" ")) {
            Due.fault("wear " + word + ";", 2, 5);
        }
        Due.fault("wear ();", 2, 6);
        Due.fault("wear (1;", 2, 7);
        Due.fault("wear 1);", 2, 6);
    }

    /** What a formula comes to, 0 to 99, on day 0 with a thread of 99, by a man with 3 holes. */
    private static int value(String formula, int storm) {
        OathButtons x = Due.of("man a holes 1;man b holes 3;deed d hours 1;button o on a by b does d thread 99;wear " + formula + ";");
        return 99 - x.holds(0, 1, storm);
    }

    private static void formulaValues() {
        Doc.terms(15, "ints, wrapping");
        // 8192 * 8192 * 32 is 2 to the 31st: the least number of all.
        String least = "(8192*8192*32)";
        Due.is("too high: below 0", value("(" + least + "<0)*7", 0), 7);
        Due.is("too low: above 0", value("(" + least + "-1>0)*7", 0), 7);
        Due.is("all the way round", value("8192*8192*64+7", 0), 7);
        Due.is("the highest and 1", value("(" + least + "-1+1=" + least + ")*7", 0), 7);
        // 9999 to the third is 999,700,029,999, which 2 to the 32nd leaves as 1,027,349,969 below 0.
        Due.is("a product", value("9999*9999*9999/(0-9999)/9999", 0), 10);
        Doc.terms(15, "/ cut, % its rest, both by 0: 0");
        Due.is("7/2", value("7/2", 0), 3);
        Due.is("-7/2, cut to 0", value("(0-7)/2+10", 0), 7);
        Due.is("7/-2", value("7/(0-2)+10", 0), 7);
        Due.is("7%4", value("7%4", 0), 3);
        Due.is("-7%4", value("(0-7)%4+10", 0), 7);
        Due.is("7%-4", value("7%(0-4)+10", 0), 13);
        Due.is("5/0", value("5/0+4", 0), 4);
        Due.is("5%0", value("5%0+4", 0), 4);
        Due.is("0/0", value("0/0+4", 0), 4);
        Due.is("by a storm that is none", value("9/storm+4", 0), 4);
        Due.is("by day 0", value("9%day+4", 0), 4);
        Due.is("the least by -1", value("(" + least + "/(0-1)=" + least + ")*7", 0), 7);
        Due.is("the least's rest by -1", value(least + "%(0-1)+4", 0), 4);
        Doc.terms(15, "relations, and, or, not are 1 or 0, of what is not 0");
        String[] ones = {"2<3", "3>2", "3=3", "5 and 7", "0 or 9", "9 or 0", "not 0", "not not 5", "(0-1)and(0-1)", "(0-1)or 0"};
        String[] zeros = {"3<3", "3<2", "3>3", "2>3", "3=4", "5 and 0", "0 and 5", "0 or 0", "not 5", "not(0-1)"};
        for (String one : ones) {
            Due.is(one, value("(" + one + ")*7+1", 0), 8);
        }
        for (String zero : zeros) {
            Due.is(zero, value("(" + zero + ")*7+1", 0), 1);
        }
    }
}
