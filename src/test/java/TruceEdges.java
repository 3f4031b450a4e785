/** Promises 28 and 29: truces, the best one, and those that none would leave. */
final class TruceEdges {
    private static final String THREE = "man a;man b;man c;";
    private static final String FOUR = THREE + "man d;";
    private static final String SIX = FOUR + "man e;man f;";

    private TruceEdges() { }

    static void run() {
        truce();
        truceAnswers();
        calm();
        calmAnswers();
    }

    private static void truces(String call, String text, int worth, int... with) {
        OathButtons x = Due.of(text);
        Due.is(call + ": truce()", x.truce(), worth);
        Due.lies(x, call, with);
    }

    private static void calms(String call, String text, int ways, int... with) {
        OathButtons x = Due.of(text);
        Due.is(call + ": calm()", x.calm(), ways);
        Due.lies(x, call, with);
    }

    /** All men of six friends of one another, worth this. */
    private static String all(int worth) {
        StringBuilder text = new StringBuilder(SIX);
        for (char a = 'a'; a < 'g'; a++) {
            for (char b = (char) (a + 1); b < 'g'; b++) {
                text.append("friend ").append(b).append(' ').append(a).append(' ').append(worth).append(';');
            }
        }
        return text.toString();
    }

    private static void truce() {
        Doc.terms(28, "TRUCE: twos of MEN, each in one at most, only such as are told as FRIENDS;");
        truces("two", THREE + "friend a c 2;", 2, 2, -1, 0);
        truces("each in one", THREE + "friend a b 2;friend b c 3;friend a c 4;", 4, 2, -1, 0);
        truces("none is told", SIX, 0, -1, -1, -1, -1, -1, -1);
        truces("three twos", SIX + "friend a f 1;friend b e 1;friend c d 1;", 3, 5, 4, 3, 2, 1, 0);
        Doc.terms(28, "worth what is told of them together: the greatest;");
        truces("two small ones", FOUR + "friend a b 5;friend b c 9;friend c d 5;", 10, 1, 0, 3, 2);
        truces("one great one", FOUR + "friend a b 4;friend b c 9;friend c d 4;", 9, -1, 2, 1, -1);
        truces("below 0", THREE + "friend a b -1;friend b c -9;", 0, -1, -1, -1);
        truces("one of them below 0", FOUR + "friend a b 5;friend c d -1;", 5, 1, 0, -1, -1);
        truces("the most there is", all(9), 27, 1, 0, 3, 2, 5, 4);
        truces("the least there is", all(-9), 0, -1, -1, -1, -1, -1, -1);
        Doc.terms(28, "of like ones the first (MAN by MAN: with whom; alone first).");
        truces("worth 0: alone", THREE + "friend a b 0;friend b c 0;", 0, -1, -1, -1);
        truces("worth 0: alone", all(0), 0, -1, -1, -1, -1, -1, -1);
        truces("the first alone", THREE + "friend a b 3;friend b c 3;", 3, -1, 2, 1);
        truces("the first alone, though more are not", FOUR + "friend a b 4;friend b c 8;friend c d 4;", 8, -1, 2, 1, -1);
        truces("with the first", FOUR + "friend a d 3;friend b c 3;friend a c 3;friend b d 3;friend a b 3;friend c d 3;", 6, 1, 0, 3, 2);
        truces("with the second", FOUR + "friend a d 3;friend b c 3;friend a c 3;friend b d 3;", 6, 2, 3, 0, 1);
        truces("by the second man", SIX + "friend a b 1;friend c d 2;friend d e 2;", 3, 1, 0, -1, 4, 3, -1);
    }

    private static void truceAnswers() {
        Doc.promise(28, "TRUCE: what it is worth.");
        Due.is("of none at all", new OathButtons().truce(), 0);
        Due.is("of one", Due.of("man a;").truce(), 0);
        Due.is("of two", Due.of("man a;man b;friend b a 7;").truce(), 7);
        Doc.promise(28, "With whom each MAN is lies there then (NONE: with none).");
        OathButtons x = Due.of(FOUR + "friend d b 7;");
        x.truce();
        Due.lies(x, "truce()", -1, 3, -1, 1);
        x = new OathButtons();
        x.truce();
        Due.lies(x, "of none at all");
        truces("of one", "man a;", 0, -1);
    }

    private static void calm() {
        Doc.terms(29, "CALM are those in which no two who are told as FRIENDS, and not with one another, would both have more of one another "
            + "than of those with whom they are (0 alone).");
        calms("two alone would", "man a;man b;friend a b 1;", 1, 1, 0);
        calms("worth 0: none would", "man a;man b;friend a b 0;", 2, -1, -1);
        calms("below 0: none would", "man a;man b;friend a b -1;", 2, -1, -1);
        calms("not told as FRIENDS", "man a;man b;man c;friend a c 2;", 1, 2, -1, 0);
        calms("the greater one", THREE + "friend a b 2;friend b c 3;", 1, -1, 2, 1);
        calms("both must have more", THREE + "friend a b 3;friend b c 3;", 2, -1, 2, 1);
        calms("one of them would not", FOUR + "friend a b 5;friend b c 9;friend c d 5;", 1, -1, 2, 1, -1);
        calms("like ones", FOUR + "friend a b 5;friend b c 5;friend c d 5;", 2, -1, 2, 1, -1);
        // Beside a with b alone, c has 0 already; beside a with b and c with d, a and c would both have more.
        calms("below 0, and others worth 0", FOUR + "friend a b -1;friend c d -1;friend a c 0;", 4, -1, -1, -1, -1);
        calms("one of them has as much alone", FOUR + "friend a b -1;friend a c 0;friend b d 0;", 5, -1, -1, -1, -1);
        calms("all like", all(1), 15, 1, 0, 3, 2, 5, 4);
        calms("all below 0", all(-1), 76, -1, -1, -1, -1, -1, -1);
    }

    private static void calmAnswers() {
        Doc.promise(29, "CALM: how many ways to sew for one another are.");
        Due.is("of none at all", new OathButtons().calm(), 1);
        Due.is("of one", Due.of("man a;").calm(), 1);
        Due.is("of six, none told", Due.of(SIX).calm(), 1);
        Due.is("three, each like", Due.of(FOUR + "friend a b 3;friend c d 3;friend a c 3;friend b d 3;friend a d 3;friend b c 3;").calm(), 3);
        Doc.promise(29, "The first lies there then (MAN by MAN: with whom; alone first).");
        OathButtons x = Due.of(FOUR + "friend a d 3;friend b c 3;friend a c 3;friend b d 3;");
        Due.is("two ways", x.calm(), 2);
        Due.lies(x, "with the first", 2, 3, 0, 1);
        x = Due.of("man a;man b;friend a b -3;");
        x.calm();
        Due.lies(x, "alone", -1, -1);
        x = new OathButtons();
        x.calm();
        Due.lies(x, "of none at all");
    }
}
