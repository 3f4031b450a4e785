/** Promises 28, 29 and 31: truces. */
public final class TruceTest {
    private static final String FOUR = "man a;man b;man c;man d;";

    public static void main(String[] args) {
        truce();
        calm();
        lies();
        Due.endTest();
    }

    private static void truce(String text, int worth, int... with) {
        OathButtons x = Due.of(text);
        Due.is("truce() of " + text, x.truce(), worth);
        Due.lies(x, "truce() of " + text, with);
    }

    private static void calm(String text, int ways, int... with) {
        OathButtons x = Due.of(text);
        Due.is("calm() of " + text, x.calm(), ways);
        Due.lies(x, "calm() of " + text, with);
    }

    private static void truce() {
        truce("", 0);
        truce("man a;", 0, -1);
        truce("man a;man b;", 0, -1, -1);
        truce("man a;man b;friend b a 1;", 1, 1, 0);
        truce("man a;man b;friend b a -1;", 0, -1, -1);
        // Alone goes ahead of a two that is worth nothing.
        truce("man a;man b;friend b a 0;", 0, -1, -1);
        // Two small ones together are more than the greatest.
        truce(FOUR + "friend a b 5;friend b c 9;friend c d 5;", 10, 1, 0, 3, 2);
        truce(FOUR + "friend a b 4;friend b c 9;friend c d 4;", 9, -1, 2, 1, -1);
        // Of like ones: a alone goes first.
        truce(FOUR + "friend a b 4;friend b c 8;friend c d 4;", 8, -1, 2, 1, -1);
        // Of like ones: with the lowest number.
        truce(FOUR + "friend a d 3;friend b c 3;friend a c 3;friend b d 3;friend a b 3;friend c d 3;", 6, 1, 0, 3, 2);
        truce("man a;man b;man c;man d;man e;man f;friend a f 9;friend b e 9;friend c d 9;friend a b 8;friend c e 8;"
            + "friend d f 8;", 27, 5, 4, 3, 2, 1, 0);
    }

    private static void calm() {
        calm("", 1);
        calm("man a;", 1, -1);
        calm("man a;man b;", 1, -1, -1);
        calm("man a;man b;friend a b 1;", 1, 1, 0);
        // Worth nothing, or less: none of the two would leave another for it, none is kept from it.
        calm("man a;man b;friend a b 0;", 2, -1, -1);
        calm("man a;man b;friend a b -5;", 2, -1, -1);
        calm(FOUR + "friend a b 5;friend b c 9;friend c d 5;", 1, -1, 2, 1, -1);
        // Both must have more: like is not enough.
        calm(FOUR + "friend a b 5;friend b c 5;friend c d 5;", 2, -1, 2, 1, -1);
        calm(FOUR + "friend a b 3;friend c d 3;friend a c 3;friend b d 3;friend a d 3;friend b c 3;", 3, 1, 0, 3, 2);
        calm("man a;man b;man c;friend a b -2;friend b c -3;friend a c -4;", 4, -1, -1, -1);
        // Men with no friends are alone, whatever the others do.
        calm("man a;man b;man c;friend a c 2;", 1, 2, -1, 0);
    }

    private static void lies() {
        OathButtons x = Due.of(FOUR + "friend a b 5;friend b c 9;friend c d 5;deed x hours 1;button p on a by b never x;");
        x.truce();
        Due.lies(x, "truce", 1, 0, 3, 2);
        x.calm();
        Due.lies(x, "calm", -1, 2, 1, -1);
        x.does(0, 0);
        x.day();
        x.undo();
        x.image(0);
        x.back(0);
        Due.lies(x, "acts leave what lies there", -1, 2, 1, -1);
        Due.is("lies(4)", x.lies(4), -2);
        Due.is("lies(MIN)", x.lies(Integer.MIN_VALUE), -2);
        Due.is("lies(MAX)", x.lies(Integer.MAX_VALUE), -2);
        x.keep(0, 0);
        Due.lies(x, "keep");
    }
}
