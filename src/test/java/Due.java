import java.nio.charset.StandardCharsets;

/** What every test of the project uses: feeding a text, and counting answers that are not as due. */
final class Due {
    private static int wrong;
    private static int asked;
    private static String under = "";

    private Due() { }

    /** What the answers that follow are about; told with each that is wrong. */
    static void under(String what) {
        under = what;
    }

    static void is(String call, long got, long want) {
        asked++;
        if (got != want) {
            wrong++;
            if (wrong <= 50) {
                System.out.println((under.isEmpty() ? "" : under + ": ") + call + " answered " + got + ", due is " + want);
            }
        }
    }

    static void is(String call, boolean got, boolean want) {
        is(call, got ? 1 : 0, want ? 1 : 0);
    }

    static boolean anyWrong() {
        return wrong > 0;
    }

    /** Puts the text on an empty tape. */
    static void feed(OathButtons x, String text) {
        feed(x, text.getBytes(StandardCharsets.ISO_8859_1));
    }

    static void feed(OathButtons x, byte[] text) {
        for (int from = 0; from < text.length; from += 20) {
            int[] five = new int[5];
            for (int i = 0; i < 20; i++) {
                int sign = from + i < text.length ? text[from + i] & 255 : 0;
                five[i / 4] = five[i / 4] << 8 | sign;
            }
            x.feed(five[0], five[1], five[2], five[3], five[4]);
        }
        x.end(text.length);
    }

    /** A new object whose regiment is the text. */
    static OathButtons of(String text) {
        OathButtons x = new OathButtons();
        feed(x, text);
        int answer = x.regiment();
        if (answer < 0) {
            is("regiment() of " + text + " with fault " + x.fault(0) + " at " + x.fault(1), answer, 0);
        }
        return x;
    }

    static void lies(OathButtons x, String call, int... numbers) {
        is(call + ": how many lie there", x.about(14), numbers.length);
        for (int i = 0; i < numbers.length; i++) {
            is(call + ": lies(" + i + ")", x.lies(i), numbers[i]);
        }
        is(call + ": lies behind the last", x.lies(numbers.length), -2);
        is(call + ": lies(-1)", x.lies(-1), -2);
    }

    /** Numbers that are none of 0 .. count - 1: next to them, far off, and such as a shift would take for one of them. */
    static int[] beyond(int count) {
        int[] some = {count, count + 1, count + 32, -1, -2, -31, -32, -64, 256, 1 << 30, Integer.MAX_VALUE, Integer.MIN_VALUE,
            Integer.MIN_VALUE + 1};
        return some;
    }

    /** All that can be seen of how an object is, without a change. */
    static String seen(OathButtons x) {
        StringBuilder s = new StringBuilder();
        for (int what = 0; what < 15; what++) {
            s.append(x.about(what)).append(' ');
        }
        for (int i = 0; i < x.about(0); i++) {
            s.append(x.button(i, 0)).append(':').append(x.button(i, 1)).append(' ');
        }
        for (int i = 0; i < x.about(14); i++) {
            s.append(x.lies(i)).append(' ');
        }
        return s.append(x.fault(0)).append(' ').append(x.fault(1)).toString();
    }

    /** That nothing was done since the object was seen so. */
    static void same(String call, OathButtons x, String before) {
        String now = seen(x);
        is(call + " did something: " + before + " became " + now, now.equals(before), true);
    }

    /** Puts a text on the tape of a new object: its fault, and where. */
    static void fault(String text, int kind, int place) {
        OathButtons x = new OathButtons();
        feed(x, text);
        is("regiment() of '" + text + "'", x.regiment(), -1);
        is("fault(0) of '" + text + "'", x.fault(0), kind);
        is("fault(1) of '" + text + "'", x.fault(1), place);
    }

    static void endTest() {
        System.out.println(wrong == 0 ? "all " + asked + " answers are as due" : wrong + " answers are not as due");
        if (wrong != 0) {
            System.exit(1);
        }
    }
}
