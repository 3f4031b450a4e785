import java.nio.charset.StandardCharsets;

/** What every test of the project uses: feeding a text, and counting answers that are not as due. */
final class Due {
    private static int wrong;
    private static int asked;

    private Due() { }

    static void is(String call, long got, long want) {
        asked++;
        if (got != want) {
            wrong++;
            if (wrong <= 50) {
                System.out.println(call + " answered " + got + ", due is " + want);
            }
        }
    }

    static void is(String call, boolean got, boolean want) {
        is(call, got ? 1 : 0, want ? 1 : 0);
    }

    static boolean anyWrong() {
        return wrong > 0;
    }

    /** Puts the text on an empty tape. */
    static void feed(OathButtons x, String text) {
        feed(x, text.getBytes(StandardCharsets.ISO_8859_1));
    }

    static void feed(OathButtons x, byte[] text) {
        for (int from = 0; from < text.length; from += 20) {
            int[] five = new int[5];
            for (int i = 0; i < 20; i++) {
                int sign = from + i < text.length ? text[from + i] & 255 : 0;
                five[i / 4] = five[i / 4] << 8 | sign;
            }
            x.feed(five[0], five[1], five[2], five[3], five[4]);
        }
        x.end(text.length);
    }

    /** A new object whose regiment is the text. */
    static OathButtons of(String text) {
        OathButtons x = new OathButtons();
        feed(x, text);
        int answer = x.regiment();
        if (answer < 0) {
            is("regiment() of " + text + " with fault " + x.fault(0) + " at " + x.fault(1), answer, 0);
        }
        return x;
    }

    static void lies(OathButtons x, String call, int... numbers) {
        is(call + ": how many lie there", x.about(14), numbers.length);
        for (int i = 0; i < numbers.length; i++) {
            is(call + ": lies(" + i + ")", x.lies(i), numbers[i]);
        }
        is(call + ": lies behind the last", x.lies(numbers.length), -2);
        is(call + ": lies(-1)", x.lies(-1), -2);
    }

    static void endTest() {
        System.out.println(wrong == 0 ? "all " + asked + " answers are as due" : wrong + " answers are not as due");
        if (wrong != 0) {
            System.exit(1);
        }
    }
}
