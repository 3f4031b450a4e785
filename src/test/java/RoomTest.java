import java.lang.management.ManagementFactory;

/** All calls of one run live in one room: no call makes an object, and one object is small. */
public final class RoomTest {
    private static final String TEXT = "man a left;man b;man c;man d;man e;man f;"
        + "deed a hours 9;deed b hours 8;deed c hours 7;deed d hours 6;deed e hours 5;deed f hours 4;"
        + "button a on a by b does a until 5;button b on a by c does b until 4;button c on a by d does c;"
        + "button d on a by e does d thread 99 after a;button e on a by f never e until 3 after d;button f on a by b does e;"
        + "button g on a by c does f until 2;button h on b by a never a;friend a b 3;friend b c 4;friend c d 5;friend e f -1;"
        + "wear 1+storm*(holes>2)+(not(thread<3 and day%2=0));day 7;storm 33;draw 5;";

    public static void main(String[] args) {
        objectIsSmall();
        callsMakeNothing();
        Due.endTest();
    }

    private static final com.sun.management.ThreadMXBean BEAN =
        (com.sun.management.ThreadMXBean) ManagementFactory.getThreadMXBean();

    private static long made() {
        return BEAN.getCurrentThreadAllocatedBytes();
    }

    private static void objectIsSmall() {
        made();
        OathButtons[] many = new OathButtons[512];
        long before = made();
        for (int i = 0; i < many.length; i++) {
            many[i] = new OathButtons();
        }
        long each = (made() - before) / many.length;
        System.out.println("one object takes " + each + " bytes");
        // 7.3 million elements for a run: even one with 512 objects has 14,000 for each.
        Due.is("bytes of one object are too many", each > 30000, false);
    }

    private static void callsMakeNothing() {
        OathButtons x = Due.of(TEXT);
        int[] words = new int[(TEXT.length() + 19) / 20 * 5];
        for (int i = 0; i < TEXT.length(); i++) {
            words[i / 4] |= TEXT.charAt(i) << 24 - i % 4 * 8;
        }
        for (int warm = 0; warm < 3; warm++) {
            callAll(x, words, TEXT.length());
        }
        made();
        long before = made();
        callAll(x, words, TEXT.length());
        long after = made();
        // Asking for the number may itself take a little.
        Due.is("calls made objects of " + (after - before) + " bytes", after - before > 256, false);
    }

    private static int callAll(OathButtons x, int[] words, int length) {
        for (int i = 0; i + 4 < words.length; i += 5) {
            x.feed(words[i], words[i + 1], words[i + 2], words[i + 3], words[i + 4]);
        }
        x.end(length);
        int sum = x.regiment() + x.fault(0) + x.free() + x.truce() + x.calm() + x.later(1);
        x.feed(0x24242424, 0, 0, 0, 0);
        sum += x.regiment();
        for (int a = -1; a < 11; a++) {
            for (int b = -1; b < 8; b++) {
                sum += x.button(a, b) + x.coat(a, b) + x.sworn(a, b) + x.keep(a, b) + x.ties(a, b) + x.clash(a, b) + x.leave(a, b);
                sum += x.asked(a, b) + x.holds(a, b * 9, 1) + (int) x.odds(a, b, 0) + x.will(a, b * 9) + x.likes(a, b);
                sum += x.tug(b, a, a > b) + x.ask(b, a);
            }
            sum += x.rest(a) + x.many(a) + x.first(a) + x.lies(a) + x.swore(a) + x.about(a) + x.image(a) + (x.untell(a) ? 1 : 0);
        }
        for (int i = 0; i < 50; i++) {
            sum += x.day() + x.does(1, i % 6) + x.sew(i % 8) + (x.undoes(i % 8) ? 1 : 0) + x.cut(i % 8);
            sum += (x.undo() ? 1 : 0) + (x.undo() ? 1 : 0) + (x.redo() ? 1 : 0);
        }
        return sum + x.back(0);
    }
}
