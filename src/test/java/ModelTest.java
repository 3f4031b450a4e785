import java.util.Random;

/** All promises: random runs of calls, each answer against the model's. */
public final class ModelTest {
    private static final int RUNS = 400;
    private static final int FAULTY_TEXTS = 30000;
    private final Random random;
    private final OathButtons x = new OathButtons();
    private final Model model = new Model();
    private String trail = "";

    private ModelTest(long seed) {
        random = new Random(seed);
    }

    public static void main(String[] args) {
        long from = args.length > 0 ? Long.parseLong(args[0]) : 1;
        int runs = args.length > 1 ? Integer.parseInt(args[1]) : RUNS;
        for (long seed = from; seed < from + runs && !Due.anyWrong(); seed++) {
            new ModelTest(seed).run();
        }
        int texts = args.length > 1 ? runs * 75 : FAULTY_TEXTS;
        ModelTest faulty = new ModelTest(from);
        for (int i = 0; i < texts && !Due.anyWrong(); i++) {
            faulty.fault();
        }
        System.out.println("texts with no fault, and with faults 1 .. 5: " + java.util.Arrays.toString(faulty.seen));
        Due.endTest();
    }

    private final int[] seen = new int[6];

    private void run() {
        tell(text());
        for (int i = 0; i < 440 && !Due.anyWrong(); i++) {
            call();
        }
        if (Due.anyWrong()) {
            System.out.println(trail);
        }
    }

    private void fault() {
        OathButtons y = new OathButtons();
        Model m = new Model();
        byte[] text = spoil(text()).getBytes(java.nio.charset.StandardCharsets.ISO_8859_1);
        for (int from = 0; from < text.length; from += 20) {
            int[] five = new int[5];
            for (int i = 0; i < 20; i++) {
                five[i / 4] = five[i / 4] << 8 | (from + i < text.length ? text[from + i] & 255 : 0);
            }
            y.feed(five[0], five[1], five[2], five[3], five[4]);
            m.feed(five[0], five[1], five[2], five[3], five[4]);
        }
        y.end(text.length);
        m.end(text.length);
        Due.is("regiment()", y.regiment(), m.regiment());
        Due.is("fault(0)", y.fault(0), m.fault(0));
        Due.is("fault(1)", y.fault(1), m.fault(1));
        for (int what = 0; what < 15; what++) {
            Due.is("about(" + what + ")", y.about(what), m.about(what));
        }
        seen[Math.max(0, Math.min(5, m.fault(0)))]++;
        if (Due.anyWrong()) {
            System.out.println(new String(text, java.nio.charset.StandardCharsets.ISO_8859_1));
        }
    }

    // ---- texts

    private int in(int least, int most) {
        return least + random.nextInt(most - least + 1);
    }

    private boolean odds(int percent) {
        return random.nextInt(100) < percent;
    }

    private String name(int i) {
        return String.valueOf((char) ('p' + i));
    }

    private String text() {
        StringBuilder s = new StringBuilder();
        int men = in(odds(10) ? 0 : 2, 6);
        int deeds = in(odds(10) ? 0 : 1, 6);
        for (int i = 0; i < men; i++) {
            s.append("man ").append(name(i));
            s.append(odds(70) ? " colour " + in(0, odds(70) ? 2 : 9) : "");
            s.append(odds(60) ? " holes " + in(1, 4) : "");
            s.append(odds(40) ? " left;" : ";");
        }
        boolean longDeeds = odds(40);
        for (int i = 0; i < deeds; i++) {
            s.append("deed ").append(name(i)).append(" hours ").append(in(1, longDeeds ? 24 : 6)).append(";\n");
        }
        int buttons = men < 2 || deeds < 1 ? 0 : in(0, 10);
        int crowd = in(2, Math.max(2, men));
        for (int i = 0; i < buttons; i++) {
            int on = in(0, Math.min(crowd, men) - 1);
            int by = (on + in(1, men - 1)) % men;
            s.append("button ").append(name(i)).append(" on ").append(name(on)).append(" by ").append(name(by));
            s.append(odds(70) ? " does " : " never ").append(name(in(0, deeds - 1)));
            s.append(odds(75) ? " until " + in(1, odds(70) ? 5 : 60) : "");
            s.append(odds(60) ? " thread " + in(1, odds(60) ? 9 : 99) : "");
            s.append(odds(45) && i > 0 ? " after " + name(in(0, i - 1)) : "").append(";");
        }
        int density = in(0, 100);
        int spread = odds(50) ? 2 : 9;
        for (int a = 0; a < men; a++) {
            for (int b = a + 1; b < men; b++) {
                if (odds(density)) {
                    boolean turned = odds(50);
                    s.append("friend ").append(name(turned ? b : a)).append(' ').append(name(turned ? a : b));
                    s.append(' ').append(in(-spread, spread)).append(';');
                }
            }
        }
        if (odds(80)) {
            s.append("wear ").append(formula(0)).append(";");
        }
        s.append(odds(60) ? "day " + in(1, 24) + ";" : "");
        s.append(odds(70) ? "storm " + in(0, 100) + ";" : "");
        s.append(odds(70) ? "draw " + in(0, 999) + "; " : "");
        return s.toString();
    }

    private String formula(int depth) {
        StringBuilder s = new StringBuilder(ones(depth));
        for (int i = 0; i < 2 && odds(25); i++) {
            s.append(odds(50) ? " and " : " or ").append(ones(depth));
        }
        return s.toString();
    }

    private String ones(int depth) {
        if (odds(12)) {
            return "not " + ones(depth + 1);
        }
        String[] relations = {"<", ">", "="};
        return sums(depth) + (odds(20) ? relations[in(0, 2)] + sums(depth) : "");
    }

    private String sums(int depth) {
        StringBuilder s = new StringBuilder(unit(depth));
        String[] signs = {"+", "-", "*", "/", "%"};
        for (int i = 0; i < 3 && odds(40); i++) {
            s.append(signs[in(0, 4)]).append(unit(depth));
        }
        return s.toString();
    }

    private String unit(int depth) {
        String[] units = {"thread", "holes", "storm", "day", "1", "2", "3", "0", "7", "9999"};
        return odds(depth > 3 ? 5 : 20) ? "(" + formula(depth + 1) + ")" : units[in(0, units.length - 1)];
    }

    /** The text with some of it torn out, put in, or doubled. */
    private String spoil(String text) {
        String[] bits = {" ", ";", "(", ")", "<", "=", "-", "+", "%", "0", "1", "9", "10", "25", "61", "100", "101", "1000", "9999",
            "12345", "a", "p", "q", "z", "abcdefghi", "man", "deed", "button", "friend", "wear", "day", "storm", "draw", "on", "by",
            "does", "never", "until", "thread", "after", "left", "holes", "colour", "hours", "not", "and", "or", "#", "A", "\t", "\n",
            "man p;", "deed q hours 9;", "friend p q 1;", "((((((((", "not not not not not not not not ", "1+1+1+1+1+1+1+1+1+1+1+1",
            "\u0000", "\u00ff", "1a"};
        StringBuilder s = new StringBuilder(text);
        for (int i = in(0, 2); i > 0 && s.length() > 0; i--) {
            int at = odds(50) ? startOfToken(s) : in(0, s.length() - 1);
            int kind = in(0, 3);
            if (kind == 0) {
                s.delete(at, Math.min(s.length(), at + in(1, 8)));
            } else if (kind == 1) {
                s.insert(at, bits[in(0, bits.length - 1)] + (odds(50) ? " " : ""));
            } else if (kind == 2) {
                int behind = at;
                while (behind < s.length() && Character.isLetterOrDigit(s.charAt(behind))) {
                    behind++;
                }
                s.replace(at, Math.max(behind, at + 1), bits[in(0, bits.length - 1)]);
            } else {
                int semicolon = s.indexOf(";", at);
                int from = s.lastIndexOf(";", at) + 1;
                if (semicolon > from) {
                    s.insert(semicolon + 1, s.substring(from, semicolon + 1));
                } else {
                    s.setLength(at);
                }
            }
        }
        return s.length() > 1600 ? s.substring(0, 1600) : s.toString();
    }

    private int startOfToken(StringBuilder s) {
        int at = in(0, s.length() - 1);
        while (at > 0 && s.charAt(at - 1) != ' ' && s.charAt(at - 1) != ';') {
            at--;
        }
        return at;
    }

    // ---- calls

    private void tell(String text) {
        trail += text + "\n";
        byte[] bytes = text.getBytes(java.nio.charset.StandardCharsets.ISO_8859_1);
        for (int from = 0; from < bytes.length; from += 20) {
            int[] five = new int[5];
            for (int i = 0; i < 20; i++) {
                five[i / 4] = five[i / 4] << 8 | (from + i < bytes.length ? bytes[from + i] & 255 : 0);
            }
            is("feed", x.feed(five[0], five[1], five[2], five[3], five[4]), model.feed(five[0], five[1], five[2], five[3], five[4]));
        }
        is("end", x.end(bytes.length), model.end(bytes.length));
        is("regiment", x.regiment(), model.regiment());
    }

    private void is(String call, long got, long want) {
        if (got != want) {
            trail += call + "\n";
        }
        Due.is(call, got, want);
    }

    private void is(String call, boolean got, boolean want) {
        is(call, got ? 1 : 0, want ? 1 : 0);
    }

    private int arg(int most) {
        if (odds(1)) {
            return random.nextInt();
        }
        return odds(5) ? in(-2, most + 2) : in(0, most);
    }

    private void call() {
        int a = arg(9);
        int b = arg(5);
        int c = arg(5);
        int two = arg(2);
        int n = arg(odds(50) ? 60 : 9);
        trail += "next: " + a + " " + b + " " + c + " " + two + " " + n + "\n";
        int sort = in(0, 9);
        if (sort < 4) {
            act(in(0, 9), a, b, c, two);
        } else if (sort < 8) {
            look(in(0, 22), a, b, c, two, n);
        } else {
            tugs(in(0, 5), arg(29), two, arg(9));
        }
        for (int i = -1; i < 11; i++) {
            is("lies(" + i + ")", x.lies(i), model.lies(i));
        }
        for (int i = 0; i < 15; i++) {
            is("about(" + i + ")", x.about(i), model.about(i));
        }
        for (int i = 0; i < 10; i++) {
            is("button(" + i + ", 0)", x.button(i, 0), model.button(i, 0));
            is("button(" + i + ", 1)", x.button(i, 1), model.button(i, 1));
        }
    }

    private void act(int which, int a, int b, int c, int two) {
        switch (which) {
            case 0: is("does(" + b + ", " + c + ")", x.does(b, c), model.does(b, c)); break;
            case 1: is("undoes(" + a + ")", x.undoes(a), model.undoes(a)); break;
            case 2: is("cut(" + a + ")", x.cut(a), model.cut(a)); break;
            case 3: is("sew(" + a + ")", x.sew(a), model.sew(a)); break;
            case 4: is("day()", x.day(), model.day()); break;
            case 5: is("undo()", x.undo(), model.undo()); break;
            case 6: is("redo()", x.redo(), model.redo()); break;
            case 7: is("image(" + two + ")", x.image(two), model.image(two)); break;
            case 8:
                if (odds(30)) {
                    is("back(" + two + ")", x.back(two), model.back(two));
                } else {
                    is("undo()", x.undo(), model.undo());
                }
                break;
            default:
                if (odds(4)) {
                    tell(odds(50) ? text() : spoil(text()));
                } else {
                    is("day()", x.day(), model.day());
                }
                break;
        }
    }

    private void look(int which, int a, int b, int c, int two, int n) {
        String args = "(" + a + ", " + b + ", " + c + ", " + two + ", " + n + ")";
        switch (which) {
            case 0: is("button" + args, x.button(a, n), model.button(a, n)); break;
            case 1: is("coat" + args, x.coat(b, two + 1), model.coat(b, two + 1)); break;
            case 2: is("coat" + args, x.coat(b, two), model.coat(b, two)); break;
            case 3: is("free()", x.free(), model.free()); break;
            case 4: is("sworn" + args, x.sworn(c, two), model.sworn(c, two)); break;
            case 5: is("many" + args, x.many(c), model.many(c)); break;
            case 6: case 7: case 8: is("keep" + args, x.keep(b, two), model.keep(b, two)); break;
            case 9: is("rest" + args, x.rest(b), model.rest(b)); break;
            case 10: is("ties" + args, x.ties(b, c), model.ties(b, c)); break;
            case 11: is("clash" + args, x.clash(b, two), model.clash(b, two)); break;
            case 12: is("leave" + args, x.leave(b, c), model.leave(b, c)); break;
            case 13: is("asked" + args, x.asked(b, c), model.asked(b, c)); break;
            case 14: is("holds" + args, x.holds(a, n, two), model.holds(a, n, two)); break;
            case 15: case 16: is("odds" + args, x.odds(a, c, two), model.odds(a, c, two)); break;
            case 17: is("first" + args, x.first(two), model.first(two)); break;
            case 18: is("will" + args, x.will(a, n), model.will(a, n)); break;
            case 19: is("truce()", x.truce(), model.truce()); break;
            case 20: is("calm()", x.calm(), model.calm()); break;
            case 21: is("likes" + args, x.likes(b, c), model.likes(b, c)); break;
            default: is("fault" + args, x.fault(two), model.fault(two)); break;
        }
    }

    private void tugs(int which, int tug, int what, int number) {
        int k = odds(10) ? random.nextInt() : in(-1, 40);
        switch (which) {
            case 0: {
                boolean is = odds(40);
                is("tug(" + what + ", " + number + ", " + is + ")", x.tug(what, number, is), model.tug(what, number, is));
                break;
            }
            case 1: is("untell(" + tug + ")", x.untell(tug), model.untell(tug)); break;
            case 2: {
                int by = odds(95) ? in(0, 2) : in(-1, 1001);
                is("later(" + by + ")", x.later(by), model.later(by));
                break;
            }
            case 3: is("swore(" + k + ")", x.swore(k), model.swore(k)); break;
            default: is("ask(" + what + ", " + k + ")", x.ask(what, k), model.ask(what, k)); break;
        }
    }
}
