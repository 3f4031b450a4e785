/** A regiment in which each oath is a button: told in a text, worn by days, asked about, gone back on. */
public final class OathButtons {
    public static final int NONE = -1;

    private static final int NO_SUCH = -2;
    private static final int NOT_TOLD = -100;

    private static final int TAPE_MOST = 1600;
    private static final int MEN_MOST = 6;
    private static final int DEEDS_MOST = 6;
    private static final int BUTTONS_MOST = 10;
    private static final int FRIENDS_MOST = 15;
    private static final int UNITS_MOST = 30;
    private static final int NESTING_MOST = 6;
    private static final int DAYS_MOST = 99;
    private static final int AHEAD_MOST = 60;
    private static final int ODDS_DAYS_MOST = 6;
    private static final int CUTS_MOST = 3;
    private static final int ACTS_MOST = 40;
    private static final int BOXES = 3;
    private static final int TUGS_MOST = 30;
    private static final int LATER_MOST = 1000;
    private static final int TIME_MOST = 100000;

    private static final int ON = 0;
    private static final int KEPT = 1;
    private static final int UNDONE = 2;
    private static final int BROKEN = 3;
    private static final int LOST = 4;

    private static final int FAULT_TOKEN = 1;
    private static final int FAULT_PLACE = 2;
    private static final int FAULT_TOLD_ALREADY = 3;
    private static final int FAULT_NUMBER = 4;
    private static final int FAULT_UNKNOWN = 5;

    private final byte[] tape = new byte[TAPE_MOST];
    private int taped;
    private final Regiment told = new Regiment();
    private final Reader reader = new Reader();
    private final Coats coats = new Coats(told);
    private final History history = new History(coats);
    private final Orders orders = new Orders(told, coats);
    private final Threads threads = new Threads(told, coats);
    private final Truces truces = new Truces(told);
    private final Tugs tugs = new Tugs(told);
    private final int[] lying = new int[BUTTONS_MOST];
    private int lyingCount;
    private int faultKind;
    private int faultPlace = NONE;

    public OathButtons() {
        coats.sewAllAsTold();
        history.forgetActs();
    }

    // ---- the text

    public int feed(int a, int b, int c, int d, int e) {
        if (taped + 20 > TAPE_MOST) {
            return NONE;
        }
        putOnTape(a);
        putOnTape(b);
        putOnTape(c);
        putOnTape(d);
        putOnTape(e);
        return taped;
    }

    private void putOnTape(int four) {
        for (int shift = 24; shift >= 0; shift -= 8) {
            if (taped < TAPE_MOST) {
                tape[taped] = (byte) (four >>> shift);
                taped++;
            }
        }
    }

    public int end(int n) {
        if (n < 0 || n > taped) {
            return NONE;
        }
        taped = n;
        return n;
    }

    public int regiment() {
        boolean right = reader.readText(tape, taped);
        taped = 0;
        faultKind = reader.tokens.faultKind;
        faultPlace = reader.tokens.faultPlace;
        if (!right) {
            return NONE;
        }
        told.takeOver(reader.draft);
        coats.sewAllAsTold();
        history.forgetActs();
        history.emptyBoxes();
        tugs.forgetAll();
        lyingCount = 0;
        return told.buttons;
    }

    public int fault(int what) {
        if (what == 0) {
            return faultKind;
        }
        return what == 1 ? faultPlace : NONE;
    }

    // ---- what is

    public int button(int button, int what) {
        if (!told.hasButton(button)) {
            return NO_SUCH;
        }
        switch (what) {
            case 0: return coats.stateOf(button);
            case 1: return coats.threadOf(button);
            case 2: return told.on[button];
            case 3: return told.by[button];
            case 4: return told.deed[button];
            case 5: return told.promises[button];
            case 6: return told.until[button];
            case 7: return told.after[button];
            default: return NO_SUCH;
        }
    }

    public int coat(int man, int what) {
        if (!told.hasMan(man) || what < 0 || what > 3) {
            return NONE;
        }
        int bits = 0;
        for (int i = 0; i < told.buttons; i++) {
            int whose = what == 1 ? told.by[i] : told.on[i];
            int state = what == 2 ? BROKEN : what == 3 ? LOST : ON;
            if (whose == man && coats.stateOf(i) == state) {
                bits |= 1 << i;
            }
        }
        return bits;
    }

    public int free() {
        int bits = (1 << told.men) - 1;
        for (int i = 0; i < told.buttons; i++) {
            if (coats.isOn(i)) {
                bits &= ~(1 << told.on[i]);
            }
        }
        return bits;
    }

    public int sworn(int deed, int what) {
        if (!told.hasDeed(deed) || what < 0 || what > 1) {
            return NONE;
        }
        int bits = 0;
        for (int i = 0; i < told.buttons; i++) {
            if (coats.isOn(i) && told.deed[i] == deed && told.promises[i] == 1 - what) {
                bits |= 1 << told.on[i];
            }
        }
        return bits;
    }

    public int many(int state) {
        if (state < ON || state > LOST) {
            return NONE;
        }
        int count = 0;
        for (int i = 0; i < told.buttons; i++) {
            if (coats.stateOf(i) == state) {
                count++;
            }
        }
        return count;
    }

    // ---- acts

    public int does(int man, int deed) {
        if (!told.hasMan(man) || !told.hasDeed(deed)) {
            return NONE;
        }
        int answer = coats.doDeed(man, deed);
        history.addAct();
        return answer;
    }

    public boolean undoes(int button) {
        if (!isButtonOn(button) || coats.waits(button)) {
            return false;
        }
        coats.unbutton(button);
        history.addAct();
        return true;
    }

    public int cut(int button) {
        if (!isButtonOn(button) || coats.cuts() >= CUTS_MOST) {
            return NONE;
        }
        coats.cutOff(button);
        history.addAct();
        return coats.cuts();
    }

    public int sew(int button) {
        if (!told.hasButton(button)) {
            return NONE;
        }
        if (coats.stateOf(button) != ON && coats.stateOf(button) != LOST) {
            return NONE;
        }
        int had = coats.threadOf(button);
        coats.sewAnew(button);
        history.addAct();
        return had;
    }

    public int day() {
        if (coats.today() >= DAYS_MOST) {
            return NONE;
        }
        int lost = coats.passDay();
        history.addAct();
        return lost;
    }

    public boolean undo() {
        return history.stepBack();
    }

    public boolean redo() {
        return history.stepOn();
    }

    private boolean isButtonOn(int button) {
        return told.hasButton(button) && coats.isOn(button);
    }

    // ---- what can be kept

    public int keep(int man, int what) {
        lyingCount = 0;
        if (!told.hasMan(man) || what < 0 || what > 2) {
            return NONE;
        }
        orders.lookAt(man);
        orders.findBest(coats.today());
        orders.followBest();
        layOut(orders.order, orders.orderLength);
        if (what == 0) {
            return Integer.bitCount(orders.keptBits);
        }
        return what == 1 ? orders.hoursTogether : orders.keptBits;
    }

    public int rest(int man) {
        if (!told.hasMan(man)) {
            return NONE;
        }
        orders.lookAt(man);
        int now = orders.mostKept(coats.today());
        for (int days = AHEAD_MOST; days > 0; days--) {
            // Where nothing can be kept, all is as much at least.
            if (now == 0 || orders.mostKept(coats.today() + days) >= now) {
                return days;
            }
        }
        return 0;
    }

    public int ties(int man, int other) {
        if (!told.hasMan(man) || !told.hasMan(other) || man == other) {
            return NONE;
        }
        int bits = 0;
        for (int i = 0; i < told.buttons; i++) {
            if (coats.isOnMan(i, man) && told.by[i] == other) {
                bits |= 1 << i;
            }
        }
        return bits;
    }

    public int clash(int man, int what) {
        if (!told.hasMan(man) || what < 0 || what > 1) {
            return NONE;
        }
        orders.lookAt(man);
        int set = orders.smallestClash(coats.today());
        if (set == NONE) {
            return NONE;
        }
        return what == 0 ? Integer.bitCount(set) : set;
    }

    public int leave(int man, int deed) {
        lyingCount = 0;
        if (!told.hasMan(man) || !told.hasDeed(deed)) {
            return NONE;
        }
        int bits = coats.leaveBits(man, deed);
        // Whatever is undone ahead of a button is told ahead of it, so going up by number keeps the order.
        for (int i = 0; i < told.buttons; i++) {
            if ((bits & 1 << i) != 0) {
                layDown(i);
            }
        }
        return lyingCount;
    }

    public int asked(int man, int deed) {
        if (!told.hasMan(man) || !told.hasDeed(deed)) {
            return NONE;
        }
        int bits = coats.leaveBits(man, deed);
        int men = 0;
        for (int i = 0; i < told.buttons; i++) {
            if ((bits & 1 << i) != 0) {
                men |= 1 << told.by[i];
            }
        }
        return men;
    }

    // ---- thread

    public int holds(int button, int n, int storms) {
        if (!isButtonOn(button) || n < 0 || n > AHEAD_MOST || storms < 0 || storms > 1) {
            return NONE;
        }
        return threads.threadBehind(button, n, storms == 0 ? 0L : -1L);
    }

    public long odds(int button, int n, int part) {
        if (!isButtonOn(button) || n < 0 || n > ODDS_DAYS_MOST || part < 0 || part > 1) {
            return NONE;
        }
        return threads.oddsPart(button, n, part);
    }

    public int first(int what) {
        if (what < 0 || what > 1) {
            return NONE;
        }
        int found = NONE;
        int fewest = AHEAD_MOST + 1;
        for (int i = 0; i < told.buttons; i++) {
            int days = coats.isOn(i) ? threads.daysTillLost(i) : NONE;
            if (days != NONE && days < fewest) {
                fewest = days;
                found = i;
            }
        }
        if (found == NONE) {
            return NONE;
        }
        return what == 0 ? found : fewest;
    }

    public int will(int button, int n) {
        if (!told.hasButton(button) || n < 0 || n > AHEAD_MOST) {
            return NONE;
        }
        return threads.stateBehind(button, n);
    }

    // ---- truces

    public int truce() {
        truces.tryAll();
        layOut(truces.best, told.men);
        return truces.bestWorth;
    }

    public int calm() {
        truces.tryAll();
        layOut(truces.firstCalm, truces.calmCount > 0 ? told.men : 0);
        return truces.calmCount;
    }

    public int likes(int man, int other) {
        if (!told.hasMan(man) || !told.hasMan(other)) {
            return NOT_TOLD;
        }
        return told.worthOf(man, other);
    }

    public int lies(int i) {
        return i >= 0 && i < lyingCount ? lying[i] : NO_SUCH;
    }

    private void layDown(int number) {
        if (lyingCount < lying.length) {
            lying[lyingCount] = number;
            lyingCount++;
        }
    }

    private void layOut(int[] numbers, int count) {
        lyingCount = 0;
        for (int i = 0; i < count && i < numbers.length; i++) {
            layDown(numbers[i]);
        }
    }

    // ---- tugs

    public int tug(int what, int number, boolean is) {
        if (what < 0 || what > 2 || number < 0 || number > 9 || tugs.count >= TUGS_MOST) {
            return NONE;
        }
        return tugs.tell(what, number, is);
    }

    public boolean untell(int tug) {
        return tugs.takeBack(tug);
    }

    public int later(int by) {
        if (by < 0 || by > LATER_MOST || tugs.time + by > TIME_MOST) {
            return NONE;
        }
        tugs.time += by;
        return tugs.time;
    }

    public int swore(int k) {
        return tugs.suspects(k);
    }

    public int ask(int what, int k) {
        int suspects = tugs.suspects(k);
        if (suspects == 0 || what < 0 || what > 1) {
            return NONE;
        }
        int best = 0;
        for (int trait = 1; trait <= 2; trait++) {
            if (tugs.leftAtMost(suspects, trait) < tugs.leftAtMost(suspects, best)) {
                best = trait;
            }
        }
        return what == 0 ? best : tugs.leftAtMost(suspects, best);
    }

    // ---- images

    public int image(int box) {
        if (box < 0 || box >= BOXES) {
            return NONE;
        }
        history.fillBox(box);
        return coats.today();
    }

    public int back(int box) {
        if (box < 0 || box >= BOXES || !history.openBox(box)) {
            return NONE;
        }
        return coats.today();
    }

    public int about(int what) {
        switch (what) {
            case 0: return told.buttons;
            case 1: return told.men;
            case 2: return told.deeds;
            case 3: return told.friends;
            case 4: return coats.today();
            case 5: return coats.seed();
            case 6: return coats.cuts();
            case 7: return told.hoursOfDay;
            case 8: return history.done;
            case 9: return history.known - history.done;
            case 10: return tugs.count;
            case 11: return tugs.time;
            case 12: return taped;
            case 13: return told.wear.units;
            case 14: return lyingCount;
            default: return NONE;
        }
    }

    /** The regiment as its text tells it; nothing in it changes but by another text. */
    private static final class Regiment {
        int men;
        final int[] colour = new int[MEN_MOST];
        final int[] holes = new int[MEN_MOST];
        final int[] left = new int[MEN_MOST];
        int deeds;
        final int[] hours = new int[DEEDS_MOST];
        int buttons;
        final int[] on = new int[BUTTONS_MOST];
        final int[] by = new int[BUTTONS_MOST];
        final int[] deed = new int[BUTTONS_MOST];
        final int[] promises = new int[BUTTONS_MOST];
        final int[] until = new int[BUTTONS_MOST];
        final int[] thread = new int[BUTTONS_MOST];
        final int[] after = new int[BUTTONS_MOST];
        int friends;
        final int[] worth = new int[MEN_MOST * MEN_MOST];
        final Wear wear = new Wear();
        int hoursOfDay;
        int storm;
        int draw;

        Regiment() {
            empty();
        }

        void empty() {
            men = 0;
            deeds = 0;
            buttons = 0;
            friends = 0;
            for (int i = 0; i < worth.length; i++) {
                worth[i] = NOT_TOLD;
            }
            wear.empty();
            hoursOfDay = 8;
            storm = 0;
            draw = 0;
        }

        void takeOver(Regiment other) {
            men = other.men;
            copy(other.colour, colour);
            copy(other.holes, holes);
            copy(other.left, left);
            deeds = other.deeds;
            copy(other.hours, hours);
            buttons = other.buttons;
            copy(other.on, on);
            copy(other.by, by);
            copy(other.deed, deed);
            copy(other.promises, promises);
            copy(other.until, until);
            copy(other.thread, thread);
            copy(other.after, after);
            friends = other.friends;
            copy(other.worth, worth);
            wear.takeOver(other.wear);
            hoursOfDay = other.hoursOfDay;
            storm = other.storm;
            draw = other.draw;
        }

        private static void copy(int[] from, int[] to) {
            for (int i = 0; i < from.length && i < to.length; i++) {
                to[i] = from[i];
            }
        }

        boolean hasMan(int man) {
            return man >= 0 && man < men;
        }

        boolean hasDeed(int number) {
            return number >= 0 && number < deeds;
        }

        boolean hasButton(int button) {
            return button >= 0 && button < buttons;
        }

        int worthOf(int man, int other) {
            return worth[man * MEN_MOST + other];
        }

        void befriend(int man, int other, int value) {
            worth[man * MEN_MOST + other] = value;
            worth[other * MEN_MOST + man] = value;
            friends++;
        }

        int traitOf(int man, int what) {
            if (what == 0) {
                return colour[man];
            }
            return what == 1 ? holes[man] : left[man];
        }
    }

    /** The wear of thread: the formula in the order in which a stack works it off. */
    private static final class Wear {
        static final int NUMBER = 1000;
        static final char THREAD = 't';
        static final char HOLES = 'h';
        static final char STORM = 's';
        static final char DAY = 'd';
        static final char AND = '&';
        static final char OR = '|';
        static final char NOT = '!';

        // 30 units, the signs between them, and 7 times not ahead of each: fewer than 300.
        private final int[] code = new int[300];
        private int length;
        private final int[] stack = new int[UNITS_MOST + 2];
        int units;

        void empty() {
            length = 0;
            units = 0;
        }

        void takeOver(Wear other) {
            System.arraycopy(other.code, 0, code, 0, code.length);
            length = other.length;
            units = other.units;
        }

        void put(int sign) {
            if (length < code.length) {
                code[length] = sign;
                length++;
            }
        }

        int amount(int thread, int holes, int storm, int today) {
            if (length == 0) {
                return 1;
            }
            int top = 0;
            for (int i = 0; i < length; i++) {
                int sign = code[i];
                if (sign >= NUMBER) {
                    top = push(top, sign - NUMBER);
                } else if (sign == THREAD) {
                    top = push(top, thread);
                } else if (sign == HOLES) {
                    top = push(top, holes);
                } else if (sign == STORM) {
                    top = push(top, storm);
                } else if (sign == DAY) {
                    top = push(top, today);
                } else if (sign == NOT && top >= 1) {
                    stack[top - 1] = truth(stack[top - 1] == 0);
                } else if (top >= 2) {
                    top--;
                    stack[top - 1] = join(sign, stack[top - 1], stack[top]);
                }
            }
            return stack[0];
        }

        private int push(int top, int value) {
            if (top >= stack.length) {
                return top;
            }
            stack[top] = value;
            return top + 1;
        }

        private static int join(int sign, int a, int b) {
            switch (sign) {
                case '+': return a + b;
                case '-': return a - b;
                case '*': return a * b;
                case '/': return b == 0 ? 0 : a / b;
                case '%': return b == 0 ? 0 : a % b;
                case '<': return truth(a < b);
                case '>': return truth(a > b);
                case '=': return truth(a == b);
                case AND: return truth(a != 0 && b != 0);
                default: return truth(a != 0 || b != 0);
            }
        }

        private static int truth(boolean is) {
            return is ? 1 : 0;
        }
    }

    /** The text as tokens, one at a time, and the fault at which reading stopped. */
    private static final class Tokens {
        static final int END = 0;
        static final int BAD = 1;
        static final int NAME = 2;
        static final int WORD = 3;
        static final int NUMBER = 4;
        static final int SIGN = 5;

        static final int MAN = 0;
        static final int COLOUR = 1;
        static final int HOLES = 2;
        static final int LEFT = 3;
        static final int DEED = 4;
        static final int HOURS = 5;
        static final int BUTTON = 6;
        static final int ON_WHOM = 7;
        static final int BY = 8;
        static final int DOES = 9;
        static final int NEVER = 10;
        static final int UNTIL = 11;
        static final int THREAD = 12;
        static final int AFTER = 13;
        static final int FRIEND = 14;
        static final int WEAR = 15;
        static final int DAY = 16;
        static final int STORM = 17;
        static final int DRAW = 18;
        static final int OR = 19;
        static final int AND = 20;
        static final int NOT = 21;
        // In the order of the numbers above, a blank behind each.
        private static final String WORDS =
            "man colour holes left deed hours button on by does never until thread after friend wear day storm draw or and not ";
        private static final String SIGNS = ";()<>=+-*/%";

        private byte[] text = new byte[0];
        private int length;
        private int next;
        int place;
        int kind;
        /** The number, the sign, or which of the words. */
        int value;
        /** The letters of a name or word, five bits each: never 0. */
        long letters;
        int faultKind;
        int faultPlace;

        void open(byte[] from, int count) {
            text = from;
            length = Math.min(count, from.length);
            next = 0;
            faultKind = 0;
            faultPlace = NONE;
            advance();
        }

        void advance() {
            while (next < length && (text[next] == ' ' || text[next] == '\n')) {
                next++;
            }
            place = next;
            if (next >= length) {
                kind = END;
            } else if (text[next] >= 'a' && text[next] <= 'z') {
                takeLetters();
                value = wordNumber(letters);
                if (kind == NAME && value != NONE) {
                    kind = WORD;
                }
            } else if (text[next] >= '0' && text[next] <= '9') {
                takeDigits();
            } else {
                value = text[next] & 255;
                kind = SIGNS.indexOf((char) value) >= 0 ? SIGN : BAD;
                next++;
            }
        }

        private void takeLetters() {
            letters = 0;
            while (next < length && text[next] >= 'a' && text[next] <= 'z') {
                letters = letters * 32 + (text[next] - 'a' + 1);
                next++;
            }
            kind = next - place > 8 ? BAD : NAME;
        }

        private void takeDigits() {
            value = 0;
            while (next < length && text[next] >= '0' && text[next] <= '9') {
                value = value * 10 + (text[next] - '0');
                next++;
            }
            boolean letterBehind = next < length && text[next] >= 'a' && text[next] <= 'z';
            kind = next - place > 4 || letterBehind ? BAD : NUMBER;
        }

        private static int wordNumber(long letters) {
            int number = 0;
            long word = 0;
            for (int i = 0; i < WORDS.length(); i++) {
                char sign = WORDS.charAt(i);
                if (sign != ' ') {
                    word = word * 32 + (sign - 'a' + 1);
                } else if (word == letters) {
                    return number;
                } else {
                    number++;
                    word = 0;
                }
            }
            return NONE;
        }

        boolean isWord(int word) {
            return kind == WORD && value == word;
        }

        boolean isSign(char sign) {
            return kind == SIGN && value == sign;
        }

        boolean takesWord(int word) {
            if (!isWord(word)) {
                return refuse(FAULT_PLACE);
            }
            advance();
            return true;
        }

        boolean takesSign(char sign) {
            if (!isSign(sign)) {
                return refuse(FAULT_PLACE);
            }
            advance();
            return true;
        }

        /** Stops at the token that stands here; always false, so that it can be handed on. */
        boolean refuse(int fault) {
            return refuseAt(kind == BAD ? FAULT_TOKEN : fault, place);
        }

        boolean refuseAt(int fault, int where) {
            faultKind = fault;
            faultPlace = where;
            return false;
        }
    }

    /** Reads a text into a draft, which is whole only if no fault was found. */
    private static final class Reader {
        final Tokens tokens = new Tokens();
        final Regiment draft = new Regiment();
        private final FormulaReader formulas = new FormulaReader(tokens, draft.wear);
        private final long[] manNames = new long[MEN_MOST];
        private final long[] deedNames = new long[DEEDS_MOST];
        private final long[] buttonNames = new long[BUTTONS_MOST];
        /** Words of lines that are told once, as bits. */
        private int seen;

        boolean readText(byte[] text, int length) {
            draft.empty();
            seen = 0;
            tokens.open(text, length);
            boolean right = true;
            for (int lines = 0; lines < TAPE_MOST && right && tokens.kind != Tokens.END; lines++) {
                switch (tokens.kind == Tokens.WORD ? tokens.value : NONE) {
                    case Tokens.MAN: right = readMan(); break;
                    case Tokens.DEED: right = readDeed(); break;
                    case Tokens.BUTTON: right = readButton(); break;
                    case Tokens.FRIEND: right = readFriend(); break;
                    case Tokens.WEAR: right = opensOnce() && formulas.readFormula(); break;
                    case Tokens.DAY: right = readHoursOfDay(); break;
                    case Tokens.STORM: right = readStorm(); break;
                    case Tokens.DRAW: right = readDraw(); break;
                    default: right = tokens.refuse(FAULT_PLACE); break;
                }
                right = right && tokens.takesSign(';');
            }
            return right;
        }

        private boolean opensOnce() {
            int bit = 1 << tokens.value;
            if ((seen & bit) != 0) {
                return tokens.refuse(FAULT_PLACE);
            }
            seen |= bit;
            tokens.advance();
            return true;
        }

        private boolean opens(int count, int most) {
            if (count >= most) {
                return tokens.refuse(FAULT_PLACE);
            }
            tokens.advance();
            return true;
        }

        private boolean readMan() {
            int man = draft.men;
            if (!opens(man, MEN_MOST) || !isNewName(manNames, man)) {
                return false;
            }
            manNames[man] = tokens.letters;
            tokens.advance();
            draft.colour[man] = optional(Tokens.COLOUR, 0, 9, 0);
            if (draft.colour[man] == NONE) {
                return false;
            }
            draft.holes[man] = optional(Tokens.HOLES, 1, 4, 2);
            if (draft.holes[man] == NONE) {
                return false;
            }
            draft.left[man] = 0;
            if (tokens.isWord(Tokens.LEFT)) {
                draft.left[man] = 1;
                tokens.advance();
            }
            draft.men++;
            return true;
        }

        private boolean readDeed() {
            int deed = draft.deeds;
            if (!opens(deed, DEEDS_MOST) || !isNewName(deedNames, deed)) {
                return false;
            }
            deedNames[deed] = tokens.letters;
            tokens.advance();
            if (!tokens.takesWord(Tokens.HOURS)) {
                return false;
            }
            draft.hours[deed] = number(1, 24);
            draft.deeds++;
            return draft.hours[deed] != NONE;
        }

        private boolean readButton() {
            int button = draft.buttons;
            if (!opens(button, BUTTONS_MOST) || !isNewName(buttonNames, button)) {
                return false;
            }
            buttonNames[button] = tokens.letters;
            tokens.advance();
            if (!readWhose(button) || !readPromise(button)) {
                return false;
            }
            draft.until[button] = optional(Tokens.UNTIL, 1, 60, 60);
            if (draft.until[button] == NONE) {
                return false;
            }
            draft.thread[button] = optional(Tokens.THREAD, 1, 99, 10);
            if (draft.thread[button] == NONE || !readAfter(button)) {
                return false;
            }
            draft.buttons++;
            return true;
        }

        private boolean readWhose(int button) {
            if (!tokens.takesWord(Tokens.ON_WHOM)) {
                return false;
            }
            int on = oldName(manNames, draft.men);
            if (on == NONE) {
                return false;
            }
            tokens.advance();
            if (!tokens.takesWord(Tokens.BY)) {
                return false;
            }
            int by = oldName(manNames, draft.men);
            if (by == NONE) {
                return false;
            }
            if (by == on) {
                return tokens.refuse(FAULT_TOLD_ALREADY);
            }
            tokens.advance();
            draft.on[button] = on;
            draft.by[button] = by;
            return true;
        }

        private boolean readPromise(int button) {
            if (!tokens.isWord(Tokens.DOES) && !tokens.isWord(Tokens.NEVER)) {
                return tokens.refuse(FAULT_PLACE);
            }
            draft.promises[button] = tokens.isWord(Tokens.DOES) ? 1 : 0;
            tokens.advance();
            int deed = oldName(deedNames, draft.deeds);
            if (deed == NONE) {
                return false;
            }
            tokens.advance();
            draft.deed[button] = deed;
            return true;
        }

        private boolean readAfter(int button) {
            draft.after[button] = NONE;
            if (!tokens.isWord(Tokens.AFTER)) {
                return true;
            }
            tokens.advance();
            draft.after[button] = oldName(buttonNames, draft.buttons);
            if (draft.after[button] == NONE) {
                return false;
            }
            tokens.advance();
            return true;
        }

        private boolean readFriend() {
            if (!opens(draft.friends, FRIENDS_MOST)) {
                return false;
            }
            int man = oldName(manNames, draft.men);
            if (man == NONE) {
                return false;
            }
            tokens.advance();
            int other = oldName(manNames, draft.men);
            if (other == NONE) {
                return false;
            }
            if (man == other || draft.worthOf(man, other) != NOT_TOLD) {
                return tokens.refuse(FAULT_TOLD_ALREADY);
            }
            tokens.advance();
            return readWorth(man, other);
        }

        private boolean readWorth(int man, int other) {
            boolean below = tokens.isSign('-');
            int where = tokens.place;
            if (below) {
                tokens.advance();
            }
            if (tokens.kind != Tokens.NUMBER) {
                return tokens.refuse(FAULT_PLACE);
            }
            if (tokens.value > 9) {
                return tokens.refuseAt(FAULT_NUMBER, where);
            }
            draft.befriend(man, other, below ? -tokens.value : tokens.value);
            tokens.advance();
            return true;
        }

        private boolean readHoursOfDay() {
            if (!opensOnce()) {
                return false;
            }
            draft.hoursOfDay = number(1, 24);
            return draft.hoursOfDay != NONE;
        }

        private boolean readStorm() {
            if (!opensOnce()) {
                return false;
            }
            draft.storm = number(0, 100);
            return draft.storm != NONE;
        }

        private boolean readDraw() {
            if (!opensOnce()) {
                return false;
            }
            draft.draw = number(0, 999);
            return draft.draw != NONE;
        }

        /** What stands behind a word that may be left out; NONE behind a fault. */
        private int optional(int word, int least, int most, int otherwise) {
            if (!tokens.isWord(word)) {
                return otherwise;
            }
            tokens.advance();
            return number(least, most);
        }

        private int number(int least, int most) {
            if (tokens.kind != Tokens.NUMBER) {
                tokens.refuse(FAULT_PLACE);
                return NONE;
            }
            int value = tokens.value;
            if (value < least || value > most) {
                tokens.refuse(FAULT_NUMBER);
                return NONE;
            }
            tokens.advance();
            return value;
        }

        private boolean isNewName(long[] names, int count) {
            if (tokens.kind != Tokens.NAME) {
                return tokens.refuse(FAULT_PLACE);
            }
            if (find(names, count) != NONE) {
                return tokens.refuse(FAULT_TOLD_ALREADY);
            }
            return true;
        }

        /** Which of those told bears the name that stands here; it is not gone past, as a fault may still lie in it. */
        private int oldName(long[] names, int count) {
            if (tokens.kind != Tokens.NAME) {
                tokens.refuse(FAULT_PLACE);
                return NONE;
            }
            int found = find(names, count);
            if (found == NONE) {
                tokens.refuse(FAULT_UNKNOWN);
            }
            return found;
        }

        private int find(long[] names, int count) {
            for (int i = 0; i < count && i < names.length; i++) {
                if (names[i] == tokens.letters) {
                    return i;
                }
            }
            return NONE;
        }
    }

    /** Reads e of the grammar; the depth is how many units ( e ) and ones behind not are open. */
    private static final class FormulaReader {
        private final Tokens tokens;
        private final Wear wear;

        FormulaReader(Tokens tokens, Wear wear) {
            this.tokens = tokens;
            this.wear = wear;
        }

        boolean readFormula() {
            return readEither(0);
        }

        private boolean readEither(int depth) {
            if (!readBoth(depth)) {
                return false;
            }
            for (int more = 0; more < UNITS_MOST && tokens.isWord(Tokens.OR); more++) {
                tokens.advance();
                if (!readBoth(depth)) {
                    return false;
                }
                wear.put(Wear.OR);
            }
            return true;
        }

        private boolean readBoth(int depth) {
            if (!readOne(depth)) {
                return false;
            }
            for (int more = 0; more < UNITS_MOST && tokens.isWord(Tokens.AND); more++) {
                tokens.advance();
                if (!readOne(depth)) {
                    return false;
                }
                wear.put(Wear.AND);
            }
            return true;
        }

        private boolean readOne(int depth) {
            if (tokens.isWord(Tokens.NOT)) {
                return readNot(depth);
            }
            if (!readSum(depth)) {
                return false;
            }
            if (!tokens.isSign('<') && !tokens.isSign('>') && !tokens.isSign('=')) {
                return true;
            }
            int sign = tokens.value;
            tokens.advance();
            if (!readSum(depth)) {
                return false;
            }
            wear.put(sign);
            return true;
        }

        private boolean readNot(int depth) {
            if (depth > NESTING_MOST) {
                return tokens.refuse(FAULT_PLACE);
            }
            tokens.advance();
            if (!readOne(depth + 1)) {
                return false;
            }
            wear.put(Wear.NOT);
            return true;
        }

        private boolean readSum(int depth) {
            if (!readTerm(depth)) {
                return false;
            }
            for (int more = 0; more < UNITS_MOST && (tokens.isSign('+') || tokens.isSign('-')); more++) {
                int sign = tokens.value;
                tokens.advance();
                if (!readTerm(depth)) {
                    return false;
                }
                wear.put(sign);
            }
            return true;
        }

        private boolean readTerm(int depth) {
            if (!readUnit(depth)) {
                return false;
            }
            for (int more = 0; more < UNITS_MOST && isTermSign(); more++) {
                int sign = tokens.value;
                tokens.advance();
                if (!readUnit(depth)) {
                    return false;
                }
                wear.put(sign);
            }
            return true;
        }

        private boolean isTermSign() {
            return tokens.isSign('*') || tokens.isSign('/') || tokens.isSign('%');
        }

        private boolean readUnit(int depth) {
            if (wear.units >= UNITS_MOST) {
                return tokens.refuse(FAULT_PLACE);
            }
            wear.units++;
            if (tokens.isSign('(')) {
                return readBracket(depth);
            }
            int sign = tokens.kind == Tokens.NUMBER ? Wear.NUMBER + tokens.value : inputSign();
            if (sign == NONE) {
                return tokens.refuse(FAULT_PLACE);
            }
            wear.put(sign);
            tokens.advance();
            return true;
        }

        private boolean readBracket(int depth) {
            if (depth > NESTING_MOST) {
                return tokens.refuse(FAULT_PLACE);
            }
            tokens.advance();
            return readEither(depth + 1) && tokens.takesSign(')');
        }

        private int inputSign() {
            int word = tokens.kind == Tokens.WORD ? tokens.value : NONE;
            switch (word) {
                case Tokens.THREAD: return Wear.THREAD;
                case Tokens.HOLES: return Wear.HOLES;
                case Tokens.STORM: return Wear.STORM;
                case Tokens.DAY: return Wear.DAY;
                default: return NONE;
            }
        }
    }

    /** How all is now, in one row, so that acts and boxes can keep it as one. */
    private static final class Coats {
        static final int SIZE = 2 * BUTTONS_MOST + 3;
        private static final int THREAD_AT = BUTTONS_MOST;
        private static final int DAY_AT = 2 * BUTTONS_MOST;
        private static final int SEED_AT = DAY_AT + 1;
        private static final int CUTS_AT = DAY_AT + 2;

        private final Regiment told;
        final int[] now = new int[SIZE];

        Coats(Regiment told) {
            this.told = told;
        }

        void sewAllAsTold() {
            for (int i = 0; i < BUTTONS_MOST; i++) {
                now[i] = ON;
                now[THREAD_AT + i] = told.thread[i];
            }
            now[DAY_AT] = 0;
            now[SEED_AT] = told.draw;
            now[CUTS_AT] = 0;
        }

        int stateOf(int button) {
            return now[button];
        }

        int threadOf(int button) {
            return now[THREAD_AT + button];
        }

        int today() {
            return now[DAY_AT];
        }

        int seed() {
            return now[SEED_AT];
        }

        int cuts() {
            return now[CUTS_AT];
        }

        boolean isOn(int button) {
            return now[button] == ON;
        }

        boolean isOnMan(int button, int man) {
            return now[button] == ON && told.on[button] == man;
        }

        boolean waits(int button) {
            int ahead = told.after[button];
            return told.hasButton(ahead) && isOn(ahead);
        }

        int doDeed(int man, int deed) {
            int kept = 0;
            int broken = 0;
            for (int i = 0; i < told.buttons; i++) {
                if (isOnMan(i, man) && told.deed[i] == deed) {
                    if (told.promises[i] == 1) {
                        now[i] = KEPT;
                        kept++;
                    } else {
                        now[i] = BROKEN;
                        broken++;
                    }
                }
            }
            return 100 * kept + broken;
        }

        void unbutton(int button) {
            now[button] = UNDONE;
        }

        void cutOff(int button) {
            now[button] = UNDONE;
            now[CUTS_AT]++;
        }

        void sewAnew(int button) {
            now[button] = ON;
            now[THREAD_AT + button] = told.thread[button];
        }

        int passDay() {
            int seed = nextSeed(seed());
            int storm = stormBy(seed);
            int lost = 0;
            for (int i = 0; i < told.buttons; i++) {
                if (isOn(i)) {
                    int thread = worn(i, threadOf(i), storm, today());
                    now[THREAD_AT + i] = thread;
                    now[i] = stateAfterWear(i, thread, today() + 1);
                    if (now[i] == LOST) {
                        lost++;
                    }
                }
            }
            now[SEED_AT] = seed;
            now[DAY_AT]++;
            return lost;
        }

        static int nextSeed(int seed) {
            return (seed * 137 + 71) % 1000;
        }

        int stormBy(int seed) {
            return seed % 100 < told.storm ? 1 : 0;
        }

        /** The thread of a button that is on behind one day more. */
        int worn(int button, int thread, int storm, int today) {
            int by = told.by[button];
            int holes = told.hasMan(by) ? told.holes[by] : 0;
            int loss = told.wear.amount(thread, holes, storm, today);
            return thread - Math.max(0, Math.min(loss, thread));
        }

        /** How a button that was on is when the day is a new one. */
        int stateAfterWear(int button, int thread, int newDay) {
            if (thread <= 0) {
                return LOST;
            }
            if (told.until[button] >= newDay) {
                return ON;
            }
            return told.promises[button] == 1 ? BROKEN : KEPT;
        }

        /** Buttons to be undone before a man does a deed. */
        int leaveBits(int man, int deed) {
            int bits = 0;
            // From the last on: what is to be undone ahead of a button is told ahead of it.
            for (int i = told.buttons - 1; i >= 0; i--) {
                if (isOnMan(i, man) && told.deed[i] == deed && told.promises[i] == 0 && told.until[i] >= today()) {
                    bits |= 1 << i;
                }
                if ((bits & 1 << i) != 0 && waits(i)) {
                    bits |= 1 << told.after[i];
                }
            }
            return bits;
        }
    }

    /** The acts that are kept, as all was between them, and the boxes. */
    private static final class History {
        private final Coats coats;
        private final int[] rows = new int[(ACTS_MOST + 1) * Coats.SIZE];
        private final int[] boxes = new int[BOXES * Coats.SIZE];
        /** Boxes that hold something, as bits. */
        private int filled;
        /** Acts that can be undone: the row of this number is what is now. */
        int done;
        /** Acts that are kept, undone ones too. */
        int known;

        History(Coats coats) {
            this.coats = coats;
        }

        void forgetActs() {
            done = 0;
            known = 0;
            writeRow();
        }

        void addAct() {
            if (done >= ACTS_MOST) {
                System.arraycopy(rows, Coats.SIZE, rows, 0, ACTS_MOST * Coats.SIZE);
            } else {
                done++;
            }
            known = done;
            writeRow();
        }

        boolean stepBack() {
            if (done <= 0) {
                return false;
            }
            done--;
            readRow();
            return true;
        }

        boolean stepOn() {
            if (done >= known) {
                return false;
            }
            done++;
            readRow();
            return true;
        }

        private void writeRow() {
            System.arraycopy(coats.now, 0, rows, done * Coats.SIZE, Coats.SIZE);
        }

        private void readRow() {
            System.arraycopy(rows, done * Coats.SIZE, coats.now, 0, Coats.SIZE);
        }

        void emptyBoxes() {
            filled = 0;
        }

        void fillBox(int box) {
            System.arraycopy(coats.now, 0, boxes, box * Coats.SIZE, Coats.SIZE);
            filled |= 1 << box;
        }

        boolean openBox(int box) {
            if ((filled & 1 << box) == 0) {
                return false;
            }
            System.arraycopy(boxes, box * Coats.SIZE, coats.now, 0, Coats.SIZE);
            forgetActs();
            return true;
        }
    }

    /** Orders of deeds for one man, by the buttons that are on him now. */
    private static final class Orders {
        // More than all hours of all deeds together: one button more is worth any number of hours.
        private static final int BUTTON_WORTH = 1000;
        private static final int DEED_SETS = 1 << DEEDS_MOST;
        private static final int BUTTON_SETS = 1 << BUTTONS_MOST;

        private final Regiment told;
        private final Coats coats;
        /** The buttons on the man, by number. */
        private final int[] mine = new int[BUTTONS_MOST];
        private int mineCount;
        private int begin;
        /** By the set of deeds that are done: their hours, and the most that can still be won. */
        private final int[] hoursOf = new int[DEED_SETS];
        private final int[] best = new int[DEED_SETS];
        private final byte[] keepable = new byte[BUTTON_SETS];
        final int[] order = new int[DEEDS_MOST];
        int orderLength;
        int keptBits;
        int hoursTogether;

        Orders(Regiment told, Coats coats) {
            this.told = told;
            this.coats = coats;
        }

        /** Sets down what all orders of a man have in common. */
        void lookAt(int man) {
            mineCount = 0;
            for (int i = 0; i < told.buttons; i++) {
                if (coats.isOnMan(i, man) && mineCount < BUTTONS_MOST) {
                    mine[mineCount] = i;
                    mineCount++;
                }
            }
            hoursOf[0] = 0;
            for (int deed = 0; deed < told.deeds; deed++) {
                for (int set = 0; set < 1 << deed; set++) {
                    hoursOf[set | 1 << deed] = hoursOf[set] + told.hours[deed];
                }
            }
        }

        /** The day of a deed hangs only on which deeds went before it, so sets of deeds are enough. */
        void findBest(int from) {
            begin = from;
            for (int set = (1 << told.deeds) - 1; set >= 0; set--) {
                int most = 0;
                for (int deed = 0; deed < told.deeds; deed++) {
                    if ((set & 1 << deed) == 0) {
                        most = Math.max(most, wonBy(set, deed));
                    }
                }
                best[set] = most;
            }
        }

        int mostKept(int from) {
            findBest(from);
            return (best[0] + BUTTON_WORTH - 1) / BUTTON_WORTH;
        }

        /** What is won from here on if this deed is the next one; NONE if it can't be. */
        private int wonBy(int set, int deed) {
            int behind = set | 1 << deed;
            int kept = keptBy(deed, hoursOf[behind]);
            if (kept == NONE) {
                return NONE;
            }
            return Integer.bitCount(kept) * BUTTON_WORTH - told.hours[deed] + best[behind];
        }

        /** The buttons kept by a deed whose last hour is the given one; NONE if one forbids it. */
        private int keptBy(int deed, int lastHour) {
            int doneOn = begin + (told.hoursOfDay > 0 ? (lastHour - 1) / told.hoursOfDay : 0);
            int bits = 0;
            for (int i = 0; i < mineCount; i++) {
                int button = mine[i];
                if (told.deed[button] == deed && told.until[button] >= doneOn) {
                    if (told.promises[button] == 0) {
                        return NONE;
                    }
                    bits |= 1 << button;
                }
            }
            return bits;
        }

        /** The first of the best orders, behind findBest. */
        void followBest() {
            orderLength = 0;
            keptBits = 0;
            int set = 0;
            for (int i = 0; i < DEEDS_MOST && best[set] > 0; i++) {
                int deed = firstBestDeed(set);
                if (deed == NONE) {
                    break;
                }
                set |= 1 << deed;
                keptBits |= keptBy(deed, hoursOf[set]);
                order[i] = deed;
                orderLength++;
            }
            hoursTogether = hoursOf[set];
        }

        private int firstBestDeed(int set) {
            for (int deed = 0; deed < told.deeds; deed++) {
                if ((set & 1 << deed) == 0 && wonBy(set, deed) == best[set]) {
                    return deed;
                }
            }
            return NONE;
        }

        /** The smallest set that no order keeps, as bits; NONE if all can be kept. */
        int smallestClash(int from) {
            begin = from;
            markKeepable();
            int wanted = 0;
            for (int i = 0; i < mineCount; i++) {
                wanted |= told.promises[mine[i]] == 1 ? 1 << mine[i] : 0;
            }
            int found = NONE;
            for (int set = 1; set < 1 << told.buttons; set++) {
                if ((set & ~wanted) == 0 && keepable[set] == 0) {
                    if (found == NONE || Integer.bitCount(set) < Integer.bitCount(found)) {
                        found = set;
                    }
                }
            }
            return found;
        }

        private void markKeepable() {
            for (int set = 0; set < 1 << told.buttons; set++) {
                keepable[set] = 0;
            }
            markOrders(0, 0, 0);
            // A part of what is kept is kept: parts are smaller numbers, so one way down is enough.
            for (int set = (1 << told.buttons) - 1; set > 0; set--) {
                for (int i = 0; i < told.buttons && keepable[set] == 1; i++) {
                    keepable[set & ~(1 << i)] = 1;
                }
            }
        }

        private void markOrders(int depth, int set, int kept) {
            if (kept >= 0 && kept < BUTTON_SETS) {
                keepable[kept] = 1;
            }
            for (int deed = 0; deed < told.deeds && depth < DEEDS_MOST; deed++) {
                int behind = set | 1 << deed;
                int more = behind != set ? keptBy(deed, hoursOf[behind]) : NONE;
                if (more != NONE) {
                    markOrders(depth + 1, behind, kept | more);
                }
            }
        }
    }

    /** What becomes of threads. */
    private static final class Threads {
        private final Regiment told;
        private final Coats coats;

        Threads(Regiment told, Coats coats) {
            this.told = told;
            this.coats = coats;
        }

        /** The thread behind some days; each bit of storms, the lowest first, is one of them. */
        int threadBehind(int button, int days, long storms) {
            int thread = coats.threadOf(button);
            for (int i = 0; i < days; i++) {
                int storm = (int) (storms >> i & 1);
                thread = coats.worn(button, thread, storm, coats.today() + i);
            }
            return thread;
        }

        int daysTillLost(int button) {
            int thread = coats.threadOf(button);
            for (int i = 0; i < AHEAD_MOST; i++) {
                thread = coats.worn(button, thread, 0, coats.today() + i);
                if (thread <= 0) {
                    return i + 1;
                }
            }
            return NONE;
        }

        long oddsPart(int button, int days, int part) {
            long upper = 0;
            for (int storms = 0; storms < 1 << days; storms++) {
                if (threadBehind(button, days, storms) > 0) {
                    upper += waysOf(storms, days);
                }
            }
            long lower = 1;
            for (int i = 0; i < days; i++) {
                lower *= 100;
            }
            long common = commonDivisor(upper, lower);
            long chosen = part == 0 ? upper : lower;
            return common == 0 ? chosen : chosen / common;
        }

        /** Of 100 by 100 by .. draws, those by which just these days have storms. */
        private long waysOf(int storms, int days) {
            long ways = 1;
            for (int i = 0; i < days; i++) {
                ways *= (storms >> i & 1) == 1 ? told.storm : 100 - told.storm;
            }
            return ways;
        }

        private static long commonDivisor(long a, long b) {
            // Numbers up to 10 to the 12th need some 60 steps.
            for (int i = 0; i < 100 && b != 0; i++) {
                long over = a % b;
                a = b;
                b = over;
            }
            return a;
        }

        int stateBehind(int button, int days) {
            int state = coats.stateOf(button);
            int thread = coats.threadOf(button);
            int seed = coats.seed();
            for (int i = 0; i < days && state == ON; i++) {
                int today = coats.today() + i;
                seed = Coats.nextSeed(seed);
                thread = coats.worn(button, thread, coats.stormBy(seed), today);
                state = coats.stateAfterWear(button, thread, today + 1);
            }
            return state;
        }
    }

    /** All ways in which men sew for one another, gone through from the first on. */
    private static final class Truces {
        private final Regiment told;
        private final int[] with = new int[MEN_MOST];
        final int[] best = new int[MEN_MOST];
        int bestWorth;
        final int[] firstCalm = new int[MEN_MOST];
        int calmCount;
        private boolean any;

        Truces(Regiment told) {
            this.told = told;
        }

        void tryAll() {
            any = false;
            bestWorth = 0;
            calmCount = 0;
            for (int man = 0; man < MEN_MOST; man++) {
                with[man] = NONE;
            }
            pairFrom(0);
        }

        /** Alone first, then with each other man upward: so they come in the order that is asked for. */
        private void pairFrom(int man) {
            if (man >= told.men) {
                weigh();
                return;
            }
            boolean taken = with[man] != NONE;
            pairFrom(man + 1);
            for (int other = man + 1; other < told.men && !taken; other++) {
                if (with[other] == NONE && told.worthOf(man, other) != NOT_TOLD) {
                    with[man] = other;
                    with[other] = man;
                    pairFrom(man + 1);
                    with[man] = NONE;
                    with[other] = NONE;
                }
            }
        }

        private void weigh() {
            int worth = 0;
            for (int man = 0; man < told.men; man++) {
                worth += with[man] > man ? has(man) : 0;
            }
            if (!any || worth > bestWorth) {
                any = true;
                bestWorth = worth;
                copyWith(best);
            }
            if (isCalm()) {
                if (calmCount == 0) {
                    copyWith(firstCalm);
                }
                calmCount++;
            }
        }

        private int has(int man) {
            return told.hasMan(with[man]) ? told.worthOf(man, with[man]) : 0;
        }

        private void copyWith(int[] to) {
            for (int man = 0; man < MEN_MOST && man < to.length; man++) {
                to[man] = with[man];
            }
        }

        private boolean isCalm() {
            for (int man = 0; man < told.men; man++) {
                for (int other = man + 1; other < told.men; other++) {
                    int worth = told.worthOf(man, other);
                    // What is not told is less than all that can be had, so it never counts here.
                    if (worth > has(man) && worth > has(other)) {
                        return false;
                    }
                }
            }
            return true;
        }
    }

    /** What was told of him who swore, and when. */
    private static final class Tugs {
        private final Regiment told;
        private final int[] what = new int[TUGS_MOST];
        private final int[] number = new int[TUGS_MOST];
        private final boolean[] is = new boolean[TUGS_MOST];
        private final int[] toldAt = new int[TUGS_MOST];
        /** NONE while it is not untold. */
        private final int[] untoldAt = new int[TUGS_MOST];
        int count;
        int time;

        Tugs(Regiment told) {
            this.told = told;
        }

        void forgetAll() {
            count = 0;
        }

        int tell(int trait, int value, boolean so) {
            if (count >= TUGS_MOST) {
                return NONE;
            }
            what[count] = trait;
            number[count] = value;
            is[count] = so;
            toldAt[count] = time;
            untoldAt[count] = NONE;
            count++;
            return count - 1;
        }

        boolean takeBack(int tug) {
            if (tug < 0 || tug >= count || untoldAt[tug] != NONE) {
                return false;
            }
            untoldAt[tug] = time;
            return true;
        }

        int suspects(int k) {
            int bits = 0;
            for (int man = 0; man < told.men; man++) {
                if (fits(man, k)) {
                    bits |= 1 << man;
                }
            }
            return bits;
        }

        private boolean fits(int man, int k) {
            for (int i = 0; i < count; i++) {
                boolean counts = toldAt[i] <= k && (untoldAt[i] == NONE || untoldAt[i] > k);
                if (counts && (told.traitOf(man, what[i]) == number[i]) != is[i]) {
                    return false;
                }
            }
            return true;
        }

        /** How many of these men are alike in a trait at the most. */
        int leftAtMost(int suspects, int trait) {
            int most = 0;
            for (int man = 0; man < told.men; man++) {
                int alike = 0;
                for (int other = 0; other < told.men; other++) {
                    boolean both = (suspects & 1 << man) != 0 && (suspects & 1 << other) != 0;
                    if (both && told.traitOf(man, trait) == told.traitOf(other, trait)) {
                        alike++;
                    }
                }
                most = Math.max(most, alike);
            }
            return most;
        }
    }
}
