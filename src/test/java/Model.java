import java.math.BigInteger;
import java.nio.ByteBuffer;
import java.util.ArrayDeque;
import java.util.ArrayList;
import java.util.Arrays;
import java.util.Deque;
import java.util.HashSet;
import java.util.List;
import java.util.Set;
import java.util.regex.Matcher;
import java.util.regex.Pattern;

/** The document written a second time, by plain enumeration and with the whole Java library. */
final class Model {
    /** Stops the reading of a text. */
    private static final class Fault extends RuntimeException {
        private static final long serialVersionUID = 1L;
        final int kind;
        final int place;

        Fault(int kind, int place) {
            super(null, null, false, false);
            this.kind = kind;
            this.place = place;
        }
    }

    private record Token(String text, int place, boolean right) { }

    private record Man(String name, int colour, int holes, int left) { }

    private record Deed(String name, int hours) { }

    private record Button(String name, int on, int by, int deed, boolean does, int until, int thread, int after) { }

    private record Friend(int a, int b, int worth) { }

    private interface Formula {
        int of(int thread, int holes, int storm, int day);
    }

    private static final class Told {
        final List<Man> men = new ArrayList<>();
        final List<Deed> deeds = new ArrayList<>();
        final List<Button> buttons = new ArrayList<>();
        final List<Friend> friends = new ArrayList<>();
        Formula wear = (thread, holes, storm, day) -> 1;
        int units;
        int hoursOfDay = 8;
        int storm;
        int draw;
    }

    private record Now(List<Integer> states, List<Integer> threads, int day, int seed, int cuts) { }

    private record Tug(int what, int number, boolean is, int toldAt, int[] untoldAt) { }

    private static final Set<String> WORDS = new HashSet<>(Arrays.asList(("man colour holes left deed hours button on by does "
        + "never until thread after friend wear day storm draw or and not").split(" ")));

    private final StringBuilder tape = new StringBuilder();
    private Told told = new Told();
    private Now now = fresh(told);
    private final Deque<Now> past = new ArrayDeque<>();
    private final Deque<Now> future = new ArrayDeque<>();
    private final Now[] boxes = new Now[3];
    private final List<Tug> tugs = new ArrayList<>();
    private List<Integer> lying = new ArrayList<>();
    private int time;
    private int faultKind;
    private int faultPlace = -1;

    private static Now fresh(Told told) {
        List<Integer> states = new ArrayList<>();
        List<Integer> threads = new ArrayList<>();
        for (Button b : told.buttons) {
            states.add(0);
            threads.add(b.thread());
        }
        return new Now(states, threads, 0, told.draw, 0);
    }

    // ---- the text

    int feed(int a, int b, int c, int d, int e) {
        if (tape.length() + 20 > 1600) {
            return -1;
        }
        for (int number : new int[] {a, b, c, d, e}) {
            for (byte sign : ByteBuffer.allocate(4).putInt(number).array()) {
                tape.append((char) (sign & 255));
            }
        }
        return tape.length();
    }

    int end(int n) {
        if (n < 0 || n > tape.length()) {
            return -1;
        }
        tape.setLength(n);
        return n;
    }

    int regiment() {
        String text = tape.toString();
        tape.setLength(0);
        try {
            told = new Parse(text).all();
        } catch (Fault fault) {
            faultKind = fault.kind;
            faultPlace = fault.place;
            return -1;
        }
        faultKind = 0;
        faultPlace = -1;
        now = fresh(told);
        past.clear();
        future.clear();
        Arrays.fill(boxes, null);
        tugs.clear();
        lying = new ArrayList<>();
        return told.buttons.size();
    }

    int fault(int what) {
        return what == 0 ? faultKind : what == 1 ? faultPlace : -1;
    }

    private static final class Parse {
        private static final Pattern TOKEN = Pattern.compile("[a-z]+|[0-9]+|[\\x00-\\xff]", Pattern.DOTALL);
        private final List<Token> tokens = new ArrayList<>();
        private final Told told = new Told();
        private final Set<String> once = new HashSet<>();
        private int next;

        Parse(String text) {
            Matcher m = TOKEN.matcher(text);
            while (m.find()) {
                String s = m.group();
                if (s.equals(" ") || s.equals("\n")) {
                    continue;
                }
                boolean right;
                if (Character.isDigit(s.charAt(0)) && s.charAt(0) < 128) {
                    right = s.length() <= 4 && !(m.end() < text.length() && text.substring(m.end(), m.end() + 1).matches("[a-z]"));
                } else if (s.matches("[a-z]+")) {
                    right = s.length() <= 8;
                } else {
                    right = ";()<>=+-*/%".contains(s);
                }
                tokens.add(new Token(s, m.start(), right));
            }
            tokens.add(new Token("", text.length(), true));
        }

        private Token here() {
            return tokens.get(next);
        }

        private Fault stop(int kind) {
            return new Fault(here().right() ? kind : 1, here().place());
        }

        private boolean at(String text) {
            return here().right() && here().text().equals(text);
        }

        private boolean optional(String text) {
            if (at(text)) {
                next++;
                return true;
            }
            return false;
        }

        private void expect(String text) {
            if (!optional(text)) {
                throw stop(2);
            }
        }

        private boolean atNumber() {
            return here().right() && here().text().matches("[0-9]+");
        }

        private int number(int least, int most) {
            if (!atNumber()) {
                throw stop(2);
            }
            int value = Integer.parseInt(here().text());
            if (value < least || value > most) {
                throw stop(4);
            }
            next++;
            return value;
        }

        private String name() {
            if (!here().right() || !here().text().matches("[a-z]+") || WORDS.contains(here().text())) {
                throw stop(2);
            }
            return here().text();
        }

        private String newName(List<String> names) {
            String name = name();
            if (names.contains(name)) {
                throw stop(3);
            }
            next++;
            return name;
        }

        private int known(List<String> names) {
            int found = names.indexOf(name());
            if (found < 0) {
                throw stop(5);
            }
            return found;
        }

        private List<String> men() {
            List<String> names = new ArrayList<>();
            told.men.forEach(m -> names.add(m.name()));
            return names;
        }

        private List<String> deeds() {
            List<String> names = new ArrayList<>();
            told.deeds.forEach(d -> names.add(d.name()));
            return names;
        }

        private List<String> buttons() {
            List<String> names = new ArrayList<>();
            told.buttons.forEach(b -> names.add(b.name()));
            return names;
        }

        private void room(int count, int most) {
            if (count == most) {
                throw stop(2);
            }
            next++;
        }

        private void onlyOnce() {
            if (!once.add(here().text())) {
                throw stop(2);
            }
            next++;
        }

        Told all() {
            while (!(here().text().isEmpty())) {
                line();
                expect(";");
            }
            return told;
        }

        private void line() {
            if (at("man")) {
                room(told.men.size(), 6);
                String name = newName(men());
                int colour = optional("colour") ? number(0, 9) : 0;
                int holes = optional("holes") ? number(1, 4) : 2;
                told.men.add(new Man(name, colour, holes, optional("left") ? 1 : 0));
            } else if (at("deed")) {
                room(told.deeds.size(), 6);
                String name = newName(deeds());
                expect("hours");
                told.deeds.add(new Deed(name, number(1, 24)));
            } else if (at("button")) {
                button();
            } else if (at("friend")) {
                friend();
            } else if (at("wear")) {
                onlyOnce();
                told.wear = either(0);
            } else if (at("day")) {
                onlyOnce();
                told.hoursOfDay = number(1, 24);
            } else if (at("storm")) {
                onlyOnce();
                told.storm = number(0, 100);
            } else if (at("draw")) {
                onlyOnce();
                told.draw = number(0, 999);
            } else {
                throw stop(2);
            }
        }

        private void button() {
            room(told.buttons.size(), 10);
            String name = newName(buttons());
            expect("on");
            int on = known(men());
            next++;
            expect("by");
            int by = known(men());
            if (by == on) {
                throw stop(3);
            }
            next++;
            boolean does = at("does");
            if (!does && !at("never")) {
                throw stop(2);
            }
            next++;
            int deed = known(deeds());
            next++;
            int until = optional("until") ? number(1, 60) : 60;
            int thread = optional("thread") ? number(1, 99) : 10;
            int after = -1;
            if (optional("after")) {
                after = known(buttons());
                next++;
            }
            told.buttons.add(new Button(name, on, by, deed, does, until, thread, after));
        }

        private void friend() {
            room(told.friends.size(), 15);
            int a = known(men());
            next++;
            int b = known(men());
            for (Friend f : told.friends) {
                if (f.a() == a && f.b() == b || f.a() == b && f.b() == a) {
                    throw stop(3);
                }
            }
            if (a == b) {
                throw stop(3);
            }
            next++;
            int place = here().place();
            boolean minus = optional("-");
            if (!atNumber()) {
                throw stop(2);
            }
            int value = number(0, 9999);
            if (value > 9) {
                throw new Fault(4, place);
            }
            told.friends.add(new Friend(a, b, minus ? -value : value));
        }

        private Formula either(int depth) {
            Formula left = both(depth);
            while (optional("or")) {
                Formula a = left;
                Formula b = both(depth);
                left = (t, h, s, d) -> a.of(t, h, s, d) != 0 || b.of(t, h, s, d) != 0 ? 1 : 0;
            }
            return left;
        }

        private Formula both(int depth) {
            Formula left = one(depth);
            while (optional("and")) {
                Formula a = left;
                Formula b = one(depth);
                left = (t, h, s, d) -> a.of(t, h, s, d) != 0 && b.of(t, h, s, d) != 0 ? 1 : 0;
            }
            return left;
        }

        private Formula one(int depth) {
            if (at("not")) {
                if (depth == 7) {
                    throw stop(2);
                }
                next++;
                Formula a = one(depth + 1);
                return (t, h, s, d) -> a.of(t, h, s, d) == 0 ? 1 : 0;
            }
            Formula a = sum(depth);
            if (optional("<")) {
                Formula b = sum(depth);
                return (t, h, s, d) -> a.of(t, h, s, d) < b.of(t, h, s, d) ? 1 : 0;
            }
            if (optional(">")) {
                Formula b = sum(depth);
                return (t, h, s, d) -> a.of(t, h, s, d) > b.of(t, h, s, d) ? 1 : 0;
            }
            if (optional("=")) {
                Formula b = sum(depth);
                return (t, h, s, d) -> a.of(t, h, s, d) == b.of(t, h, s, d) ? 1 : 0;
            }
            return a;
        }

        private Formula sum(int depth) {
            Formula left = term(depth);
            while (at("+") || at("-")) {
                boolean plus = at("+");
                next++;
                Formula a = left;
                Formula b = term(depth);
                left = (t, h, s, d) -> plus ? a.of(t, h, s, d) + b.of(t, h, s, d) : a.of(t, h, s, d) - b.of(t, h, s, d);
            }
            return left;
        }

        private Formula term(int depth) {
            Formula left = unit(depth);
            while (at("*") || at("/") || at("%")) {
                String sign = here().text();
                next++;
                Formula a = left;
                Formula b = unit(depth);
                left = (t, h, s, d) -> {
                    long x = a.of(t, h, s, d);
                    long y = b.of(t, h, s, d);
                    if (sign.equals("*")) {
                        return (int) (x * y);
                    }
                    return y == 0 ? 0 : (int) (sign.equals("/") ? x / y : x % y);
                };
            }
            return left;
        }

        private Formula unit(int depth) {
            if (told.units == 30) {
                throw stop(2);
            }
            told.units++;
            if (at("(")) {
                if (depth == 7) {
                    throw stop(2);
                }
                next++;
                Formula inner = either(depth + 1);
                expect(")");
                return inner;
            }
            if (atNumber()) {
                int value = number(0, 9999);
                return (t, h, s, d) -> value;
            }
            if (optional("thread")) {
                return (t, h, s, d) -> t;
            }
            if (optional("holes")) {
                return (t, h, s, d) -> h;
            }
            if (optional("storm")) {
                return (t, h, s, d) -> s;
            }
            if (optional("day")) {
                return (t, h, s, d) -> d;
            }
            throw stop(2);
        }
    }

    // ---- what is

    private boolean man(int i) {
        return i >= 0 && i < told.men.size();
    }

    private boolean deed(int i) {
        return i >= 0 && i < told.deeds.size();
    }

    private boolean isButton(int i) {
        return i >= 0 && i < told.buttons.size();
    }

    private boolean on(int i) {
        return isButton(i) && now.states().get(i) == 0;
    }

    int button(int i, int what) {
        if (!isButton(i)) {
            return -2;
        }
        Button b = told.buttons.get(i);
        int[] all = {now.states().get(i), now.threads().get(i), b.on(), b.by(), b.deed(), b.does() ? 1 : 0, b.until(), b.after()};
        return what >= 0 && what < all.length ? all[what] : -2;
    }

    int coat(int man, int what) {
        if (!man(man) || what < 0 || what > 3) {
            return -1;
        }
        int bits = 0;
        for (int i = 0; i < told.buttons.size(); i++) {
            Button b = told.buttons.get(i);
            int state = now.states().get(i);
            boolean[] is = {b.on() == man && state == 0, b.by() == man && state == 0, b.on() == man && state == 3,
                b.on() == man && state == 4};
            bits += is[what] ? 1 << i : 0;
        }
        return bits;
    }

    int free() {
        int bits = 0;
        for (int m = 0; m < told.men.size(); m++) {
            bits += coat(m, 0) == 0 ? 1 << m : 0;
        }
        return bits;
    }

    int sworn(int deed, int what) {
        if (!deed(deed) || what < 0 || what > 1) {
            return -1;
        }
        int bits = 0;
        for (int i = 0; i < told.buttons.size(); i++) {
            Button b = told.buttons.get(i);
            if (on(i) && b.deed() == deed && b.does() == (what == 0)) {
                bits |= 1 << b.on();
            }
        }
        return bits;
    }

    int many(int state) {
        return state < 0 || state > 4 ? -1 : (int) now.states().stream().filter(s -> s == state).count();
    }

    // ---- acts

    private void act(Now then) {
        past.push(now);
        if (past.size() > 40) {
            past.removeLast();
        }
        future.clear();
        now = then;
    }

    private Now with(int button, int state, int thread, int cuts) {
        List<Integer> states = new ArrayList<>(now.states());
        List<Integer> threads = new ArrayList<>(now.threads());
        states.set(button, state);
        threads.set(button, thread);
        return new Now(states, threads, now.day(), now.seed(), cuts);
    }

    int does(int man, int deed) {
        if (!man(man) || !deed(deed)) {
            return -1;
        }
        List<Integer> states = new ArrayList<>(now.states());
        int answer = 0;
        for (int i = 0; i < states.size(); i++) {
            Button b = told.buttons.get(i);
            if (on(i) && b.on() == man && b.deed() == deed) {
                states.set(i, b.does() ? 1 : 3);
                answer += b.does() ? 100 : 1;
            }
        }
        act(new Now(states, now.threads(), now.day(), now.seed(), now.cuts()));
        return answer;
    }

    boolean undoes(int i) {
        if (!on(i) || on(told.buttons.get(i).after())) {
            return false;
        }
        act(with(i, 2, now.threads().get(i), now.cuts()));
        return true;
    }

    int cut(int i) {
        if (!on(i) || now.cuts() == 3) {
            return -1;
        }
        act(with(i, 2, now.threads().get(i), now.cuts() + 1));
        return now.cuts();
    }

    int sew(int i) {
        if (!isButton(i) || now.states().get(i) != 0 && now.states().get(i) != 4) {
            return -1;
        }
        int had = now.threads().get(i);
        act(with(i, 0, told.buttons.get(i).thread(), now.cuts()));
        return had;
    }

    private int loss(int i, int thread, int storm, int day) {
        Button b = told.buttons.get(i);
        int loss = told.wear.of(thread, told.men.get(b.by()).holes(), storm, day);
        return loss < 0 ? 0 : loss > thread ? thread : loss;
    }

    private Now tomorrow(Now from) {
        int seed = (from.seed() * 137 + 71) % 1000;
        int storm = seed % 100 < told.storm ? 1 : 0;
        List<Integer> states = new ArrayList<>(from.states());
        List<Integer> threads = new ArrayList<>(from.threads());
        for (int i = 0; i < states.size(); i++) {
            if (states.get(i) == 0) {
                threads.set(i, threads.get(i) - loss(i, threads.get(i), storm, from.day()));
                if (threads.get(i) == 0) {
                    states.set(i, 4);
                }
            }
        }
        for (int i = 0; i < states.size(); i++) {
            Button b = told.buttons.get(i);
            if (states.get(i) == 0 && b.until() < from.day() + 1) {
                states.set(i, b.does() ? 3 : 1);
            }
        }
        return new Now(states, threads, from.day() + 1, seed, from.cuts());
    }

    int day() {
        if (now.day() == 99) {
            return -1;
        }
        int before = many(4);
        act(tomorrow(now));
        return many(4) - before;
    }

    boolean undo() {
        if (past.isEmpty()) {
            return false;
        }
        future.push(now);
        now = past.pop();
        return true;
    }

    boolean redo() {
        if (future.isEmpty()) {
            return false;
        }
        past.push(now);
        now = future.pop();
        return true;
    }

    // ---- what can be kept

    private record Order(List<Integer> deeds, int kept, int hours) { }

    /** All orders that can be, the shorter ones first, each by what it keeps. */
    private List<Order> orders(int man, int begin) {
        List<Order> all = new ArrayList<>();
        all.add(new Order(List.of(), 0, 0));
        for (int i = 0; i < all.size(); i++) {
            Order o = all.get(i);
            for (int d = 0; d < told.deeds.size(); d++) {
                if (o.deeds().contains(d)) {
                    continue;
                }
                int hours = o.hours() + told.deeds.get(d).hours();
                int day = begin;
                for (int left = hours; left > told.hoursOfDay; left -= told.hoursOfDay) {
                    day++;
                }
                int kept = o.kept();
                boolean may = true;
                for (int b = 0; b < told.buttons.size(); b++) {
                    Button button = told.buttons.get(b);
                    if (on(b) && button.on() == man && button.deed() == d && day <= button.until()) {
                        may &= button.does();
                        kept |= 1 << b;
                    }
                }
                if (may) {
                    List<Integer> deeds = new ArrayList<>(o.deeds());
                    deeds.add(d);
                    all.add(new Order(deeds, kept, hours));
                }
            }
        }
        return all;
    }

    private static int compare(Order a, Order b) {
        int by = Integer.bitCount(b.kept()) - Integer.bitCount(a.kept());
        if (by == 0) {
            by = a.hours() - b.hours();
        }
        for (int i = 0; by == 0 && i < a.deeds().size() && i < b.deeds().size(); i++) {
            by = a.deeds().get(i) - b.deeds().get(i);
        }
        return by;
    }

    private Order best(int man, int begin) {
        return orders(man, begin).stream().min(Model::compare).get();
    }

    int keep(int man, int what) {
        lying = new ArrayList<>();
        if (!man(man) || what < 0 || what > 2) {
            return -1;
        }
        Order best = best(man, now.day());
        lying.addAll(best.deeds());
        return what == 0 ? Integer.bitCount(best.kept()) : what == 1 ? best.hours() : best.kept();
    }

    int rest(int man) {
        if (!man(man)) {
            return -1;
        }
        int most = Integer.bitCount(best(man, now.day()).kept());
        int rest = 0;
        for (int d = 1; d <= 60; d++) {
            if (Integer.bitCount(best(man, now.day() + d).kept()) >= most) {
                rest = d;
            }
        }
        return rest;
    }

    int ties(int man, int other) {
        if (!man(man) || !man(other) || man == other) {
            return -1;
        }
        return coat(man, 0) & coat(other, 1);
    }

    int clash(int man, int what) {
        if (!man(man) || what < 0 || what > 1) {
            return -1;
        }
        List<Order> orders = orders(man, now.day());
        int wanted = 0;
        for (int i = 0; i < told.buttons.size(); i++) {
            wanted |= on(i) && told.buttons.get(i).on() == man && told.buttons.get(i).does() ? 1 << i : 0;
        }
        for (int size = 1; size <= 10; size++) {
            for (int set = 1; set < 1024; set++) {
                int s = set;
                if (Integer.bitCount(set) == size && (set & wanted) == set
                    && orders.stream().noneMatch(o -> (o.kept() & s) == s)) {
                    return what == 0 ? size : set;
                }
            }
        }
        return -1;
    }

    private List<Integer> leaveRow(int man, int deed) {
        Set<Integer> need = new HashSet<>();
        for (int i = 0; i < told.buttons.size(); i++) {
            Button b = told.buttons.get(i);
            if (on(i) && b.on() == man && b.deed() == deed && !b.does() && b.until() >= now.day()) {
                for (int j = i; on(j); j = told.buttons.get(j).after()) {
                    need.add(j);
                }
            }
        }
        List<Integer> row = new ArrayList<>();
        while (row.size() < need.size()) {
            for (int i = 0; i < told.buttons.size(); i++) {
                int after = told.buttons.get(i).after();
                if (need.contains(i) && !row.contains(i) && (!need.contains(after) || row.contains(after))) {
                    row.add(i);
                    break;
                }
            }
        }
        return row;
    }

    int leave(int man, int deed) {
        lying = new ArrayList<>();
        if (!man(man) || !deed(deed)) {
            return -1;
        }
        lying = leaveRow(man, deed);
        return lying.size();
    }

    int asked(int man, int deed) {
        if (!man(man) || !deed(deed)) {
            return -1;
        }
        int bits = 0;
        for (int i : leaveRow(man, deed)) {
            bits |= 1 << told.buttons.get(i).by();
        }
        return bits;
    }

    // ---- thread

    int holds(int i, int n, int storms) {
        if (!on(i) || n < 0 || n > 60 || storms < 0 || storms > 1) {
            return -1;
        }
        int thread = now.threads().get(i);
        for (int d = 0; d < n; d++) {
            thread -= loss(i, thread, storms, now.day() + d);
        }
        return thread;
    }

    private BigInteger ways(int i, int thread, int day, int n) {
        if (thread == 0) {
            return BigInteger.ZERO;
        }
        if (n == 0) {
            return BigInteger.ONE;
        }
        BigInteger with = ways(i, thread - loss(i, thread, 1, day), day + 1, n - 1);
        BigInteger without = ways(i, thread - loss(i, thread, 0, day), day + 1, n - 1);
        return with.multiply(BigInteger.valueOf(told.storm)).add(without.multiply(BigInteger.valueOf(100 - told.storm)));
    }

    long odds(int i, int n, int part) {
        if (!on(i) || n < 0 || n > 6 || part < 0 || part > 1) {
            return -1;
        }
        BigInteger upper = ways(i, now.threads().get(i), now.day(), n);
        BigInteger lower = BigInteger.valueOf(100).pow(n);
        return (part == 0 ? upper : lower).divide(upper.gcd(lower)).longValueExact();
    }

    int first(int what) {
        if (what < 0 || what > 1) {
            return -1;
        }
        for (int n = 1; n <= 60; n++) {
            for (int i = 0; i < told.buttons.size(); i++) {
                if (on(i) && holds(i, n, 0) == 0) {
                    return what == 0 ? i : n;
                }
            }
        }
        return -1;
    }

    int will(int i, int n) {
        if (!isButton(i) || n < 0 || n > 60) {
            return -1;
        }
        Now then = now;
        for (int d = 0; d < n; d++) {
            then = tomorrow(then);
        }
        return then.states().get(i);
    }

    // ---- truces

    int likes(int a, int b) {
        for (Friend f : told.friends) {
            if (f.a() == a && f.b() == b || f.a() == b && f.b() == a) {
                return f.worth();
            }
        }
        return -100;
    }

    /** All rows 'with whom' that can be, from the first on. */
    private List<int[]> truces() {
        int men = told.men.size();
        List<int[]> rows = new ArrayList<>();
        int count = 1;
        for (int i = 0; i < men; i++) {
            count *= men + 1;
        }
        for (int code = 0; code < count; code++) {
            int[] with = new int[men];
            int rest = code;
            for (int i = men - 1; i >= 0; i--) {
                with[i] = rest % (men + 1) - 1;
                rest /= men + 1;
            }
            boolean can = true;
            for (int i = 0; i < men; i++) {
                can &= with[i] == -1 || with[with[i]] == i && likes(i, with[i]) != -100;
            }
            if (can) {
                rows.add(with);
            }
        }
        return rows;
    }

    private void lay(int[] row) {
        lying = new ArrayList<>();
        for (int i : row) {
            lying.add(i);
        }
    }

    private int has(int[] with, int man) {
        return with[man] == -1 ? 0 : likes(man, with[man]);
    }

    int truce() {
        int best = Integer.MIN_VALUE;
        for (int[] with : truces()) {
            int twice = 0;
            for (int i = 0; i < with.length; i++) {
                twice += has(with, i);
            }
            if (twice / 2 > best) {
                best = twice / 2;
                lay(with);
            }
        }
        return best;
    }

    int calm() {
        int count = 0;
        lying = new ArrayList<>();
        for (int[] with : truces()) {
            boolean calm = true;
            for (Friend f : told.friends) {
                calm &= with[f.a()] == f.b() || f.worth() <= has(with, f.a()) || f.worth() <= has(with, f.b());
            }
            if (calm && count++ == 0) {
                lay(with);
            }
        }
        return count;
    }

    int lies(int i) {
        return i >= 0 && i < lying.size() ? lying.get(i) : -2;
    }

    // ---- tugs

    int tug(int what, int number, boolean is) {
        if (what < 0 || what > 2 || number < 0 || number > 9 || tugs.size() == 30) {
            return -1;
        }
        tugs.add(new Tug(what, number, is, time, new int[] {-1}));
        return tugs.size() - 1;
    }

    boolean untell(int i) {
        if (i < 0 || i >= tugs.size() || tugs.get(i).untoldAt()[0] >= 0) {
            return false;
        }
        tugs.get(i).untoldAt()[0] = time;
        return true;
    }

    int later(int by) {
        if (by < 0 || by > 1000 || time + by > 100000) {
            return -1;
        }
        time += by;
        return time;
    }

    private int trait(int man, int what) {
        Man m = told.men.get(man);
        return new int[] {m.colour(), m.holes(), m.left()}[what];
    }

    int swore(int k) {
        int bits = 0;
        for (int m = 0; m < told.men.size(); m++) {
            boolean so = true;
            for (Tug t : tugs) {
                boolean untold = t.untoldAt()[0] >= 0 && t.untoldAt()[0] <= k;
                if (t.toldAt() <= k && !untold) {
                    so &= t.is() == (trait(m, t.what()) == t.number());
                }
            }
            bits |= so ? 1 << m : 0;
        }
        return bits;
    }

    int ask(int what, int k) {
        int bits = swore(k);
        if (bits == 0 || what < 0 || what > 1) {
            return -1;
        }
        int best = -1;
        int fewest = 99;
        for (int w = 0; w < 3; w++) {
            int[] groups = new int[10];
            for (int m = 0; m < told.men.size(); m++) {
                groups[trait(m, w)] += bits >> m & 1;
            }
            int most = Arrays.stream(groups).max().getAsInt();
            if (most < fewest) {
                fewest = most;
                best = w;
            }
        }
        return what == 0 ? best : fewest;
    }

    // ---- images

    int image(int box) {
        if (box < 0 || box > 2) {
            return -1;
        }
        boxes[box] = now;
        return now.day();
    }

    int back(int box) {
        if (box < 0 || box > 2 || boxes[box] == null) {
            return -1;
        }
        now = boxes[box];
        past.clear();
        future.clear();
        return now.day();
    }

    int about(int what) {
        int[] all = {told.buttons.size(), told.men.size(), told.deeds.size(), told.friends.size(), now.day(), now.seed(), now.cuts(),
            told.hoursOfDay, past.size(), future.size(), tugs.size(), time, tape.length(), told.units, lying.size()};
        return what >= 0 && what < all.length ? all[what] : -1;
    }
}
