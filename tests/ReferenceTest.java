import java.util.ArrayList;
import java.util.Arrays;
import java.util.List;
import java.util.NoSuchElementException;
import java.util.Random;
import java.util.TreeSet;
import java.util.regex.Matcher;
import java.util.regex.Pattern;

/**
 * Random runs of calls, each answer held against a second model of the document, written apart from the
 * program and in other ways: faults by looking at every prefix, laws by cutting texts, searches by trying all.
 * Arguments: how many runs (400), the seed of the first (1).
 */
public final class ReferenceTest {
    private static final int MOST_CALLS = 512;
    private static final int NONE = -1;
    private static final int HIDDEN = -1000000;

    public static void main(String[] args) {
        int runs = args.length > 0 ? Integer.parseInt(args[0]) : 400;
        long first = args.length > 1 ? Long.parseLong(args[1]) : 1;
        long calls = 0;
        for (int run = 0; run < runs; run++) {
            Run one = new Run(first + run);
            calls += one.go();
            if (one.wrong != null) {
                System.out.println("run " + (first + run) + ": " + one.wrong);
                for (String line : one.told) {
                    System.out.println("  " + line);
                }
                System.exit(1);
            }
        }
        System.out.println("reference: " + runs + " runs, " + calls + " calls, all answers alike");
    }

    /** One run of calls on a new object and a new model. */
    private static final class Run {
        final Random random;
        final SaddlerKnows x = new SaddlerKnows();
        final Model m = new Model();
        final List<String> told = new ArrayList<>();
        final int style;
        static final int BARE = 0;
        static final int LATE = 1;
        static final int CROWDED = 2;
        static final int BLANKS = 3;
        String wrong;
        int calls;

        Run(long seed) {
            random = new Random(seed);
            style = random.nextInt(5);
        }

        int go() {
            if (style != BARE) {
                tell(county(), 0);
            }
            if (style == LATE) {
                for (int k = 0; k < 16; k++) {
                    same("weeks(60)", x.weeks(60), m.weeks(60));
                }
            }
            while (calls < MOST_CALLS && wrong == null) {
                if (chance(style == LATE ? 0 : 3)) {
                    tell(county(), 0);
                } else if (chance(style == CROWDED ? 1 : 4)) {
                    tell(lawText(), 1);
                } else if (chance(12)) {
                    tell(spoiled(chance(50) ? county() : lawText()), style == LATE ? 1 : random.nextInt(3));
                } else {
                    call(style == CROWDED && chance(15) ? 26 : random.nextInt(44));
                }
            }
            return calls;
        }

        boolean chance(int percent) {
            return random.nextInt(100) < percent;
        }

        int among(int low, int high) {
            if (chance(1)) {
                int[] far = {Integer.MIN_VALUE, Integer.MAX_VALUE, -2, 32, 64, 255, 256, 1000, -1000, 1 << 16};
                return far[random.nextInt(far.length)];
            }
            if (chance(4)) {
                return chance(50) ? low - 1 : high + 1;
            }
            return low + random.nextInt(high - low + 1);
        }

        int someone() {
            return among(0, Math.max(1, m.persons() - 1));
        }

        // ---- texts ----

        String blank() {
            return style == BLANKS && chance(20) ? " " : "";
        }

        String county() {
            StringBuilder text = new StringBuilder();
            int persons = 2 + random.nextInt(5);
            int saddles = random.nextInt(9);
            List<String> clauses = new ArrayList<>();
            if (chance(70)) {
                clauses.add(items("s", new String[] {"h", "k"}, new int[] {9, 99}));
            }
            for (int p = 0; p < persons; p++) {
                clauses.add(items("p", new String[] {"s", "b", "t"}, new int[] {9, 9, 9}));
            }
            TreeSet<Integer> pairs = new TreeSet<>();
            for (int k = 0; k < saddles; k++) {
                int one = random.nextInt(persons);
                int other = style == CROWDED && chance(75) ? 1 : random.nextInt(persons);
                if (chance(2) || one != other && pairs.add(one * 6 + other)) {
                    clauses.add("l" + blank() + "r" + one + blank() + "u" + blank() + other
                        + (chance(80) ? "f" + random.nextInt(10) : ""));
                }
            }
            if (chance(40)) {
                java.util.Collections.shuffle(clauses, random);
            }
            for (String clause : clauses) {
                text.append(text.length() > 0 ? ";" : "").append(blank()).append(clause).append(blank());
            }
            return text.toString();
        }

        String items(String kind, String[] letters, int[] highest) {
            List<String> list = new ArrayList<>();
            for (int k = 0; k < letters.length; k++) {
                if (chance(65)) {
                    int value = chance(2) ? random.nextInt(120) : random.nextInt(highest[k] + 1);
                    String zero = chance(5) ? "0" : "";
                    list.add(blank() + letters[k] + blank() + zero + value);
                }
            }
            java.util.Collections.shuffle(list, random);
            return kind + String.join("", list);
        }

        String lawText() {
            StringBuilder text = new StringBuilder();
            int clauses = 1 + random.nextInt(3);
            for (int k = 0; k < clauses; k++) {
                text.append(k > 0 ? ";" : "").append("y").append(blank()).append(":").append(blank());
                if (chance(k + 1 < clauses ? 90 : 30)) {
                    text.append(condition(0)).append("?");
                }
                text.append(sum(0));
            }
            return text.toString();
        }

        String condition(int depth) {
            String text = truth(depth);
            while (chance(25)) {
                text += blank() + "|" + truth(depth);
            }
            return text;
        }

        String truth(int depth) {
            String text = unit(depth);
            while (chance(25)) {
                text += "&" + blank() + unit(depth);
            }
            return text;
        }

        String unit(int depth) {
            if (depth < 7 && chance(20)) {
                return "!" + unit(depth + 1);
            }
            if (depth < 7 && chance(25)) {
                return "(" + condition(depth + 1) + blank() + ")";
            }
            return sum(depth) + "=<>".charAt(random.nextInt(3)) + blank() + sum(depth);
        }

        String sum(int depth) {
            String text = term(depth);
            while (chance(35)) {
                text += "+-".charAt(random.nextInt(2)) + blank() + term(depth);
            }
            return text;
        }

        String term(int depth) {
            String text = atom(depth);
            while (chance(30)) {
                text += blank() + "*/".charAt(random.nextInt(2)) + atom(depth);
            }
            return text;
        }

        String atom(int depth) {
            if (depth < 7 && chance(20)) {
                return "[" + blank() + sum(depth + 1) + "]";
            }
            if (chance(45)) {
                return "" + (chance(15) ? random.nextInt(12000) : random.nextInt(12));
            }
            return "" + "sbftgwgw".charAt(random.nextInt(8));
        }

        String spoiled(String text) {
            StringBuilder spoil = new StringBuilder(text);
            String signs = "spl;hkbtruf0123456789 y:?!()[]=<>&|+-*/gwx\u0001\u007f\u00e9\u00ff";
            int times = 1 + random.nextInt(2);
            for (int k = 0; k < times; k++) {
                int where = random.nextInt(spoil.length() + 1);
                char sign = signs.charAt(random.nextInt(signs.length()));
                int how = random.nextInt(4);
                if (how == 0 || where == spoil.length()) {
                    spoil.insert(where, sign);
                } else if (how == 1) {
                    spoil.deleteCharAt(where);
                } else if (how == 2) {
                    spoil.setCharAt(where, sign);
                } else {
                    spoil.setLength(where);
                }
            }
            return spoil.toString();
        }

        void tell(String text, int sort) {
            if (m.tape.length() > 0) {
                same("end(0)", x.end(0) ? 1 : 0, m.end(0));
            }
            for (int from = 0; from < text.length() && wrong == null; from += 20) {
                int[] numbers = new int[5];
                for (int k = 0; k < 20; k++) {
                    int value = from + k < text.length() ? text.charAt(from + k) : 0;
                    numbers[k / 4] = numbers[k / 4] << 8 | value;
                }
                feed(numbers);
            }
            if (chance(50)) {
                same("fault(" + sort + ") of " + m.tape, x.fault(sort), m.fault(sort));
            }
            if (chance(80)) {
                same("fault(" + (1 - sort) + ") of " + m.tape, x.fault(1 - sort), m.fault(1 - sort));
            }
            same("text(" + sort + ") of " + m.tape, x.text(sort), m.text(sort));
            if (sort == 1 && chance(60)) {
                int law = m.laws.size() - 1;
                same("law(" + law + ")", x.law(law) ? 1 : 0, m.law(law));
            }
        }

        void feed(int[] n) {
            same("feed(" + Arrays.toString(n) + ")", x.feed(n[0], n[1], n[2], n[3], n[4]), m.feed(n));
        }

        // ---- calls ----

        void call(int which) {
            int a = someone();
            int b = someone();
            switch (which) {
                case 0:
                    feed(new int[] {random.nextInt(), chance(50) ? 0 : random.nextInt(), 0, 0, random.nextInt()});
                    break;
                case 1: {
                    int n = among(0, m.tape.length());
                    same("end(" + n + ")", x.end(n) ? 1 : 0, m.end(n));
                    break;
                }
                case 2: {
                    int what = among(0, 1);
                    same("rule(" + what + ")", x.rule(what), m.rule(what));
                    break;
                }
                case 3:
                case 4:
                    person(a, among(0, 5));
                    break;
                case 5: {
                    int at = among(0, 7);
                    int what = among(0, 3);
                    same("saddle(" + at + ", " + what + ")", x.saddle(at, what), m.saddle(at, what));
                    break;
                }
                case 6: {
                    int law = among(-1, Math.max(0, m.laws.size() - 1));
                    same("law(" + law + ")", x.law(law) ? 1 : 0, m.law(law));
                    break;
                }
                case 7:
                case 8: {
                    int n = chance(70) ? among(1, 6) : among(1, 60);
                    same("weeks(" + n + ")", x.weeks(n), m.weeks(n));
                    break;
                }
                case 9:
                case 10:
                case 11: {
                    int fit = among(0, 9);
                    same("makes(" + a + ", " + b + ", " + fit + ")", x.makes(a, b, fit), m.makes(a, b, fit));
                    break;
                }
                case 12: {
                    int at = among(0, 7);
                    int fit = among(0, 9);
                    same("stitch(" + at + ", " + fit + ")", x.stitch(at, fit), m.stitch(at, fit));
                    break;
                }
                case 13: {
                    int at = among(0, 7);
                    same("off(" + at + ")", x.off(at), m.off(at));
                    break;
                }
                case 14:
                    same("salve(" + a + ")", x.salve(a), m.salve(a));
                    break;
                case 15: {
                    int n = among(1, 50);
                    same("give(" + n + ")", x.give(n), m.give(n));
                    break;
                }
                case 16: {
                    int v = among(0, 9);
                    same("rest(" + v + ")", x.rest(v) ? 1 : 0, m.rest(v));
                    break;
                }
                case 17: {
                    int n = chance(60) ? among(1, 8) : among(1, 60);
                    long seed = random.nextLong();
                    same("years(" + n + ", " + seed + ")", x.years(n, seed), m.years(n, seed));
                    break;
                }
                case 18: {
                    int what = among(0, 4);
                    same("status(" + what + ")", x.status(what), m.status(what));
                    break;
                }
                case 19: {
                    int times = chance(15) ? 45 : 1 + random.nextInt(4);
                    for (int k = 0; k < times && wrong == null; k++) {
                        same("undo()", x.undo(), m.undo());
                    }
                    break;
                }
                case 20:
                case 21: {
                    int i = chance(50) ? among(0, 4) : among(0, 60);
                    int what = among(0, 2);
                    same("log(" + i + ", " + what + ")", x.log(i, what), m.log(i, what));
                    break;
                }
                case 22:
                    same("limit(" + a + ")", x.limit(a), m.limit(a));
                    break;
                case 23: {
                    int fit = among(0, 9);
                    same("pinch(" + a + ", " + b + ", " + fit + ")", x.pinch(a, b, fit), m.pinch(a, b, fit));
                    break;
                }
                case 24: {
                    int at = among(0, 7);
                    int what = among(0, 1);
                    same("best(" + at + ", " + what + ")", x.best(at, what), m.best(at, what));
                    break;
                }
                case 25:
                    same("throwing(" + a + ")", x.throwing(a), m.throwing(a));
                    break;
                case 26: {
                    int n = among(1, 30);
                    a = style == CROWDED && chance(60) ? 1 : a;
                    same("bears(" + a + ", " + n + ", 0)", x.bears(a, n, 0), m.bears(a, n, 0));
                    same("bears(" + a + ", " + n + ", 1)", x.bears(a, n, 1), m.bears(a, n, 1));
                    same("bears(" + a + ", " + n + ", 2)", x.bears(a, n, 2), m.bears(a, n, 2));
                    break;
                }
                case 27:
                    same("ring()", x.ring(), m.ring());
                    break;
                case 28:
                    same("chain(" + a + ", " + b + ")", x.chain(a, b), m.chain(a, b));
                    break;
                case 29: {
                    int what = among(0, 1);
                    same("seats(" + what + ")", x.seats(what), m.seats(what));
                    break;
                }
                case 30: {
                    int n = among(1, 9);
                    int v = chance(70) ? among(0, 30) : among(0, 99);
                    boolean more = chance(60);
                    same("seen(" + a + ", " + n + ", " + v + ", " + more + ")", x.seen(a, n, v, more),
                        m.seen(a, n, v, more));
                    break;
                }
                case 31: {
                    int saddle = among(0, 7);
                    int i = among(-1, 9);
                    same("fits(" + saddle + ", " + i + ")", x.fits(saddle, i), m.fits(saddle, i));
                    same("fits(" + saddle + ", -1)", x.fits(saddle, -1), m.fits(saddle, -1));
                    break;
                }
                case 32: {
                    int saddle = among(0, 7);
                    int n = among(1, 9);
                    same("ask(" + saddle + ", " + n + ")", x.ask(saddle, n), m.ask(saddle, n));
                    break;
                }
                case 33: {
                    int[] n = {among(0, 9), among(0, 9), among(0, 1)};
                    same("waiting(" + a + ", " + b + ", " + Arrays.toString(n) + ")",
                        x.waiting(a, b, n[0], n[1], n[2]), m.waiting(a, b, n[0], n[1], n[2]));
                    break;
                }
                case 34: {
                    int i = among(-1, 20);
                    same("rests(" + a + ", " + b + ", " + i + ")", x.rests(a, b, i), m.rests(a, b, i));
                    break;
                }
                case 35:
                case 36: {
                    int n = among(0, 6);
                    int c = among(0, 100);
                    same("odds(" + a + ", " + n + ", " + c + ")", x.odds(a, n, c), m.odds(a, n, c));
                    break;
                }
                case 37: {
                    int c = among(0, 999);
                    same("shares(" + a + ", " + c + ")", x.shares(a, c), m.shares(a, c));
                    break;
                }
                case 38:
                case 39: {
                    int what = among(0, 13);
                    same("most(" + what + ")", x.most(what), m.most(what));
                    break;
                }
                case 40:
                    same("image()", x.image(), m.image());
                    break;
                case 41:
                    same("back()", x.back(), m.back());
                    break;
                case 42: {
                    int what = among(0, 10);
                    same("count(" + what + ")", x.count(what), m.count(what));
                    break;
                }
                default:
                    everything();
                    break;
            }
        }

        void everything() {
            for (int what = 0; what <= 10; what++) {
                same("count(" + what + ")", x.count(what), m.count(what));
            }
            for (int at = 0; at < 8; at++) {
                for (int what = 0; what < 4; what++) {
                    same("saddle(" + at + ", " + what + ")", x.saddle(at, what), m.saddle(at, what));
                }
            }
            for (int p = 0; p < m.persons(); p++) {
                person(p, 3);
                person(p, 4);
                person(p, 5);
            }
            for (int what = 0; what <= 13; what++) {
                same("most(" + what + ")", x.most(what), m.most(what));
            }
        }

        void person(int a, int what) {
            long got;
            long want;
            try {
                got = x.person(a, what);
            } catch (NoSuchElementException e) {
                got = Long.MAX_VALUE;
            }
            try {
                want = m.person(a, what);
            } catch (NoSuchElementException e) {
                want = Long.MAX_VALUE;
            }
            same("person(" + a + ", " + what + ")", got, want);
        }

        void same(String call, long got, long want) {
            calls++;
            if (wrong != null) {
                return;
            }
            told.add(call + " = " + want);
            if (got != want) {
                wrong = call + " answered " + got + ", due is " + want;
            }
        }
    }

    /** How it stands; copied whole for each act, each image and each week that is thought. */
    private static final class State implements Cloneable {
        int[][] saddles = new int[8][];
        int[] gall;
        int coins;
        int week;
        List<int[]> log = new ArrayList<>();

        State copy() {
            State s = new State();
            for (int k = 0; k < 8; k++) {
                s.saddles[k] = saddles[k] == null ? null : saddles[k].clone();
            }
            s.gall = gall.clone();
            s.coins = coins;
            s.week = week;
            s.log = new ArrayList<>(log);
            return s;
        }

        int find(int one, int other) {
            for (int k = 0; k < 8; k++) {
                if (saddles[k] != null && saddles[k][0] == one && saddles[k][1] == other) {
                    return k;
                }
            }
            return NONE;
        }

        int free() {
            for (int k = 0; k < 8; k++) {
                if (saddles[k] == null) {
                    return k;
                }
            }
            return NONE;
        }

        int many() {
            int many = 0;
            for (int[] saddle : saddles) {
                many += saddle == null ? 0 : 1;
            }
            return many;
        }

        boolean bears(int p) {
            for (int[] saddle : saddles) {
                if (saddle != null && saddle[1] == p) {
                    return true;
                }
            }
            return false;
        }

        int all() {
            int all = 0;
            for (int v : gall) {
                all += v;
            }
            return all;
        }
    }

    private static final class Model {
        String tape = "";
        List<String> laws = new ArrayList<>();
        int holds = NONE;
        int rest = 2;
        int[] status = new int[5];
        // the county: none while there are no persons
        int heals;
        int toldCoins;
        List<int[]> people = new ArrayList<>();
        List<int[]> toldSaddles = new ArrayList<>();
        State now;
        State image;
        List<State> acts = new ArrayList<>();
        List<int[]> seen = new ArrayList<>();

        int persons() {
            return people.size();
        }

        boolean is(int p) {
            return p >= 0 && p < people.size();
        }

        boolean there(int at) {
            return now != null && at >= 0 && at < 8 && now.saddles[at] != null;
        }

        // ---- texts ----

        int feed(int[] n) {
            StringBuilder more = new StringBuilder();
            for (int v : n) {
                for (int shift = 24; shift >= 0; shift -= 8) {
                    if ((v >>> shift & 255) != 0) {
                        more.append((char) (v >>> shift & 255));
                    }
                }
            }
            if (tape.length() + more.length() > 240) {
                return NONE;
            }
            tape += more;
            return tape.length();
        }

        int end(int n) {
            if (n < 0 || n > tape.length()) {
                return 0;
            }
            tape = tape.substring(0, n);
            return 1;
        }

        int fault(int sort) {
            if (sort == 0) {
                return Texts.countyFault(tape);
            }
            return sort == 1 ? Texts.lawFault(tape) : -2;
        }

        int text(int sort) {
            if (sort != 0 && sort != 1 || fault(sort) != NONE || sort == 1 && laws.size() == 4) {
                return NONE;
            }
            String text = tape.replace(" ", "");
            tape = "";
            if (sort == 1) {
                laws.add(text);
                return laws.size() - 1;
            }
            heals = 2;
            toldCoins = 20;
            people.clear();
            toldSaddles.clear();
            for (String clause : text.split(";")) {
                if (clause.charAt(0) == 's') {
                    heals = Texts.item(clause, 'h', 2);
                    toldCoins = Texts.item(clause, 'k', 20);
                } else if (clause.charAt(0) == 'p') {
                    people.add(new int[] {Texts.item(clause, 's', 4), Texts.item(clause, 'b', 4),
                        Texts.item(clause, 't', 3)});
                } else {
                    toldSaddles.add(new int[] {Texts.item(clause, 'r', 0), Texts.item(clause, 'u', 1),
                        Texts.item(clause, 'f', 5)});
                }
            }
            now = asTold();
            image = null;
            acts.clear();
            seen.clear();
            return people.size();
        }

        State asTold() {
            State s = new State();
            s.gall = new int[people.size()];
            for (int k = 0; k < toldSaddles.size(); k++) {
                s.saddles[k] = toldSaddles.get(k).clone();
            }
            s.coins = toldCoins;
            return s;
        }

        int law(int law) {
            if (law < NONE || law >= laws.size()) {
                return 0;
            }
            holds = law;
            return 1;
        }

        // ---- pinches and weeks ----

        int pinched(int one, int other, int fit, int gall, int week) {
            int s = people.get(one)[0];
            int b = people.get(other)[1];
            int worth;
            if (holds == NONE) {
                worth = Math.abs(fit - b) + s / 3;
            } else {
                worth = Texts.worth(laws.get(holds), new int[] {s, b, fit, people.get(other)[2], gall, week % 100});
            }
            return worth < 0 ? 0 : worth > 30 ? 30 : worth;
        }

        int load(State s, int p) {
            int load = 0;
            for (int[] saddle : s.saddles) {
                if (saddle != null && saddle[1] == p) {
                    load += pinched(saddle[0], p, saddle[2], s.gall[p], s.week);
                }
            }
            return load;
        }

        int limitOf(int p) {
            return 30 - 2 * people.get(p)[2];
        }

        /** A week for all; who is idle heals and throws nothing off. */
        int pass(State s, int idle) {
            int[] then = new int[people.size()];
            boolean[] bearing = new boolean[people.size()];
            for (int p = 0; p < people.size(); p++) {
                bearing[p] = s.bears(p) && p != idle;
                then[p] = bearing[p] ? Math.min(99, s.gall[p] + load(s, p)) : Math.max(0, s.gall[p] - heals);
            }
            s.gall = then;
            int threw = 0;
            for (int p = 0; p < people.size(); p++) {
                if (bearing[p] && s.gall[p] >= limitOf(p)) {
                    threw |= 1 << p;
                    s.gall[p] /= 2;
                    for (int k = 0; k < 8; k++) {
                        if (s.saddles[k] != null && s.saddles[k][1] == p) {
                            s.saddles[k] = null;
                        }
                    }
                }
            }
            s.log.add(0, new int[] {threw, s.all(), s.many()});
            if (s.log.size() > 60) {
                s.log.remove(60);
            }
            s.coins = Math.min(999, s.coins + s.many());
            s.week++;
            return threw;
        }

        void act() {
            acts.add(now.copy());
            if (acts.size() > 40) {
                acts.remove(0);
            }
        }

        int no(int why) {
            status[why]++;
            return NONE;
        }

        // ---- the face ----

        int rule(int what) {
            if (now == null) {
                return NONE;
            }
            return what == 0 ? heals : what == 1 ? now.coins : NONE;
        }

        int person(int p, int what) {
            if (!is(p) || what < 0 || what > 5) {
                throw new NoSuchElementException();
            }
            if (what < 3) {
                return people.get(p)[what];
            }
            if (what == 3) {
                return now.gall[p];
            }
            if (what == 4) {
                return load(now, p);
            }
            int[][] far = distances();
            int bits = 0;
            for (int q = 0; q < persons(); q++) {
                bits |= far[p][q] < 99 ? 1 << q : 0;
            }
            return bits;
        }

        /** The fewest saddles (one at least) from each to each, by all middles. */
        int[][] distances() {
            int n = persons();
            int[][] far = new int[n][n];
            for (int[] row : far) {
                Arrays.fill(row, 99);
            }
            if (now == null) {
                return far;
            }
            for (int[] saddle : now.saddles) {
                if (saddle != null) {
                    far[saddle[0]][saddle[1]] = 1;
                }
            }
            for (int m = 0; m < n; m++) {
                for (int i = 0; i < n; i++) {
                    for (int j = 0; j < n; j++) {
                        far[i][j] = Math.min(far[i][j], far[i][m] + far[m][j]);
                    }
                }
            }
            return far;
        }

        int saddle(int at, int what) {
            if (!there(at) || what < 0 || what > 3) {
                return NONE;
            }
            int[] s = now.saddles[at];
            return what < 3 ? s[what] : pinched(s[0], s[1], s[2], now.gall[s[1]], now.week);
        }

        int weeks(int n) {
            if (now == null) {
                return no(0);
            }
            if (n < 1 || n > 60) {
                return no(1);
            }
            if (now.week + n > 999) {
                return no(4);
            }
            for (int k = 0; k < n; k++) {
                act();
                pass(now, NONE);
            }
            return now.week;
        }

        int makes(int one, int other, int fit) {
            if (!is(one) || !is(other)) {
                return no(0);
            }
            if (one == other || fit < 0 || fit > 9) {
                return no(1);
            }
            if (now.find(one, other) != NONE) {
                return no(2);
            }
            if (now.coins < 3 || now.free() == NONE) {
                return no(3);
            }
            act();
            now.coins -= 3;
            int place = now.free();
            now.saddles[place] = new int[] {one, other, fit};
            return place;
        }

        int stitch(int at, int fit) {
            if (!there(at)) {
                return no(0);
            }
            if (fit < 0 || fit > 9) {
                return no(1);
            }
            int was = now.saddles[at][2];
            if (was == fit) {
                return no(2);
            }
            if (now.coins < Math.abs(was - fit)) {
                return no(3);
            }
            act();
            now.coins -= Math.abs(was - fit);
            now.saddles[at][2] = fit;
            return was;
        }

        int off(int at) {
            if (!there(at)) {
                return no(0);
            }
            act();
            now.saddles[at] = null;
            return now.many();
        }

        int salve(int p) {
            if (!is(p)) {
                return no(0);
            }
            if (now.gall[p] == 0) {
                return no(2);
            }
            if (now.coins < 2) {
                return no(3);
            }
            act();
            now.coins -= 2;
            now.gall[p] = Math.max(0, now.gall[p] - 5);
            return now.gall[p];
        }

        int give(int n) {
            if (now == null) {
                return no(0);
            }
            if (n < 1 || n > 50 || now.coins + n > 999) {
                return no(1);
            }
            act();
            now.coins += n;
            return now.coins;
        }

        int rest(int v) {
            if (v < 0 || v > 9 || v == rest) {
                return 0;
            }
            rest = v;
            return 1;
        }

        long x;

        int draw(int j) {
            x = x * 6364136223846793005L + 1442695040888963407L;
            return (int) Long.remainderUnsigned(x >>> 33, j);
        }

        int years(int n, long seed) {
            if (now == null || n < 1 || n > 60 || now.week + n > 999) {
                return NONE;
            }
            x = seed;
            for (int k = 0; k < n; k++) {
                act();
                int one = draw(persons());
                int other = draw(persons());
                int fit = draw(10);
                if (one != other && now.find(one, other) == NONE && now.free() != NONE) {
                    now.saddles[now.free()] = new int[] {one, other, fit};
                }
                if (draw(10) < rest) {
                    now.saddles[draw(8)] = null;
                }
                pass(now, NONE);
            }
            return now.week;
        }

        int status(int what) {
            return what < 0 || what > 4 ? NONE : status[what];
        }

        int undo() {
            if (acts.isEmpty()) {
                return NONE;
            }
            now = acts.remove(acts.size() - 1);
            return acts.size();
        }

        int log(int i, int what) {
            if (now == null || i < 0 || i >= now.log.size() || what < 0 || what > 2) {
                return NONE;
            }
            return now.log.get(i)[what];
        }

        int limit(int p) {
            return is(p) ? limitOf(p) : NONE;
        }

        int pinch(int one, int other, int fit) {
            if (!is(one) || !is(other) || one == other || fit < 0 || fit > 9) {
                return NONE;
            }
            return pinched(one, other, fit, now.gall[other], now.week);
        }

        int best(int at, int what) {
            if (!there(at) || what < 0 || what > 1) {
                return NONE;
            }
            int[] s = now.saddles[at];
            int least = 99;
            int fits = NONE;
            for (int f = 9; f >= 0; f--) {
                int v = pinch(s[0], s[1], f);
                if (v <= least) {
                    least = v;
                    fits = f;
                }
            }
            return what == 0 ? fits : least;
        }

        int throwsWithin(State from, int p, int n) {
            State s = from.copy();
            for (int k = 1; k <= n; k++) {
                if ((pass(s, NONE) >> p & 1) == 1) {
                    return k;
                }
            }
            return NONE;
        }

        int throwing(int p) {
            return is(p) ? throwsWithin(now, p, 99) : NONE;
        }

        int bears(int p, int n, int what) {
            if (!is(p) || n < 1 || n > 30 || what < 0 || what > 1) {
                return NONE;
            }
            if (!now.bears(p)) {
                return what == 0 ? 0 : NONE;
            }
            List<Integer> on = new ArrayList<>();
            State alone = now.copy();
            for (int k = 0; k < 8; k++) {
                if (alone.saddles[k] != null && alone.saddles[k][1] == p) {
                    on.add(k);
                } else {
                    alone.saddles[k] = null;
                }
            }
            TreeSet<Long> found = new TreeSet<>();
            for (int one : on) {
                for (int other : on) {
                    for (int both = 0; both < 100; both++) {
                        State s = alone.copy();
                        s.saddles[one][2] = both / 10;
                        s.saddles[other][2] = both % 10;
                        long cost = 0;
                        StringBuilder digits = new StringBuilder();
                        for (int k : on) {
                            cost += Math.abs(s.saddles[k][2] - now.saddles[k][2]);
                            digits.append(s.saddles[k][2]);
                        }
                        long key = cost * 1000000 + Long.parseLong(digits.toString());
                        if ((found.isEmpty() || key < found.first()) && throwsWithin(s, p, n) == NONE) {
                            found.add(key);
                        }
                    }
                }
            }
            if (found.isEmpty()) {
                return NONE;
            }
            return (int) (what == 0 ? found.first() / 1000000 : found.first() % 1000000);
        }

        int ring() {
            int fewest = 99;
            int[][] far = distances();
            for (int p = 0; p < persons(); p++) {
                fewest = Math.min(fewest, far[p][p]);
            }
            return fewest == 99 ? NONE : fewest;
        }

        int chain(int from, int to) {
            if (!is(from) || !is(to)) {
                return NONE;
            }
            int far = from == to ? 0 : distances()[from][to];
            return far >= 99 ? NONE : far;
        }

        int seats(int what) {
            if (now == null || what < 0 || what > 1) {
                return NONE;
            }
            int n = persons();
            long best = Long.MAX_VALUE;
            int rows = 1;
            for (int k = 0; k < n; k++) {
                rows *= 10;
            }
            String highest = "543210".substring(6 - n);
            int[][] least = new int[n][n];
            for (int p = 0; p < n; p++) {
                for (int q = 0; q < n; q++) {
                    least[p][q] = 99;
                    for (int f = 0; f < 10 && p != q; f++) {
                        least[p][q] = Math.min(least[p][q], pinch(p, q, f));
                    }
                }
            }
            for (int row = 0; row <= Integer.parseInt(highest); row++) {
                int used = 0;
                long sum = 0;
                int rest = row;
                for (int p = n - 1; p >= 0; p--) {
                    int q = rest % 10;
                    rest /= 10;
                    if (q >= n || q == p || (used >> q & 1) == 1) {
                        sum = -1;
                        break;
                    }
                    used |= 1 << q;
                    sum += least[p][q];
                }
                if (sum >= 0) {
                    best = Math.min(best, sum * rows + row);
                }
            }
            return (int) (what == 0 ? best % rows : best / rows);
        }

        int seen(int p, int n, int v, boolean more) {
            if (!is(p) || n < 1 || n > 9 || v < 0 || v > 99 || seen.size() == 10) {
                return NONE;
            }
            seen.add(new int[] {p, n, v, more ? 1 : 0});
            return seen.size();
        }

        State behind(int saddle, int fit, int n) {
            State s = asTold();
            s.saddles[saddle][2] = fit;
            for (int k = 0; k < n; k++) {
                pass(s, NONE);
            }
            return s;
        }

        List<Integer> fitting(int saddle) {
            List<Integer> fits = new ArrayList<>();
            for (int f = 0; f < 10; f++) {
                boolean so = true;
                for (int[] one : seen) {
                    int gall = behind(saddle, f, one[1]).gall[one[0]];
                    so &= one[3] == 1 ? gall >= one[2] : gall < one[2];
                }
                if (so) {
                    fits.add(f);
                }
            }
            return fits;
        }

        int fits(int saddle, int i) {
            if (saddle < 0 || saddle >= toldSaddles.size()) {
                return NONE;
            }
            List<Integer> fits = fitting(saddle);
            if (i == NONE) {
                return fits.size();
            }
            return i < 0 || i >= fits.size() ? NONE : fits.get(i);
        }

        int ask(int saddle, int n) {
            if (saddle < 0 || saddle >= toldSaddles.size() || n < 1 || n > 9) {
                return NONE;
            }
            List<Integer> galls = new ArrayList<>();
            for (int f : fitting(saddle)) {
                galls.add(behind(saddle, f, n).gall[toldSaddles.get(saddle)[1]]);
            }
            int best = NONE;
            int least = 1000;
            for (int v = 99; v >= 0 && !galls.isEmpty(); v--) {
                int more = 0;
                for (int gall : galls) {
                    more += gall >= v ? 1 : 0;
                }
                int apart = Math.abs(more - (galls.size() - more));
                if (apart <= least) {
                    least = apart;
                    best = v;
                }
            }
            return best;
        }

        int waiting(int one, int other, int x, int y, int what) {
            if (!is(one) || !is(other) || one == other || what < 0 || what > 1) {
                return HIDDEN;
            }
            if (x < 0 || x > 9 || y < 0 || y > 9) {
                return HIDDEN;
            }
            int self = what == 0 ? one : other;
            int rival = what == 0 ? other : one;
            int own = what == 0 ? x : y;
            int his = what == 0 ? y : x;
            if (own == his) {
                return people.get(self)[2] / 2 - own;
            }
            return own > his ? people.get(rival)[0] - his : -own;
        }

        int rests(int one, int other, int i) {
            if (!is(one) || !is(other) || one == other) {
                return NONE;
            }
            List<Integer> rests = new ArrayList<>();
            for (int xy = 0; xy < 100; xy++) {
                boolean rests0 = true;
                for (int k = 0; k < 10; k++) {
                    rests0 &= waiting(one, other, k, xy % 10, 0) <= waiting(one, other, xy / 10, xy % 10, 0);
                    rests0 &= waiting(one, other, xy / 10, k, 1) <= waiting(one, other, xy / 10, xy % 10, 1);
                }
                if (rests0) {
                    rests.add(xy);
                }
            }
            if (i == NONE) {
                return rests.size();
            }
            return i < 0 || i >= rests.size() ? NONE : rests.get(i);
        }

        int odds(int p, int n, int chance) {
            if (!is(p) || n < 0 || n > 6 || chance < 0 || chance > 100) {
                return NONE;
            }
            long thrown = 0;
            List<Object[]> parts = new ArrayList<>();
            parts.add(new Object[] {now.copy(), 1000000000L});
            for (int k = 0; k < n; k++) {
                List<Object[]> next = new ArrayList<>();
                for (Object[] part : parts) {
                    long all = (Long) part[1];
                    long idle = all * chance / 100;
                    State busy = ((State) part[0]).copy();
                    State resting = ((State) part[0]).copy();
                    pass(resting, p);
                    next.add(new Object[] {resting, idle});
                    if ((pass(busy, NONE) >> p & 1) == 1) {
                        thrown += all - idle;
                    } else {
                        next.add(new Object[] {busy, all - idle});
                    }
                }
                parts = next;
            }
            return (int) thrown;
        }

        int shares(int p, int c) {
            if (!is(p) || c < 0 || c > 999) {
                return NONE;
            }
            return now.all() == 0 ? 0 : c * now.gall[p] / now.all();
        }

        int most(int what) {
            if (now == null || what < 0 || what > 13) {
                return NONE;
            }
            if (what <= 5) {
                int first = 0;
                for (int p = persons() - 1; p >= 0; p--) {
                    if (value(what, p) >= value(what, first)) {
                        first = p;
                    }
                }
                return first;
            }
            int bits = 0;
            int tightest = NONE;
            int sides = 0;
            int[][] far = distances();
            for (int p = 0; p < persons(); p++) {
                boolean sits = value(2, p) > 0;
                boolean bit = what == 7 && !now.bears(p) || what == 8 && !now.bears(p) && sits
                    || what == 9 && throwsWithin(now, p, 1) == 1 || what == 12 && far[p][p] < 99;
                bits |= bit ? 1 << p : 0;
                for (int q = 0; q < p; q++) {
                    sides += far[p][q] == 1 && far[q][p] == 1 ? 1 : 0;
                }
            }
            for (int k = 7; k >= 0; k--) {
                if (there(k)) {
                    bits |= what == 10 ? 1 << k : 0;
                    if (tightest == NONE || saddle(k, 3) >= saddle(tightest, 3)) {
                        tightest = k;
                    }
                }
            }
            return what == 6 ? tightest : what == 11 ? now.all() : what == 13 ? sides : bits;
        }

        int value(int what, int p) {
            if (what == 0) {
                return now.gall[p];
            }
            if (what == 1) {
                return load(now, p);
            }
            if (what > 2) {
                return people.get(p)[what - 3];
            }
            int sits = 0;
            for (int[] saddle : now.saddles) {
                sits += saddle != null && saddle[0] == p ? 1 : 0;
            }
            return sits;
        }

        int image() {
            if (now == null) {
                return NONE;
            }
            image = now.copy();
            return now.week;
        }

        int back() {
            if (image == null) {
                return NONE;
            }
            now = image.copy();
            acts.clear();
            return now.week;
        }

        int count(int what) {
            int week = now == null ? 0 : now.week;
            int many = now == null ? 0 : now.many();
            int logged = now == null ? 0 : now.log.size();
            int[] counts = {persons(), toldSaddles.size(), laws.size(), tape.length(), holds, week, many, rest,
                seen.size(), logged, acts.size()};
            return what < 0 || what > 10 ? HIDDEN : counts[what];
        }
    }

    /** Faults and worths of texts. */
    private static final class Texts {
        private static final Pattern CLAUSE = Pattern.compile(" *([spl])((?: *[a-z] *[0-9]+)*) *");
        private static final Pattern OPEN = Pattern.compile(" *([spl])((?: *[a-z] *[0-9]+)*) *(?:([a-z]) *)?");
        private static final Pattern ITEM = Pattern.compile("([a-z]) *([0-9]+)");

        static int item(String clause, char letter, int without) {
            Matcher m = Pattern.compile(letter + "([0-9]+)").matcher(clause.substring(1));
            return m.find() ? Integer.parseInt(m.group(1)) : without;
        }

        static int countyFault(String text) {
            for (int n = 1; n <= text.length(); n++) {
                boolean goesOn = n < text.length() && Character.isDigit(text.charAt(n));
                if (!canBegin(text.substring(0, n), goesOn)) {
                    return n - 1;
                }
            }
            return isWhole(text) ? NONE : text.length();
        }

        static boolean canBegin(String text, boolean goesOn) {
            String[] clauses = text.split(";", -1);
            String kinds = "";
            for (int k = 0; k < clauses.length; k++) {
                boolean last = k == clauses.length - 1;
                if (last && clauses[k].trim().isEmpty() && clauses[k].matches(" *")) {
                    continue;
                }
                Matcher m = (last ? OPEN : CLAUSE).matcher(clauses[k]);
                if (!m.matches()) {
                    return false;
                }
                kinds += m.group(1);
                if (!lettersHold(m, last)) {
                    return false;
                }
                if (!numbersHold(m.group(1), m.group(2), last && goesOn && m.end(2) == clauses[k].length())) {
                    return false;
                }
            }
            return kinds.replaceAll("[^s]", "").length() <= 1 && kinds.replaceAll("[^p]", "").length() <= 6
                && kinds.replaceAll("[^l]", "").length() <= 8;
        }

        static boolean lettersHold(Matcher m, boolean last) {
            String letters = m.group(2).replaceAll("[^a-z]", "") + (last && m.group(3) != null ? m.group(3) : "");
            String may = m.group(1).equals("s") ? "hk" : m.group(1).equals("p") ? "sbt" : "ruf";
            for (char letter : letters.toCharArray()) {
                if (may.indexOf(letter) < 0 || letters.indexOf(letter) != letters.lastIndexOf(letter)) {
                    return false;
                }
            }
            return true;
        }

        static boolean numbersHold(String kind, String items, boolean goesOn) {
            Matcher m = ITEM.matcher(items);
            while (m.find()) {
                String digits = m.group(2);
                int highest = m.group(1).equals("k") ? 99 : kind.equals("l") && !m.group(1).equals("f") ? 5 : 9;
                if (digits.length() > 2) {
                    return false;
                }
                boolean open = goesOn && m.end() == items.length();
                if (!open && Integer.parseInt(digits) > highest) {
                    return false;
                }
            }
            return true;
        }

        static boolean isWhole(String text) {
            TreeSet<Integer> pairs = new TreeSet<>();
            int persons = 0;
            int highest = 0;
            for (String clause : text.split(";", -1)) {
                if (!CLAUSE.matcher(clause).matches()) {
                    return false;
                }
                clause = clause.replace(" ", "");
                persons += clause.charAt(0) == 'p' ? 1 : 0;
                if (clause.charAt(0) == 'l') {
                    int one = item(clause, 'r', 0);
                    int other = item(clause, 'u', 1);
                    highest = Math.max(highest, Math.max(one, other));
                    if (one == other || !pairs.add(one * 6 + other)) {
                        return false;
                    }
                }
            }
            return persons >= 2 && highest < persons;
        }

        /** All ways to read at once; the furthest byte at which a sign was wanted and another one stood. */
        static int lawFault(String text) {
            return new Ways(text).fault();
        }

        static int worth(String law, int[] letters) {
            for (String clause : law.split(";")) {
                String rest = clause.substring(2);
                int mark = rest.indexOf('?');
                if (mark < 0 || holds(rest.substring(0, mark), letters)) {
                    return sum(rest.substring(mark + 1), letters);
                }
            }
            return 0;
        }

        /** Where the last of these signs stands outside of all brackets. */
        static int lastOutside(String text, String signs) {
            int depth = 0;
            for (int k = text.length() - 1; k >= 0; k--) {
                char sign = text.charAt(k);
                depth += sign == ')' || sign == ']' ? 1 : sign == '(' || sign == '[' ? -1 : 0;
                if (depth == 0 && signs.indexOf(sign) >= 0) {
                    return k;
                }
            }
            return NONE;
        }

        static boolean holds(String text, int[] letters) {
            int cut = lastOutside(text, "|");
            if (cut >= 0) {
                return holds(text.substring(0, cut), letters) || holds(text.substring(cut + 1), letters);
            }
            cut = lastOutside(text, "&");
            if (cut >= 0) {
                return holds(text.substring(0, cut), letters) && holds(text.substring(cut + 1), letters);
            }
            if (text.startsWith("!")) {
                return !holds(text.substring(1), letters);
            }
            if (text.startsWith("(")) {
                return holds(text.substring(1, text.length() - 1), letters);
            }
            cut = lastOutside(text, "=<>");
            int left = sum(text.substring(0, cut), letters);
            int right = sum(text.substring(cut + 1), letters);
            char sign = text.charAt(cut);
            return sign == '=' ? left == right : sign == '<' ? left < right : left > right;
        }

        static int sum(String text, int[] letters) {
            int cut = lastOutside(text, "+-");
            if (cut < 0) {
                cut = lastOutside(text, "*/");
            }
            if (cut >= 0) {
                long left = sum(text.substring(0, cut), letters);
                long right = sum(text.substring(cut + 1), letters);
                char sign = text.charAt(cut);
                long v = sign == '+' ? left + right : sign == '-' ? left - right : sign == '*' ? left * right
                    : right == 0 ? 0 : left / right;
                return (int) (v > 1000000 ? 1000000 : v < -1000000 ? -1000000 : v);
            }
            if (text.startsWith("[")) {
                return sum(text.substring(1, text.length() - 1), letters);
            }
            int letter = "sbftgw".indexOf(text.charAt(0));
            return letter >= 0 ? letters[letter] : Integer.parseInt(text);
        }
    }

    /** A law's grammar read in all ways at once: from a set of places to the set of places behind. */
    private static final class Ways {
        final String text;
        int furthest = 0;

        Ways(String text) {
            this.text = text;
        }

        int fault() {
            TreeSet<Integer> places = set(0);
            TreeSet<Integer> ends = new TreeSet<>();
            while (!places.isEmpty()) {
                TreeSet<Integer> behind = clause(places);
                for (int place : behind) {
                    if (skip(place) == text.length()) {
                        return NONE;
                    }
                }
                ends.addAll(behind);
                places = sign(behind, ";");
            }
            return furthest;
        }

        static TreeSet<Integer> set(int place) {
            TreeSet<Integer> set = new TreeSet<>();
            set.add(place);
            return set;
        }

        int skip(int place) {
            while (place < text.length() && text.charAt(place) == ' ') {
                place++;
            }
            return place;
        }

        TreeSet<Integer> sign(TreeSet<Integer> from, String signs) {
            TreeSet<Integer> to = new TreeSet<>();
            for (int place : from) {
                int at = skip(place);
                furthest = Math.max(furthest, at);
                if (at < text.length() && signs.indexOf(text.charAt(at)) >= 0) {
                    to.add(at + 1);
                }
            }
            return to;
        }

        TreeSet<Integer> clause(TreeSet<Integer> from) {
            TreeSet<Integer> begun = sign(sign(from, "y"), ":");
            TreeSet<Integer> to = sum(begun, 0);
            to.addAll(sum(sign(condition(begun, 0), "?"), 0));
            return to;
        }

        TreeSet<Integer> condition(TreeSet<Integer> from, int depth) {
            TreeSet<Integer> to = new TreeSet<>();
            for (TreeSet<Integer> k = from.isEmpty() ? from : truth(from, depth); !k.isEmpty();) {
                to.addAll(k);
                k = sign(k, "|");
                k = k.isEmpty() ? k : truth(k, depth);
            }
            return to;
        }

        TreeSet<Integer> truth(TreeSet<Integer> from, int depth) {
            TreeSet<Integer> to = new TreeSet<>();
            for (TreeSet<Integer> k = from.isEmpty() ? from : unit(from, depth); !k.isEmpty();) {
                to.addAll(k);
                k = sign(k, "&");
                k = k.isEmpty() ? k : unit(k, depth);
            }
            return to;
        }

        TreeSet<Integer> unit(TreeSet<Integer> from, int depth) {
            TreeSet<Integer> to = new TreeSet<>();
            if (from.isEmpty()) {
                return to;
            }
            if (depth < 6) {
                to.addAll(unit(sign(from, "!"), depth + 1));
                to.addAll(sign(condition(sign(from, "("), depth + 1), ")"));
            }
            to.addAll(sum(sign(sum(from, depth), "=<>"), depth));
            return to;
        }

        TreeSet<Integer> sum(TreeSet<Integer> from, int depth) {
            TreeSet<Integer> to = new TreeSet<>();
            for (TreeSet<Integer> k = from.isEmpty() ? from : term(from, depth); !k.isEmpty();) {
                to.addAll(k);
                k = sign(k, "+-");
                k = k.isEmpty() ? k : term(k, depth);
            }
            return to;
        }

        TreeSet<Integer> term(TreeSet<Integer> from, int depth) {
            TreeSet<Integer> to = new TreeSet<>();
            for (TreeSet<Integer> k = from.isEmpty() ? from : atom(from, depth); !k.isEmpty();) {
                to.addAll(k);
                k = sign(k, "*/");
                k = k.isEmpty() ? k : atom(k, depth);
            }
            return to;
        }

        TreeSet<Integer> atom(TreeSet<Integer> from, int depth) {
            TreeSet<Integer> to = new TreeSet<>();
            if (from.isEmpty()) {
                return to;
            }
            to.addAll(sign(from, "sbftgw"));
            if (depth < 6) {
                to.addAll(sign(sum(sign(from, "["), depth + 1), "]"));
            }
            TreeSet<Integer> digits = sign(from, "0123456789");
            for (int many = 1; many <= 4 && !digits.isEmpty(); many++) {
                to.addAll(digits);
                TreeSet<Integer> next = new TreeSet<>();
                for (int at : digits) {
                    if (at < text.length() && Character.isDigit(text.charAt(at))) {
                        next.add(at + 1);
                    }
                }
                digits = next;
            }
            return to;
        }
    }
}
