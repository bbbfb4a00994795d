import java.math.BigInteger;
import java.nio.charset.StandardCharsets;
import java.util.ArrayList;
import java.util.Arrays;
import java.util.HashMap;
import java.util.HashSet;
import java.util.List;
import java.util.Map;
import java.util.NoSuchElementException;
import java.util.Random;
import java.util.Set;
import java.util.regex.Matcher;
import java.util.regex.Pattern;

/** Runs of calls by fixed seeds, beside a second program written straight from the document's words. */
public final class ModelTests {
    private static final int RUNS = 3000;
    private static final int CALLS = 230;
    private static final int NO = Integer.MIN_VALUE;
    private static int wrong = 0;
    private static final Map<String, Integer> seen = new HashMap<>();

    public static void main(String[] args) {
        for (int seed = 1; seed <= RUNS && wrong < 20; seed++) {
            new Run(seed).go();
        }
        for (String need : List.of("fault0", "fault1", "fault2", "fault3", "fall", "lot", "chose", "house", "never",
                "span", "taken", "draws", "law", "poles", "worse", "struck", "moved", "works")) {
            if (seen.getOrDefault(need, 0) < 50) {
                wrong++;
                System.out.println("too seldom in these runs: " + need + " " + seen.getOrDefault(need, 0));
            }
        }
        System.out.println(wrong == 0 ? "the model's answers all" : wrong + " answers are not the model's");
        if (wrong != 0) {
            System.exit(1);
        }
    }

    private static void saw(String what, boolean so) {
        if (so) {
            seen.merge(what, 1, Integer::sum);
        }
    }

    /** One object with its model. */
    private static final class Run {
        final Random r;
        final int seed;
        final WorstPlaces x = new WorstPlaces();
        final Model m = new Model();
        final Texts texts;
        int calls = 0;

        Run(int seed) {
            this.seed = seed;
            r = new Random(seed);
            texts = new Texts(r);
        }

        void due(String call, long got, long want) {
            calls++;
            if (got != want) {
                wrong++;
                System.out.println("seed " + seed + ", call " + calls + ": " + call + " answered " + got + ", due is " + want);
            }
        }

        int near(int low, int high) {
            int p = r.nextInt(40);
            if (p == 0) {
                return low - 1;
            }
            if (p == 1) {
                return high + 1;
            }
            if (p == 2) {
                return r.nextBoolean() ? Integer.MIN_VALUE : Integer.MAX_VALUE;
            }
            return high < low ? low : low + r.nextInt(high - low + 1);
        }

        void tell(String text) {
            byte[] bytes = text.getBytes(StandardCharsets.ISO_8859_1);
            for (int i = 0; i < bytes.length; i += 20) {
                int[] w = new int[5];
                for (int k = 0; k < 20; k++) {
                    int b = i + k < bytes.length ? bytes[i + k] & 255 : r.nextInt(256);
                    w[k / 4] = w[k / 4] << 8 | b;
                }
                due("feed", x.feed(w[0], w[1], w[2], w[3], w[4]), m.feed(w));
            }
            if (r.nextInt(10) == 0) {
                int n = near(-1, 601);
                if (n < 0 || n > m.tape.length()) {
                    due("text(" + n + ")", x.text(n), m.text(n));
                }
            }
            due("text " + text.replace('\n', ' '), x.text(bytes.length), m.text(bytes.length));
            due("fault(0) " + text.replace('\n', ' '), x.fault(0), m.fault);
            due("fault(1) " + text.replace('\n', ' '), x.fault(1), m.faultPlace);
            saw("fault" + m.fault, true);
        }

        void go() {
            for (int i = r.nextInt(3); i > 0; i--) {
                tell(texts.broken());
            }
            tell(texts.fine());
            fillNotes();
            while (calls < CALLS) {
                call(r.nextInt(26));
            }
        }

        void fillNotes() {
            int most = r.nextInt(4);
            for (int place = 0; place < m.places.size(); place++) {
                for (int year = 0; year < 9; year++) {
                    if (r.nextInt(12) >= most && m.notes.size() < 120) {
                        int c = someCount();
                        due("note", x.note(place, year, c), m.note(place, year, c));
                    }
                }
            }
        }

        int someCount() {
            if (m.kinds.isEmpty() || r.nextInt(6) == 0) {
                return r.nextInt(10);
            }
            return m.kinds.get(r.nextInt(m.kinds.size())).faces[r.nextInt(10)];
        }

        int place() {
            return near(0, m.places.size() - 1);
        }

        void call(int which) {
            int p = place();
            int a = near(0, 8);
            int b = r.nextInt(3) == 0 ? near(0, 8) : Math.min(8, a + r.nextInt(6));
            int w = near(0, 1);
            switch (which) {
                case 0: {
                    int c = near(0, 9);
                    due("note(" + p + "," + a + "," + c + ")", x.note(p, a, c), m.note(p, a, c));
                    break;
                }
                case 1: {
                    int n = near(0, m.notes.size() - 1);
                    due("strike(" + n + ")", x.strike(n), m.strike(n));
                    saw("struck", true);
                    break;
                }
                case 2: {
                    int n = r.nextInt(3) > 0 ? -1 : near(-1, m.notes.size());
                    due("known(" + n + ")", x.known(n) ? 1 : 0, m.known(n) ? 1 : 0);
                    break;
                }
                case 3: due("count(" + p + "," + a + ")", x.count(p, a), m.count(p, a)); break;
                case 4: {
                    int k = near(0, m.kinds.size() - 1);
                    due("likely(" + k + "," + p + "," + a + "," + b + ")", x.likely(k, p, a, b), m.likely(k, p, a, b));
                    break;
                }
                case 5: due("rate(" + p + "," + a + "," + b + "," + w + ")", x.rate(p, a, b, w), m.rate(p, a, b, w)); break;
                case 6: {
                    long want = m.span(p, a, b, w);
                    saw("span", want > 0);
                    due("span(" + p + "," + a + "," + b + "," + w + ")", x.span(p, a, b, w), want);
                    break;
                }
                case 7: {
                    int q = place();
                    long want = m.worse(p, q, a, b, w);
                    saw("worse", want > 1);
                    due("worse(" + p + "," + q + "," + a + "," + b + "," + w + ")", x.worse(p, q, a, b, w), want);
                    break;
                }
                case 8: {
                    int y = near(3, 9);
                    long want = m.taken(y);
                    saw("taken", want > 0);
                    due("taken(" + y + ")", x.taken(y), want);
                    break;
                }
                case 9: {
                    int c = near(0, 9);
                    int what = near(0, 4);
                    long want = m.law(c, what);
                    saw("law", what != 1 && want > 0);
                    due("law(" + c + "," + what + ")", x.law(c, what), want);
                    break;
                }
                case 10: case 11: case 12: {
                    int what = near(0, 8);
                    int want = m.fall(p, what);
                    saw("fall", want != NO);
                    saw("moved", what == 6 && want > 0);
                    saw("works", what == 4 && want > 0);
                    due("fall(" + p + "," + what + ")", x.fall(p, what), want);
                    break;
                }
                case 13: case 14: {
                    int c = m.places.isEmpty() ? near(0, 9) : m.places.get(r.nextInt(m.places.size())).county;
                    int y = near(3, 6);
                    int what = near(0, 3);
                    int want = m.lot(c, y, what);
                    saw("lot", what == 0 && want != NO && want != 0);
                    due("lot(" + c + "," + y + "," + what + ")", x.lot(c, y, what), want);
                    break;
                }
                case 15: {
                    int y = near(3, 6);
                    int want = m.chose(y, w);
                    saw("chose", w == 0 && want != NO && want != 0);
                    due("chose(" + y + "," + w + ")", x.chose(y, w), want);
                    break;
                }
                case 16: {
                    int what = near(0, 4);
                    int want = m.house(p, what);
                    saw("house", want != NO);
                    due("house(" + p + "," + what + ")", x.house(p, what), want);
                    break;
                }
                case 17: {
                    int c = r.nextInt(3) == 0 ? near(0, 3) : near(0, 99);
                    due("coin(" + p + "," + c + ")", x.coin(p, c) ? 1 : 0, m.coin(p, c) ? 1 : 0);
                    break;
                }
                case 18: case 19: {
                    int k = near(0, m.places.size());
                    int what = near(0, 2);
                    int want = m.poles(k, w, what);
                    saw("poles", want > 0);
                    due("poles(" + k + "," + w + "," + what + ")", x.poles(k, w, what), want);
                    break;
                }
                case 20: {
                    int want = m.never();
                    saw("never", want > 0);
                    due("never()", x.never(), want);
                    break;
                }
                case 21: {
                    int s = r.nextInt(20) == 0 ? -1 - r.nextInt(9) : r.nextInt() & Integer.MAX_VALUE;
                    int n = r.nextBoolean() ? near(1, 20) : near(1, 500);
                    int want = m.draws(s, n, w);
                    saw("draws", want > 0);
                    due("draws(" + s + "," + n + "," + w + ")", x.draws(s, n, w), want);
                    break;
                }
                case 22: {
                    int what = near(0, 6);
                    due("number(" + what + ")", x.number(what), m.number(what));
                    break;
                }
                case 23: {
                    String name = r.nextInt(3) == 0 || m.places.isEmpty() ? texts.name() : m.places.get(r.nextInt(m.places.size())).name;
                    int letters = Model.pack(name) | (r.nextInt(20) == 0 ? 1 << 30 : 0);
                    due("named(" + w + "," + name + ")", x.named(w, letters), m.named(w, letters));
                    break;
                }
                case 24: {
                    int what = near(0, 5);
                    due("look(" + p + "," + what + ")", looked(p, what), m.look(p, what));
                    break;
                }
                default: {
                    if (r.nextInt(8) == 0) {
                        tell(r.nextBoolean() ? texts.broken() : texts.fine());
                        fillNotes();
                    } else {
                        int what = near(0, 1);
                        due("fault(" + what + ")", x.fault(what), what == 0 ? m.fault : what == 1 ? m.faultPlace : -1);
                    }
                }
            }
        }

        long looked(int p, int what) {
            try {
                return x.look(p, what);
            } catch (IndexOutOfBoundsException e) {
                return -1001;
            } catch (NoSuchElementException e) {
                return -1002;
            }
        }
    }

    /** Texts, fine ones and broken ones. */
    private static final class Texts {
        static final String[] WORDS = {"kind", "place", "lot", "box", "works", "take", "saves", "or", "and", "not",
            "one", "two", "three", "sum", "most", "least", "county"};
        final Random r;

        Texts(Random r) {
            this.r = r;
        }

        String blank() {
            int p = r.nextInt(12);
            return p == 0 ? "  " : p == 1 ? "\n" : " ";
        }

        String name() {
            StringBuilder b = new StringBuilder();
            for (int i = r.nextInt(r.nextInt(8) == 0 ? 6 : 2); i >= 0; i--) {
                b.append((char) ('a' + r.nextInt(r.nextBoolean() ? 26 : 3)));
            }
            return b.toString();
        }

        String freshName(Set<String> used) {
            for (;;) {
                String n = name();
                if (!Arrays.asList(WORDS).contains(n) && used.add(n)) {
                    return n;
                }
            }
        }

        String fine() {
            for (;;) {
                String t = tryFine();
                if (t.length() <= 600) {
                    return t;
                }
            }
        }

        String tryFine() {
            List<String> lines = new ArrayList<>();
            Set<String> kinds = new HashSet<>();
            Set<String> places = new HashSet<>();
            for (int i = r.nextInt(8) == 0 ? 0 : 1 + r.nextInt(5); i > 0; i--) {
                lines.add(kind(freshName(kinds)));
            }
            for (int i = r.nextInt(10) == 0 ? r.nextInt(13) : 3 + r.nextInt(8); i > 0; i--) {
                lines.add(place(freshName(places)));
            }
            if (r.nextInt(8) > 0) {
                lines.add(r.nextInt(lines.size() + 1), "take " + rule());
            }
            if (r.nextInt(3) > 0) {
                lines.add(r.nextInt(lines.size() + 1), "saves" + blank() + r.nextInt(10) + blank() + r.nextInt(10));
            }
            StringBuilder b = new StringBuilder();
            for (String l : lines) {
                b.append(l).append(r.nextInt(6) == 0 ? " " : "").append(";").append(r.nextInt(6) == 0 ? blank() : "");
            }
            return b.toString();
        }

        String kind(String name) {
            StringBuilder b = new StringBuilder("kind " + name + blank() + (1 + r.nextInt(r.nextBoolean() ? 99 : 4)));
            int base = r.nextInt(6);
            int wide = 1 + r.nextInt(10 - base);
            for (int i = 0; i < 10; i++) {
                b.append(blank()).append(base + r.nextInt(wide));
            }
            return b.toString();
        }

        String place(String name) {
            StringBuilder b = new StringBuilder("place " + name + blank() + r.nextInt(r.nextInt(4) == 0 ? 10 : 2));
            List<String> more = new ArrayList<>();
            if (r.nextBoolean()) {
                more.add("lot");
            }
            if (r.nextInt(5) > 1) {
                more.add("box " + (r.nextInt(3) == 0 ? 1 + r.nextInt(8) : 3 + r.nextInt(2)));
            }
            if (r.nextInt(3) == 0) {
                more.add("works " + r.nextInt(9) + blank() + r.nextInt(10));
            }
            while (!more.isEmpty()) {
                b.append(' ').append(more.remove(r.nextInt(more.size())));
            }
            return b.toString();
        }

        String rule() {
            if (r.nextBoolean()) {
                String[] plain = {"sum>=6", "most > 3 and least > 0", "one+two+three>=8 or county=1", "not sum<9",
                    "sum > 3 * county + 2", "two > one or three > two", "(most - least) * 3 >= sum", "100 / one > 30"};
                return plain[r.nextInt(plain.length)];
            }
            return or(3);
        }

        String or(int d) {
            return r.nextInt(4) == 0 ? and(d) + " or " + and(d) : and(d);
        }

        String and(int d) {
            return r.nextInt(4) == 0 ? not(d) + " and " + not(d) : not(d);
        }

        String not(int d) {
            return r.nextInt(6) == 0 ? "not " + not(d) : compare(d);
        }

        String compare(int d) {
            String[] s = {"<", "<=", "=", "<>", ">=", ">"};
            String gap = r.nextBoolean() ? "" : blank();
            return r.nextInt(3) > 0 ? sum(d) + gap + s[r.nextInt(6)] + gap + sum(d) : sum(d);
        }

        String sum(int d) {
            String s = term(d);
            for (int i = r.nextInt(3) == 0 ? r.nextInt(3) : 0; i > 0; i--) {
                s += (r.nextBoolean() ? "+" : "-") + term(d);
            }
            return s;
        }

        String term(int d) {
            String s = primary(d);
            for (int i = r.nextInt(3) == 0 ? r.nextInt(5) : 0; i > 0; i--) {
                s += (r.nextInt(3) > 0 ? "*" : "/") + primary(d);
            }
            return s;
        }

        String primary(int d) {
            if (d > 0 && r.nextInt(5) == 0) {
                return "(" + or(d - 1) + ")";
            }
            return r.nextBoolean() ? WORDS[10 + r.nextInt(7)] : "" + (r.nextInt(3) == 0 ? 900 + r.nextInt(100) : r.nextInt(20));
        }

        String broken() {
            String t = fine();
            if (r.nextInt(3) == 0) {
                t = extreme();
            }
            if (r.nextInt(3) == 0) {
                t = t.substring(0, Math.min(t.length(), 40));
            }
            if (r.nextInt(3) == 0) {
                return toldAgain(t);
            }
            for (int i = 1 + r.nextInt(2); i > 0; i--) {
                int at = r.nextInt(t.length() + 1);
                int to = Math.min(t.length(), at + r.nextInt(3));
                t = t.substring(0, at) + scrap() + t.substring(to);
            }
            return t.length() > 600 ? t.substring(0, 600) : t;
        }

        /** A line, or a part of one, once more. */
        String toldAgain(String t) {
            String[] lines = t.split(";");
            int which = r.nextInt(lines.length);
            String again = lines[which];
            if (r.nextBoolean()) {
                Matcher part = Pattern.compile("lot|box [0-9]|works [0-9] [0-9]").matcher(again);
                lines[which] += part.find() ? " " + part.group() : ";" + again;
            } else {
                lines[which] += ";" + again;
            }
            String all = String.join(";", lines) + ";";
            return all.length() > 600 ? all.substring(0, 600) : all;
        }

        String scrap() {
            switch (r.nextInt(8)) {
                case 0: return "";
                case 1: return "" + (char) r.nextInt(256);
                case 2: return " " + WORDS[r.nextInt(WORDS.length)] + " ";
                case 3: return " " + r.nextInt(1200) + " ";
                case 4: return "" + ";()<=>+-*/".charAt(r.nextInt(10));
                case 5: return " " + (r.nextBoolean() ? "999999999999999999999999" : "00000000000000000001") + " ";
                case 6: return " abcdefgh".substring(0, 2 + r.nextInt(8)) + " ";
                default: return ";";
            }
        }

        String extreme() {
            StringBuilder b = new StringBuilder();
            switch (r.nextInt(4)) {
                case 0:
                    for (int i = 0; i < 6; i++) {
                        b.append(kind("" + (char) ('a' + i)).replace('\n', ' ')).append(';');
                    }
                    return b.toString();
                case 1:
                    for (int i = 0; i < 13; i++) {
                        b.append("place ").append((char) ('a' + i)).append(" 1;");
                    }
                    return b.toString();
                case 2: {
                    int deep = 7 + r.nextInt(4);
                    return "take " + "(".repeat(deep) + "one" + ")".repeat(deep) + ";";
                }
                default: {
                    int many = 30 + r.nextInt(5);
                    b.append("take ").append("not ".repeat(r.nextInt(3))).append("1");
                    for (int i = 0; i < many; i++) {
                        b.append(r.nextBoolean() ? "+1" : " and not two");
                    }
                    return b.append(";").toString();
                }
            }
        }
    }

    private static final class Stop extends RuntimeException {
        final int fault;
        final int place;

        Stop(int fault, int place) {
            this.fault = fault;
            this.place = place;
        }
    }

    private static final class Bad extends RuntimeException {
    }

    private static final class Kind {
        String name;
        int weight;
        final int[] faces = new int[10];

        int mean() {
            return Arrays.stream(faces).sum();
        }
    }

    private static final class Place {
        String name;
        int county;
        int lot;
        int box;
        int year = -1;
        int share;
        int coin;
        boolean works;
    }

    private interface Node {
        BigInteger value(int[] c, int county);
    }

    private record Token(String text, int place) {
    }

    private record Note(int place, int year, int count, int struck) {
    }

    /** The document's words, one by one, without a thought of speed. */
    private static final class Model {
        static final BigInteger MOST = BigInteger.TEN.pow(12);
        StringBuilder tape = new StringBuilder();
        List<Kind> kinds = new ArrayList<>();
        List<Place> places = new ArrayList<>();
        List<Note> notes = new ArrayList<>();
        Node rule = null;
        int knots = 0;
        int s = 5;
        int m = 0;
        int by = -1;
        int fault = 0;
        int faultPlace = -1;

        static int pack(String name) {
            int v = 0;
            for (int i = 0; i < 6; i++) {
                v = v * 32 + (i < name.length() ? name.charAt(i) - 'a' + 1 : 0);
            }
            return v;
        }

        int feed(int[] w) {
            if (tape.length() > 580) {
                return -1;
            }
            for (int v : w) {
                tape.append((char) (v >>> 24)).append((char) (v >>> 16 & 255)).append((char) (v >>> 8 & 255)).append((char) (v & 255));
            }
            return tape.length();
        }

        int text(int n) {
            if (n < 0 || n > tape.length()) {
                return -2;
            }
            String t = tape.substring(0, n);
            tape = new StringBuilder();
            Parser p = new Parser(t);
            try {
                int lines = p.all();
                kinds = p.kinds;
                places = p.places;
                rule = p.rule;
                knots = p.knots;
                s = p.s;
                m = p.m;
                notes = new ArrayList<>();
                by = -1;
                fault = 0;
                faultPlace = -1;
                return lines;
            } catch (Stop e) {
                fault = e.fault;
                faultPlace = e.place;
                return -1;
            }
        }

        int named(int what, int letters) {
            if (what == 0) {
                for (int i = 0; i < kinds.size(); i++) {
                    if (pack(kinds.get(i).name) == letters) {
                        return i;
                    }
                }
            }
            if (what == 1) {
                for (int i = 0; i < places.size(); i++) {
                    if (pack(places.get(i).name) == letters) {
                        return i;
                    }
                }
            }
            return -1;
        }

        boolean no(int place) {
            return place < 0 || place >= places.size();
        }

        boolean noYears(int a, int b) {
            return a < 0 || b > 8 || a > b || b - a + 1 > 6;
        }

        long look(int p, int what) {
            if (no(p)) {
                return -1001;
            }
            Place q = places.get(p);
            int[] all = {q.county, q.lot, q.box, q.year, q.share, q.coin};
            return what < 0 || what > 5 ? -1002 : all[what];
        }

        int note(int p, int y, int c) {
            if (no(p) || y < 0 || y > 8 || c < 0 || c > 9 || notes.size() == 150) {
                return -1;
            }
            notes.add(new Note(p, y, c, -1));
            return notes.size() - 1;
        }

        int strike(int n) {
            if (n < 0 || n >= notes.size() || notes.size() == 150) {
                return -1;
            }
            notes.add(new Note(-1, -1, -1, n));
            return notes.size() - 1;
        }

        boolean known(int n) {
            if (n < -1 || n > notes.size()) {
                return false;
            }
            by = n;
            return true;
        }

        int howMany() {
            return by < 0 ? notes.size() : by;
        }

        boolean stands(int note) {
            for (int i = note + 1; i < howMany(); i++) {
                if (notes.get(i).struck == note && stands(i)) {
                    return false;
                }
            }
            return true;
        }

        int count(int p, int y) {
            int found = -1;
            for (int i = 0; i < howMany(); i++) {
                Note n = notes.get(i);
                if (n.struck < 0 && n.place == p && n.year == y && stands(i)) {
                    found = n.count;
                }
            }
            return no(p) ? -1 : found;
        }

        long like(int k, int p, int a, int b) {
            long v = kinds.get(k).weight;
            for (int y = a; y <= b; y++) {
                int c = count(p, y);
                if (c >= 0) {
                    v *= Arrays.stream(kinds.get(k).faces).filter(f -> f == c).count();
                }
            }
            return v;
        }

        long likely(int k, int p, int a, int b) {
            return k < 0 || k >= kinds.size() || no(p) || noYears(a, b) ? -1 : like(k, p, a, b);
        }

        BigInteger[] least(BigInteger over, BigInteger under) {
            if (under.signum() == 0) {
                return new BigInteger[] {BigInteger.ZERO, BigInteger.ZERO};
            }
            BigInteger g = over.gcd(under);
            return new BigInteger[] {over.divide(g), under.divide(g)};
        }

        BigInteger big(long v) {
            return BigInteger.valueOf(v);
        }

        BigInteger[] rateOf(int p, int a, int b) {
            BigInteger over = BigInteger.ZERO;
            BigInteger all = BigInteger.ZERO;
            for (int k = 0; k < kinds.size(); k++) {
                over = over.add(big(like(k, p, a, b)).multiply(big(kinds.get(k).mean())));
                all = all.add(big(like(k, p, a, b)));
            }
            return least(over, all.multiply(BigInteger.TEN));
        }

        long rate(int p, int a, int b, int w) {
            return no(p) || noYears(a, b) || w < 0 || w > 1 ? -1 : rateOf(p, a, b)[w].longValueExact();
        }

        long span(int p, int a, int b, int w) {
            if (no(p) || noYears(a, b) || w < 0 || w > 1) {
                return -1;
            }
            List<Integer> order = new ArrayList<>();
            long all = 0;
            for (int k = 0; k < kinds.size(); k++) {
                order.add(k);
                all += like(k, p, a, b);
            }
            if (all == 0) {
                return -2;
            }
            order.sort((i, k) -> like(i, p, a, b) != like(k, p, a, b) ? Long.compare(like(k, p, a, b), like(i, p, a, b)) : i - k);
            long got = 0;
            int low = 1000;
            int high = -1;
            for (int k : order) {
                if (got * 20 >= all * 19) {
                    break;
                }
                got += like(k, p, a, b);
                low = Math.min(low, kinds.get(k).mean());
                high = Math.max(high, kinds.get(k).mean());
            }
            return w == 0 ? low : high;
        }

        long worse(int p, int q, int a, int b, int w) {
            if (no(p) || no(q) || p == q || noYears(a, b) || w < 0 || w > 1) {
                return -1;
            }
            BigInteger over = BigInteger.ZERO;
            BigInteger all = BigInteger.ZERO;
            for (int i = 0; i < kinds.size(); i++) {
                for (int k = 0; k < kinds.size(); k++) {
                    BigInteger v = big(like(i, p, a, b)).multiply(big(like(k, q, a, b)));
                    all = all.add(v);
                    over = kinds.get(i).mean() > kinds.get(k).mean() ? over.add(v) : over;
                }
            }
            return least(over, all)[w].longValueExact();
        }

        boolean takes(int[] c, int county) {
            if (rule == null) {
                return false;
            }
            try {
                return rule.value(c, county).signum() != 0;
            } catch (Bad e) {
                return false;
            }
        }

        int taken(int y) {
            if (y < 3 || y > 9) {
                return -1;
            }
            int bits = 0;
            for (int p = 0; p < places.size(); p++) {
                int[] c = {count(p, y - 3), count(p, y - 2), count(p, y - 1)};
                if (c[0] >= 0 && c[1] >= 0 && c[2] >= 0 && takes(c, places.get(p).county)) {
                    bits += 1 << p;
                }
            }
            return bits;
        }

        long law(int county, int what) {
            if (county < 0 || county > 9 || what < 0 || what > 4) {
                return -1;
            }
            long takes = 0;
            long all = 0;
            long had = 0;
            long has = 0;
            for (Kind k : kinds) {
                all += 1000L * k.weight;
                for (int f = 0; f < 10 && what != 1; f++) {
                    for (int g = 0; g < 10; g++) {
                        for (int h = 0; h < 10; h++) {
                            int[] c = {k.faces[f], k.faces[g], k.faces[h]};
                            if (takes(c, county)) {
                                takes += k.weight;
                                had += (long) k.weight * (c[0] + c[1] + c[2]);
                                has += (long) k.weight * 3 * k.mean();
                            }
                        }
                    }
                }
            }
            long[] answers = {takes, all, had, has, had == 0 ? 0 : 100 * (10 * had - has) / (10 * had)};
            return answers[what];
        }

        int three(int p, int from) {
            int sum = 0;
            for (int y = from; y < from + 3; y++) {
                if (count(p, y) < 0) {
                    return -1;
                }
                sum += count(p, y);
            }
            return sum;
        }

        boolean six(int p, int b) {
            return three(p, b - 3) >= 0 && three(p, b) >= 0;
        }

        int fallOf(int p, int b) {
            return three(p, b - 3) - three(p, b);
        }

        boolean without(int p, int year) {
            return places.get(p).box == 0 || places.get(p).box > year;
        }

        int fall(int p, int what) {
            if (no(p) || what < 0 || what > 8) {
                return NO;
            }
            Place q = places.get(p);
            int b = q.box;
            if (b < 3 || b > 6 || !six(p, b)) {
                return NO;
            }
            int before = three(p, b - 3);
            int after = three(p, b);
            BigInteger[] rate = rateOf(p, b - 3, b - 1);
            int back = rate[1].signum() == 0 ? 1000 * before : rate[0].multiply(big(3000)).divide(rate[1]).intValueExact();
            int luck = 1000 * before - back;
            int allBefore = 0;
            int allAfter = 0;
            for (int i = 0; i < places.size(); i++) {
                if (places.get(i).box == 0 && six(i, b)) {
                    allBefore += three(i, b - 3);
                    allAfter += three(i, b);
                }
            }
            int land = allBefore == 0 ? 0 : back - back * allAfter / allBefore;
            int works = q.works && q.year >= b && q.year <= b + 2 ? (back - land) * q.share / 10 : 0;
            int box = 1000 * (before - after) - luck - land - works;
            int moved = 0;
            if (p + 1 < places.size() && without(p + 1, b + 2) && six(p + 1, b)) {
                int was = 1000 * three(p + 1, b - 3);
                int part = allBefore == 0 ? 0 : was - was * allAfter / allBefore;
                moved = Math.max(0, 1000 * three(p + 1, b) - (was - part));
            }
            int[] all = {before, after, luck, land, works, box, moved, box - moved, back};
            return all[what];
        }

        int lot(int county, int b, int what) {
            if (county < 0 || county > 9 || b < 3 || b > 6 || what < 0 || what > 3) {
                return NO;
            }
            int n = 0;
            int o = 0;
            int fallen = 0;
            int other = 0;
            for (int p = 0; p < places.size(); p++) {
                Place q = places.get(p);
                if (q.lot == 0 || q.county != county || !six(p, b)) {
                    continue;
                }
                if (q.box == b) {
                    n++;
                    fallen += fallOf(p, b);
                }
                if (without(p, b + 2)) {
                    o++;
                    other += fallOf(p, b);
                }
            }
            if (what > 1) {
                return what == 2 ? n : o;
            }
            return least(big(fallen * o - other * n), big(n * o))[what].intValueExact();
        }

        int chose(int b, int what) {
            if (b < 3 || b > 6 || what < 0 || what > 1) {
                return NO;
            }
            int n = 0;
            int fallen = 0;
            for (int p = 0; p < places.size(); p++) {
                if (places.get(p).lot == 0 && places.get(p).box == b && six(p, b)) {
                    n++;
                    fallen += fallOf(p, b);
                }
            }
            return least(big(fallen), big(n))[what].intValueExact();
        }

        int sumOf(int p, int from, int length) {
            int sum = 0;
            for (int y = from; y < from + length; y++) {
                if (count(p, y) < 0) {
                    return -1;
                }
                sum += count(p, y);
            }
            return sum;
        }

        int house(int p, int what) {
            if (no(p) || what < 0 || what > 4 || places.get(p).box == 0) {
                return NO;
            }
            int b = places.get(p).box;
            List<int[]> all = new ArrayList<>();
            for (int length = 1; length <= 3; length++) {
                for (int first = 0; first + length - 1 < b; first++) {
                    for (int then = b; then + length - 1 <= 8; then++) {
                        int was = sumOf(p, first, length);
                        int is = sumOf(p, then, length);
                        if (was > 0 && is >= 0) {
                            all.add(new int[] {100 * (was - is) / was, length, first, then});
                        }
                    }
                }
            }
            if (all.isEmpty()) {
                return NO;
            }
            int low = all.stream().mapToInt(e -> e[0]).min().getAsInt();
            all.sort((i, k) -> i[0] != k[0] ? k[0] - i[0] : i[1] != k[1] ? i[1] - k[1] : i[2] != k[2] ? i[2] - k[2] : i[3] - k[3]);
            int[] top = all.get(0);
            int[] answers = {top[0], low, top[1], top[2], top[3]};
            return answers[what];
        }

        boolean coin(int p, int c) {
            if (no(p) || c < 0 || c > 99) {
                return false;
            }
            places.get(p).coin = c;
            return true;
        }

        int thousandths(int p) {
            int latest = -1;
            for (int i = 0; i < places.size(); i++) {
                for (int y = 0; y < 9; y++) {
                    latest = count(i, y) >= 0 ? Math.max(latest, y) : latest;
                }
            }
            if (latest < 0) {
                return 0;
            }
            BigInteger[] rate = rateOf(p, Math.max(0, latest - 5), latest);
            return rate[1].signum() == 0 ? 0 : rate[0].multiply(big(1000)).divide(rate[1]).intValueExact();
        }

        int poles(int k, int way, int what) {
            int n = places.size();
            if (k < 0 || k > n || way < 0 || way > 1 || what < 0 || what > 2) {
                return -1;
            }
            int[] rates = new int[n];
            for (int p = 0; p < n; p++) {
                rates[p] = thousandths(p);
            }
            int[] best = null;
            for (int bits = (1 << n) - 1; bits >= 0; bits--) {
                if (Integer.bitCount(bits) != k) {
                    continue;
                }
                int saved = 0;
                int coins = 0;
                for (int p = 0; p < n; p++) {
                    if ((bits & 1 << p) != 0) {
                        int v = rates[p] * s / 10;
                        boolean moves = p + 1 < n && (bits & 1 << p + 1) == 0;
                        saved += moves ? v - v * m / 10 : v;
                        coins += places.get(p).coin;
                    }
                }
                int[] now = {bits, saved, coins};
                if (best == null || now[1 + way] >= best[1 + way]) {
                    best = now;
                }
            }
            return best[what];
        }

        int never() {
            int bits = 0;
            for (int p = 0; p < places.size(); p++) {
                boolean is = places.get(p).box == 0;
                for (int y = 3; y <= 9; y++) {
                    is = is && (taken(y) & 1 << p) == 0;
                }
                boolean above = false;
                for (int q = 0; q < places.size() && is; q++) {
                    above = above || places.get(q).box > 0 && thousandths(p) > thousandths(q);
                }
                bits += is && above ? 1 << p : 0;
            }
            return bits;
        }

        BigInteger last;

        int next() {
            last = last.multiply(big(1103515245)).add(big(12345)).mod(BigInteger.TWO.pow(31));
            return last.divide(big(65536)).intValueExact();
        }

        int draws(int seed, int many, int what) {
            if (seed < 0 || many < 1 || many > 500 || what < 0 || what > 1 || kinds.isEmpty()) {
                return NO;
            }
            last = big(seed);
            int taken = 0;
            int more = 0;
            for (int i = 0; i < many; i++) {
                List<Kind> urn = new ArrayList<>();
                for (Kind k : kinds) {
                    for (int w = 0; w < k.weight; w++) {
                        urn.add(k);
                    }
                }
                Kind k = urn.get(next() % urn.size());
                int[] f = new int[6];
                for (int j = 0; j < 6; j++) {
                    f[j] = k.faces[next() % 10];
                }
                if (takes(Arrays.copyOf(f, 3), 0)) {
                    taken++;
                    more += f[0] + f[1] + f[2] - (f[3] + f[4] + f[5]);
                }
            }
            return what == 0 ? taken : more;
        }

        int number(int what) {
            int[] all = {kinds.size(), places.size(), notes.size(), howMany(), knots, s, m};
            return what < 0 || what > 6 ? -1 : all[what];
        }
    }

    /** The grammar, a method a rule. */
    private static final class Parser {
        static final Pattern TOKEN = Pattern.compile("[a-z]+|[0-9]+|<=|<>|>=|[ \\n]+|.", Pattern.DOTALL);
        final List<Token> tokens = new ArrayList<>();
        final List<Kind> kinds = new ArrayList<>();
        final List<Place> places = new ArrayList<>();
        Node rule = null;
        int knots = 0;
        int open = 0;
        int s = 5;
        int m = 0;
        boolean saves = false;
        int at = 0;

        Parser(String t) {
            Matcher found = TOKEN.matcher(t);
            while (found.find()) {
                if (!found.group().matches("[ \\n]+")) {
                    tokens.add(new Token(found.group(), found.start()));
                }
            }
            tokens.add(new Token("", t.length()));
        }

        Token now() {
            return tokens.get(at);
        }

        boolean is(String... texts) {
            return Arrays.asList(texts).contains(now().text);
        }

        Stop stop(int fault) {
            return new Stop(fault, now().place);
        }

        int all() {
            int lines = 0;
            while (at < tokens.size() - 1) {
                line();
                need(";");
                lines++;
            }
            return lines;
        }

        void need(String text) {
            if (!is(text)) {
                throw stop(1);
            }
            at++;
        }

        String name() {
            if (!now().text.matches("[a-z]{1,6}") || Arrays.asList(Texts.WORDS).contains(now().text)) {
                throw stop(1);
            }
            return now().text;
        }

        int digits(int low, int high) {
            if (!now().text.matches("[0-9]+")) {
                throw stop(1);
            }
            BigInteger v = new BigInteger(now().text);
            if (v.compareTo(BigInteger.valueOf(low)) < 0 || v.compareTo(BigInteger.valueOf(high)) > 0) {
                throw stop(2);
            }
            at++;
            return v.intValueExact();
        }

        void line() {
            if (is("kind")) {
                kind();
            } else if (is("place")) {
                place();
            } else if (is("take")) {
                if (rule != null) {
                    throw stop(3);
                }
                at++;
                rule = or();
            } else if (is("saves")) {
                if (saves) {
                    throw stop(3);
                }
                at++;
                saves = true;
                s = digits(0, 9);
                m = digits(0, 9);
            } else {
                throw stop(1);
            }
        }

        void kind() {
            if (kinds.size() == 5) {
                throw stop(2);
            }
            at++;
            Kind k = new Kind();
            k.name = name();
            if (kinds.stream().anyMatch(o -> o.name.equals(k.name))) {
                throw stop(3);
            }
            at++;
            k.weight = digits(1, 99);
            for (int i = 0; i < 10; i++) {
                k.faces[i] = digits(0, 9);
            }
            kinds.add(k);
        }

        void place() {
            if (places.size() == 12) {
                throw stop(2);
            }
            at++;
            Place p = new Place();
            p.name = name();
            if (places.stream().anyMatch(o -> o.name.equals(p.name))) {
                throw stop(3);
            }
            at++;
            p.county = digits(0, 9);
            Set<String> told = new HashSet<>();
            while (is("lot", "box", "works")) {
                String word = now().text;
                if (!told.add(word)) {
                    throw stop(3);
                }
                at++;
                if (word.equals("lot")) {
                    p.lot = 1;
                } else if (word.equals("box")) {
                    p.box = digits(1, 8);
                } else {
                    p.works = true;
                    p.year = digits(0, 8);
                    p.share = digits(0, 9);
                }
            }
            places.add(p);
        }

        String knot() {
            if (knots == 64) {
                throw stop(2);
            }
            knots++;
            at++;
            return tokens.get(at - 1).text;
        }

        static BigInteger bit(boolean b) {
            return b ? BigInteger.ONE : BigInteger.ZERO;
        }

        static boolean so(BigInteger v) {
            return v.signum() != 0;
        }

        Node two(Node left, Node right, String sign) {
            return (c, county) -> {
                BigInteger l = left.value(c, county);
                BigInteger r = right.value(c, county);
                BigInteger v;
                switch (sign) {
                    case "or": v = bit(so(l) | so(r)); break;
                    case "and": v = bit(so(l) & so(r)); break;
                    case "<": v = bit(l.compareTo(r) < 0); break;
                    case "<=": v = bit(l.compareTo(r) <= 0); break;
                    case "=": v = bit(l.equals(r)); break;
                    case "<>": v = bit(!l.equals(r)); break;
                    case ">=": v = bit(l.compareTo(r) >= 0); break;
                    case ">": v = bit(l.compareTo(r) > 0); break;
                    case "+": v = l.add(r); break;
                    case "-": v = l.subtract(r); break;
                    case "*": v = l.multiply(r); break;
                    default:
                        if (!so(r)) {
                            throw new Bad();
                        }
                        v = l.divide(r);
                }
                if (v.abs().compareTo(Model.MOST) > 0) {
                    throw new Bad();
                }
                return v;
            };
        }

        Node or() {
            Node n = and();
            while (is("or")) {
                String sign = knot();
                n = two(n, and(), sign);
            }
            return n;
        }

        Node and() {
            Node n = not();
            while (is("and")) {
                String sign = knot();
                n = two(n, not(), sign);
            }
            return n;
        }

        Node not() {
            if (is("not")) {
                knot();
                Node n = not();
                return (c, county) -> bit(!so(n.value(c, county)));
            }
            return compare();
        }

        Node compare() {
            Node n = sum();
            if (is("<", "<=", "=", "<>", ">=", ">")) {
                String sign = knot();
                n = two(n, sum(), sign);
            }
            return n;
        }

        Node sum() {
            Node n = term();
            while (is("+", "-")) {
                String sign = knot();
                n = two(n, term(), sign);
            }
            return n;
        }

        Node term() {
            Node n = primary();
            while (is("*", "/")) {
                String sign = knot();
                n = two(n, primary(), sign);
            }
            return n;
        }

        Node primary() {
            if (is("(")) {
                if (open == 8) {
                    throw stop(2);
                }
                open++;
                at++;
                Node n = or();
                need(")");
                open--;
                return n;
            }
            if (now().text.matches("[0-9]+")) {
                int where = at;
                int v = digits(0, 999);
                at = where;
                knot();
                return (c, county) -> BigInteger.valueOf(v);
            }
            if (!is("one", "two", "three", "sum", "most", "least", "county")) {
                throw stop(1);
            }
            String word = knot();
            return (c, county) -> BigInteger.valueOf(named(word, c, county));
        }

        static int named(String word, int[] c, int county) {
            switch (word) {
                case "one": return c[0];
                case "two": return c[1];
                case "three": return c[2];
                case "sum": return c[0] + c[1] + c[2];
                case "most": return Arrays.stream(c).max().getAsInt();
                case "least": return Arrays.stream(c).min().getAsInt();
                default: return county;
            }
        }
    }
}
