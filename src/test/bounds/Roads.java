import java.nio.charset.StandardCharsets;
import java.util.NoSuchElementException;

/** Objects with a text and counts, made in few words. */
final class Roads {
    static final int NO = Integer.MIN_VALUE;
    static final int NO_PLACE = -1001;
    static final int NO_WHAT = -1002;
    static final String ZEROS = " 0 0 0 0 0 0 0 0 0 0;";
    /** Two kinds, four places: p chosen, q without a box, r by lot with one, s by lot without. */
    static final String ROAD = "kind a 3 0 0 0 0 0 1 1 1 1 2;kind b 1 1 1 2 2 2 3 3 3 4 4;place p 0 box 3;"
        + "place q 0;place r 1 lot box 3 works 4 5;place s 1 lot;take sum>=6;saves 5 2;";
    /** Far outside of all that can be asked. */
    static final int[] WILD = {Integer.MIN_VALUE, Integer.MIN_VALUE + 1, -65536, -2, Integer.MAX_VALUE - 1,
        Integer.MAX_VALUE, 65536, 1000};

    private Roads() {
    }

    static int feedAll(WorstPlaces x, String text) {
        byte[] bytes = text.getBytes(StandardCharsets.ISO_8859_1);
        int fed = 0;
        for (int i = 0; i < bytes.length; i += 20) {
            int[] w = new int[5];
            for (int k = 0; k < 20; k++) {
                w[k / 4] = w[k / 4] << 8 | (i + k < bytes.length ? bytes[i + k] & 255 : 32);
            }
            fed = x.feed(w[0], w[1], w[2], w[3], w[4]);
        }
        return fed;
    }

    static int tell(WorstPlaces x, String text) {
        feedAll(x, text);
        return x.text(text.length());
    }

    /** A new object with a text that has no fault. */
    static WorstPlaces road(String text) {
        WorstPlaces x = new WorstPlaces();
        if (tell(x, text) < 0) {
            throw new IllegalStateException("has fault " + x.fault(0) + " at " + x.fault(1) + ": " + text);
        }
        return x;
    }

    /** One count a sign from a year on; a dot where none is known. */
    static void notes(WorstPlaces x, int place, int from, String counts) {
        for (int i = 0; i < counts.length(); i++) {
            if (counts.charAt(i) != '.') {
                x.note(place, from + i, counts.charAt(i) - '0');
            }
        }
    }

    static int letters(String word) {
        int v = 0;
        for (int i = 0; i < 6; i++) {
            v = v << 5 | (i < word.length() ? word.charAt(i) - 96 : 0);
        }
        return v;
    }

    static int looked(WorstPlaces x, int place, int what) {
        try {
            return x.look(place, what);
        } catch (IndexOutOfBoundsException e) {
            return NO_PLACE;
        } catch (NoSuchElementException e) {
            return NO_WHAT;
        }
    }

    /** A kind that deals one face alone. */
    static String same(String name, int weight, int face) {
        return "kind " + name + " " + weight + (" " + face).repeat(10) + ";";
    }

    /** So many lines, named a, b, .. */
    static String lines(String begin, int many, String end) {
        StringBuilder all = new StringBuilder();
        for (int i = 0; i < many; i++) {
            all.append(begin).append((char) ('a' + i)).append(end);
        }
        return all.toString();
    }

    /** What can be asked without a change, in one text: few calls, as an object is good for 512. */
    static String state(WorstPlaces x) {
        StringBuilder all = new StringBuilder();
        for (int what = 0; what <= 6; what++) {
            all.append(x.number(what)).append(' ');
        }
        for (int place = 0; place < x.number(1); place++) {
            for (int what = 0; what <= 5; what++) {
                all.append(looked(x, place, what)).append(' ');
            }
            for (int year = 0; year <= 8; year++) {
                all.append(x.count(place, year)).append(' ');
            }
            all.append(x.rate(place, 3, 8, 1)).append(' ').append(x.fall(place, 7)).append(' ');
            all.append(x.house(place, 0)).append(' ');
        }
        for (char c : "abcdpqrsyz".toCharArray()) {
            all.append(x.named(0, c - 96 << 25)).append(' ').append(x.named(1, c - 96 << 25)).append(' ');
        }
        for (int what = 0; what <= 4; what++) {
            all.append(x.law(0, what)).append(' ');
        }
        all.append(x.taken(3)).append(' ').append(x.never()).append(' ').append(x.draws(1, 20, 1));
        return all.append(' ').append(x.poles(Math.min(1, x.number(1)), 0, 1)).toString();
    }
}
