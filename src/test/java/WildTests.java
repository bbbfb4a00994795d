import java.util.NoSuchElementException;
import java.util.Random;

/** Any arguments in any state: nothing but what the document names may be thrown. */
public final class WildTests {
    private static final int[] EDGES = {Integer.MIN_VALUE, Integer.MIN_VALUE + 1, -1000, -3, -2, -1, 0, 1, 2, 3, 4, 5, 6,
        7, 8, 9, 10, 11, 12, 13, 20, 64, 99, 100, 149, 150, 151, 500, 501, 600, 601, Integer.MAX_VALUE - 1,
        Integer.MAX_VALUE};
    private static final String BITS = "kind a 1 0 0 0 0 0 0 0 0 0 1;kind b 99 9 9 9 9 9 9 9 9 9 9;place c 0 lot box 3 works 4 9;"
        + "place d 1 box 1;place e 9 lot;take sum*county>=one/two or not most<least;saves 9 9;";

    public static void main(String[] args) {
        int wrong = 0;
        for (int seed = 1; seed <= 3000 && wrong < 5; seed++) {
            Random r = new Random(seed);
            WorstPlaces x = new WorstPlaces();
            for (int i = 0; i < 512; i++) {
                int which = r.nextInt(26);
                int[] a = {some(r), some(r), some(r), some(r), some(r)};
                try {
                    call(x, r, which, a);
                } catch (RuntimeException e) {
                    wrong++;
                    System.out.println("seed " + seed + ", call " + i + " of " + which + " threw " + e);
                    e.printStackTrace(System.out);
                }
            }
        }
        System.out.println(wrong == 0 ? "nothing was thrown" : "something was thrown");
        if (wrong != 0) {
            System.exit(1);
        }
    }

    private static int some(Random r) {
        int p = r.nextInt(10);
        return p == 0 ? r.nextInt() : p < 3 ? EDGES[r.nextInt(EDGES.length)] : r.nextInt(10);
    }

    private static void tell(WorstPlaces x, Random r) {
        char[] text = BITS.toCharArray();
        for (int i = r.nextInt(3) - 1; i > 0; i--) {
            text[r.nextInt(text.length)] = (char) (r.nextBoolean() ? r.nextInt(256) : BITS.charAt(r.nextInt(BITS.length())));
        }
        int from = r.nextInt(3) > 0 ? 0 : r.nextInt(text.length);
        for (int i = from; i < text.length; i += 20) {
            int[] w = new int[5];
            for (int k = 0; k < 20; k++) {
                w[k / 4] = w[k / 4] << 8 | (i + k < text.length ? text[i + k] : ' ');
            }
            x.feed(w[0], w[1], w[2], w[3], w[4]);
        }
        x.text(r.nextInt(4) > 0 ? text.length - from : r.nextInt(600));
    }

    private static void call(WorstPlaces x, Random r, int which, int[] a) {
        switch (which) {
            case 0: x.feed(r.nextInt(), r.nextInt(), r.nextInt(), r.nextInt(), r.nextInt()); break;
            case 1: x.text(r.nextInt(20) == 0 ? a[0] : -1); break;
            case 2: x.fault(a[0]); break;
            case 3: x.named(a[0], a[1] << 25); break;
            case 4: look(x, a[0], a[1]); break;
            case 5: case 24: x.note(a[0], a[1], a[2]); break;
            case 6: x.strike(a[0]); break;
            case 7: x.known(a[0]); break;
            case 8: x.count(a[0], a[1]); break;
            case 9: x.likely(a[0], a[1], a[2], a[3]); break;
            case 10: x.rate(a[0], a[1], a[2], a[3]); break;
            case 11: x.span(a[0], a[1], a[2], a[3]); break;
            case 12: x.worse(a[0], a[1], a[2], a[3], a[4]); break;
            case 13: x.taken(a[0]); break;
            case 14: x.law(a[0], a[1]); break;
            case 15: x.fall(a[0], a[1]); break;
            case 16: x.lot(a[0], a[1], a[2]); break;
            case 17: x.chose(a[0], a[1]); break;
            case 18: x.house(a[0], a[1]); break;
            case 19: x.coin(a[0], a[1]); break;
            case 20: x.poles(a[0], a[1], a[2]); break;
            case 21: x.never(); break;
            case 22: x.draws(a[0], a[1], a[2]); break;
            case 23: x.number(a[0]); break;
            default: tell(x, r); break;
        }
    }

    private static void look(WorstPlaces x, int place, int what) {
        boolean thrown = false;
        try {
            x.look(place, what);
        } catch (IndexOutOfBoundsException e) {
            thrown = true;
            if (e.getClass() != IndexOutOfBoundsException.class || place >= 0 && place < x.number(1)) {
                throw e;
            }
        } catch (NoSuchElementException e) {
            thrown = true;
            if (what >= 0 && what <= 5) {
                throw e;
            }
        }
        if (!thrown && (place < 0 || place >= x.number(1) || what < 0 || what > 5)) {
            throw new IllegalStateException("nothing thrown by look");
        }
    }
}
