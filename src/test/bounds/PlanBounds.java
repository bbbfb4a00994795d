import java.math.BigInteger;

/** Terms: poles, never and draws. */
final class PlanBounds {
    private static final int LIVES = 0;
    private static final int COIN = 1;
    private static final BigInteger FACTOR = BigInteger.valueOf(1103515245);
    private static final BigInteger MORE = BigInteger.valueOf(12345);
    private static final BigInteger ABOVE = BigInteger.TWO.pow(31);
    private static final String DIGITS = " 0 1 2 3 4 5 6 7 8 9;";
    // What a count tells is then surely the rate.
    private static final String SURE = Roads.same("a", 1, 1) + Roads.same("b", 1, 2) + Roads.same("c", 1, 3);

    private final Sentences s;

    PlanBounds(Sentences s) {
        this.s = s;
    }

    void run() {
        rates();
        saved();
        most();
        never();
        draws();
        drawnKinds();
    }

    private void isPoles(String what, WorstPlaces x, int k, int by, int bits, int saved, int brought) {
        s.due(what + ", bits", x.poles(k, by, 0), bits);
        s.due(what + ", saved", x.poles(k, by, 1), saved);
        s.due(what + ", brought", x.poles(k, by, 2), brought);
    }

    private void rates() {
        s.says("POLES: K of the PLACES (by RATE, in thousandths, cut, of the latest YEAR of which a COUNT is KNOWN "
            + "at some PLACE and the five ahead of it, as far as there are; 0 without, or if that is 0 by 0):");
        String two = SURE + "place p 0;place q 0;saves 5 0;";
        for (int k = 0; k <= 2; k++) {
            isPoles("no count, " + k, Roads.road(two), k, LIVES, (1 << k) - 1, 0, 0);
        }
        for (int latest = 0; latest <= 8; latest++) {
            for (int year = 0; year <= latest; year++) {
                WorstPlaces x = Roads.road(two);
                x.note(0, year, 3);
                x.note(1, latest, 1);
                // p's count tells 3, if it is in these years; if not, all kinds are as likely: 2.
                int rate = year >= latest - 5 ? 3000 : 2000;
                isPoles(year + " beside the latest " + latest, x, 1, LIVES, 1, rate / 2, 0);
            }
        }
        WorstPlaces struck = Roads.road(two);
        struck.note(0, 2, 3);
        struck.note(1, 8, 1);
        struck.strike(1);
        isPoles("the latest is struck", struck, 1, LIVES, 1, 1500, 0);
        struck.known(2);
        isPoles("the latest is known", struck, 1, LIVES, 1, 1000, 0);
        struck.known(0);
        isPoles("nothing is known", struck, 1, LIVES, 1, 0, 0);
        WorstPlaces zero = Roads.road(two);
        zero.note(0, 0, 9);
        isPoles("0 by 0", zero, 1, LIVES, 2, 1000, 0);
        isPoles("no kinds", withCount("place p 0;", 9), 1, LIVES, 1, 0, 0);
        // Two thirds: 666 thousandths, and 599 of these.
        String thirds = Roads.same("a", 2, 1) + Roads.same("b", 1, 0);
        WorstPlaces cut = withCount(thirds + "place p 0;place q 0;saves 9 0;", 9);
        isPoles("cut", cut, 1, LIVES, 2, 599, 0);
    }

    private static WorstPlaces withCount(String text, int count) {
        WorstPlaces x = Roads.road(text);
        x.note(0, 0, count);
        return x;
    }

    /** Places with rates of 1000, 3000, 2000, 1000. */
    private static WorstPlaces four(String saves) {
        WorstPlaces x = Roads.road(SURE + "place p 0;place q 0;place r 0;place s 0;" + saves);
        for (int place = 0; place < 4; place++) {
            x.note(place, 0, "1321".charAt(place) - '0');
        }
        return x;
    }

    private void saved() {
        s.says("what is saved is RATE times s by 10, cut;");
        isPoles("s 0", four("saves 0 0;"), 1, LIVES, 1, 0, 0);
        isPoles("s 1", four("saves 1 0;"), 1, LIVES, 2, 300, 0);
        isPoles("s 9", four("saves 9 0;"), 1, LIVES, 2, 2700, 0);
        String third = Roads.same("a", 1, 1) + Roads.same("b", 2, 0) + "place p 0;place q 0;";
        // 333 of 1000: 233.1 with s 7, 33.3 with s 1.
        isPoles("s 7, cut", withCount(third + "saves 7 0;", 9), 1, LIVES, 2, 233, 0);
        isPoles("s 1, cut", withCount(third + "saves 1 0;", 9), 1, LIVES, 2, 33, 0);
        s.says("less that times m by 10, cut, if the next PLACE (there is one) has none of these K.");
        // 1500 less 300 of q; s is the last and loses nothing.
        isPoles("the next has none", four("saves 5 2;"), 1, LIVES, 2, 1200, 0);
        isPoles("the next has one", four("saves 5 2;"), 2, LIVES, 6, 2300, 0);
        isPoles("the last loses none", four("saves 5 2;"), 4, LIVES, 15, 3500, 0);
        WorstPlaces last = four("saves 5 9;");
        isPoles("the last alone", last, 1, LIVES, 8, 500, 0);
        // r and s: 1000 and 500; q and r: 1500 and 100.
        isPoles("two with m 9", last, 2, LIVES, 6, 1600, 0);
        isPoles("all with m 9", last, 4, LIVES, 15, 3500, 0);
        WorstPlaces cut = withCount(third + "saves 7 3;", 0);
        cut.coin(0, 1);
        // p is surely 0 now; q saves 233, and none goes on.
        isPoles("nothing to lose", cut, 1, COIN, 1, 0, 1);
        WorstPlaces lost = Roads.road(third + "saves 7 3;");
        lost.note(1, 0, 0);
        // p: 233 less 69.9 cut.
        isPoles("cut, and cut", lost, 1, LIVES, 1, 233 - 69, 0);
        isPoles("one place alone", withCount(SURE + "place p 0;saves 5 9;", 3), 1, LIVES, 1, 1500, 0);
    }

    private void most() {
        s.says("LIVES: the most that K save together;");
        WorstPlaces x = four("saves 5 0;");
        int[] bits = {0, 2, 6, 7, 15};
        int[] sums = {0, 1500, 2500, 3000, 3500};
        for (int k = 0; k <= 4; k++) {
            isPoles("k " + k, x, k, LIVES, bits[k], sums[k], 0);
        }
        s.says("COIN: the most that K bring by what each PLACE is told to bring (0 .. 99).");
        x.coin(0, 7);
        x.coin(2, 99);
        x.coin(3, 98);
        int[] brings = {0, 4, 12, 13, 15};
        int[] saves = {0, 1000, 1500, 2000, 3500};
        int[] coins = {0, 99, 197, 204, 204};
        for (int k = 0; k <= 4; k++) {
            isPoles("coin, k " + k, x, k, COIN, brings[k], saves[k], coins[k]);
        }
        x.coin(3, 99);
        isPoles("as much", x, 1, COIN, 4, 1000, 99);
        x.coin(2, 98);
        isPoles("one less", x, 1, COIN, 8, 500, 99);
        WorstPlaces full = Roads.road(Roads.lines("place ", 12, " 0;"));
        for (int place = 0; place < 12; place++) {
            full.coin(place, 99);
        }
        isPoles("all twelve", full, 12, COIN, 4095, 0, 1188);
        isPoles("six of twelve", full, 6, COIN, 63, 0, 594);
        s.says("Of several the least bits.");
        isPoles("of p and s", four("saves 5 0;"), 3, LIVES, 7, 3000, 0);
        isPoles("of all", four("saves 0 0;"), 2, LIVES, 3, 0, 0);
        isPoles("of all, coin", four(""), 3, COIN, 7, 3000, 0);
    }

    private void never() {
        s.says("NEVER: PLACES without a BOX, TAKEN in no YEAR 3 .. 9, of which the RATE (so) is above that of some "
            + "PLACE with a BOX.");
        String text = SURE + "place p 0;place q 0 box 8;place r 0;take sum=5;";
        int[] below = {0, 0, 0, 1};
        for (int count = 1; count <= 3; count++) {
            WorstPlaces x = Roads.road(text);
            x.note(0, 0, count);
            x.note(1, 0, 2);
            x.note(2, 0, 1);
            s.due("p " + count + " beside 2", x.never(), below[count]);
        }
        takenOnce();
        WorstPlaces boxes = Roads.road(SURE + "place p 0;place q 0;");
        boxes.note(0, 0, 3);
        boxes.note(1, 0, 1);
        s.due("no place with a box", boxes.never(), 0);
        WorstPlaces some = Roads.road(SURE + "place p 0;place q 0 box 1;place r 0 box 8;place s 0 box 4;");
        some.note(0, 0, 2);
        some.note(1, 0, 3);
        some.note(2, 0, 1);
        some.note(3, 0, 3);
        s.due("above one of three", some.never(), 1);
        some.note(2, 0, 2);
        s.due("above none", some.never(), 0);
        WorstPlaces unknown = Roads.road(SURE + "place p 0;place q 0 box 1;");
        unknown.note(1, 0, 9);
        s.due("above 0 by 0", unknown.never(), 1);
        unknown.known(0);
        s.due("nothing known", unknown.never(), 0);
        WorstPlaces zero = Roads.road(Roads.same("a", 1, 0) + "place p 0;place q 0 box 1;");
        zero.note(0, 0, 9);
        s.due("0 by 0 above 0", zero.never(), 0);
        zero.strike(0);
        zero.note(1, 0, 9);
        s.due("0 above 0 by 0", zero.never(), 0);
        s.due("no places", Roads.road("take 1;").never(), 0);
    }

    /** By years alone that the rate looks at, so that only the rule tells them apart. */
    private void takenOnce() {
        for (int first = 0; first <= 6; first++) {
            WorstPlaces x = Roads.road("kind a 1" + DIGITS + Roads.same("b", 1, 0) + "place p 0;place q 0 box 1;"
                + "take one=7 and two=8 and three=9;");
            Roads.notes(x, 0, 0, "987987987");
            Roads.notes(x, 1, 8, "0");
            s.due("987 all along", x.never(), 1);
            Roads.notes(x, 0, first, "789");
            s.due("789 from " + first, x.never(), 0);
        }
        WorstPlaces twice = Roads.road(SURE + "place p 0;place q 0 box 1;take sum=9;");
        Roads.notes(twice, 0, 0, "333");
        Roads.notes(twice, 1, 0, "111");
        s.due("taken once", twice.never(), 0);
        Roads.notes(twice, 0, 3, "3");
        s.due("taken twice", twice.never(), 0);
    }

    private void isDraws(String what, WorstPlaces x, int seed, int many, int taken, int fallen) {
        s.due(what + ", taken", x.draws(seed, many, 0), taken);
        s.due(what + ", fall", x.draws(seed, many, 1), fallen);
    }

    /** The document's numbers, by a way that can't wrap around. */
    private static int[] numbers(int seed, int many) {
        int[] all = new int[many];
        BigInteger last = BigInteger.valueOf(seed);
        for (int i = 0; i < many; i++) {
            last = last.multiply(FACTOR).add(MORE).mod(ABOVE);
            all[i] = last.divide(BigInteger.valueOf(65536)).intValue();
        }
        return all;
    }

    private void draws() {
        WorstPlaces x = Roads.road("kind a 1" + DIGITS + "take 1;");
        s.says("DRAWS by a seed 0 .. 2147483647:");
        int[] seeds = {0, 1, 2, 65535, 65536, 1073741824, 2147483646, 2147483647};
        for (int seed : seeds) {
            int[] n = numbers(seed, 7);
            int fall = n[1] % 10 + n[2] % 10 + n[3] % 10 - n[4] % 10 - n[5] % 10 - n[6] % 10;
            isDraws("seed " + seed, x, seed, 1, 1, fall);
        }
        s.due("seed -1", x.draws(-1, 1, 0), Roads.NO);
        s.due("the least seed", x.draws(Integer.MIN_VALUE, 1, 0), Roads.NO);
        s.says("numbers are the last one (at first the seed) times 1103515245 and 12345, without what is above 31 "
            + "bits, by 65536.");
        // 16838 | 5758 10113 17515 31051 5627 23010 | 7419 | 16212 4086 2749 12767 9084 12060
        isDraws("8, 3, 5 less 1, 7, 0", x, 1, 1, 1, 8);
        isDraws("and 2, 6, 9 less 7, 4, 0", x, 1, 2, 2, 14);
        for (int many : new int[] {1, 2, 499, 500}) {
            int[] n = numbers(2147483647, 7 * many);
            int fall = 0;
            for (int i = 0; i < n.length; i++) {
                fall += i % 7 == 0 ? 0 : i % 7 <= 3 ? n[i] % 10 : -(n[i] % 10);
            }
            isDraws(many + " draws", x, 2147483647, many, many, fall);
        }
    }

    private void drawnKinds() {
        s.says("For each draw: a KIND by the first number modulo all WEIGHTS (the first up to which WEIGHTS "
            + "together are more);");
        // 16838 modulo 99 is 8.
        for (int weight = 7; weight <= 10; weight++) {
            WorstPlaces x = Roads.road(Roads.same("a", weight, 1) + Roads.same("b", 99 - weight, 2) + "take one=2;");
            s.due("the first weight " + weight, x.draws(1, 1, 0), weight <= 8 ? 1 : 0);
        }
        WorstPlaces third = Roads.road(Roads.same("a", 4, 1) + Roads.same("b", 4, 2) + Roads.same("c", 1, 3)
            + Roads.same("d", 90, 4) + "take one=3;");
        s.due("the third", third.draws(1, 1, 0), 1);
        WorstPlaces great = Roads.road(Roads.same("a", 99, 1) + Roads.same("b", 99, 2) + Roads.same("c", 99, 3)
            + Roads.same("d", 99, 4) + Roads.same("e", 99, 5) + "take one=1;");
        // 16838 modulo 495 is 8, 7419 modulo 495 is 489.
        s.due("of five, the first draw", great.draws(1, 1, 0), 1);
        s.due("of five, the second", great.draws(1, 2, 0), 1);
        s.says("six FACES by six numbers modulo 10.");
        for (int place = 0; place < 6; place++) {
            int drawn = new int[] {8, 3, 5, 1, 7, 0}[place];
            String kind = "kind a 1" + " 0".repeat(drawn) + " 1" + " 0".repeat(9 - drawn) + ";";
            isDraws("the number " + drawn, Roads.road(kind + "take 1;"), 1, 1, 1, place < 3 ? 1 : -1);
        }
        s.says("Those that the RULE (COUNTY 0) takes by the first three:");
        String digits = "kind a 1" + DIGITS;
        s.due("8, 3, 5", Roads.road(digits + "take one=8 and two=3 and three=5;").draws(1, 1, 0), 1);
        s.due("3, 8, 5", Roads.road(digits + "take one=3 and two=8 and three=5;").draws(1, 1, 0), 0);
        s.due("county 0", Roads.road(digits + "place p 1;take county=0;").draws(1, 500, 0), 500);
        s.due("county 1", Roads.road(digits + "place p 1;take county=1;").draws(1, 500, 0), 0);
        s.due("an error", Roads.road(digits + "take 1/(one-8)+1;").draws(1, 1, 0), 0);
        s.due("without a rule", Roads.road(digits).draws(1, 500, 0), 0);
        s.says("told are how many, and what the first three are more than the last three, together.");
        isDraws("both", Roads.road(digits + "take sum>=16;"), 1, 2, 2, 14);
        isDraws("the second alone", Roads.road(digits + "take sum>=17;"), 1, 2, 1, 6);
        isDraws("none", Roads.road(digits + "take sum>=18;"), 1, 2, 0, 0);
        isDraws("the first alone", Roads.road(digits + "take sum=16;"), 1, 2, 1, 8);
        isDraws("nothing falls", Roads.road(Roads.same("a", 1, 9) + "take 1;"), 7, 500, 500, 0);
        // 24166 10491 3711 15407 4496 11138
        isDraws("6, 1, 1 less 7, 6, 8", Roads.road(digits + "take 1;"), 4, 1, 1, -13);
    }
}
