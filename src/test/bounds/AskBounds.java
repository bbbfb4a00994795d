/** Promises 11 to 25: what is asked, at the edges of what can be asked; none of these but coin() changes anything. */
final class AskBounds {
    private static final int NO = Roads.NO;

    private final Sentences s;

    AskBounds(Sentences s) {
        this.s = s;
    }

    void run() {
        s.part("Promise 11: likely", "Promise 12: rate");
        likely(used());
        s.part("Promise 12: rate", "Promise 13: span");
        rate(used());
        s.part("Promise 13: span", "Promise 14: worse");
        span(used());
        s.part("Promise 14: worse", "Promise 15: taken");
        worse(used());
        s.part("Promise 15: taken", "Promise 16: law");
        taken(used());
        s.part("Promise 16: law", "Promise 17: fall");
        law(used());
        s.part("Promise 17: fall", "Promise 18: lot");
        fall(used());
        s.part("Promise 18: lot", "Promise 19: chose");
        lot(used());
        s.part("Promise 19: chose", "Promise 20: house");
        chose(used());
        s.part("Promise 20: house", "Promise 21: coin");
        house(used());
        s.part("Promise 21: coin", "Promise 22: poles");
        coin();
        s.part("Promise 22: poles", "Promise 23: never");
        poles();
        s.part("Promise 23: never", "Promise 24: draws");
        never(used());
        s.part("Promise 24: draws", "Promise 25: number");
        draws(used());
        s.part("Promise 25: number", "Not promised");
        number(used());
    }

    private static WorstPlaces used() {
        WorstPlaces x = Roads.road(Roads.ROAD);
        String[] counts = {"123111", "101110", "222101", "212112"};
        for (int place = 0; place < counts.length; place++) {
            Roads.notes(x, place, 0, counts[place]);
        }
        return x;
    }

    private interface OfYears {
        long ask(WorstPlaces x, int a, int b);
    }

    /** NONE for all years that are none, and for these alone; nothing is changed by it. */
    private void years(OfYears call) {
        WorstPlaces x = used();
        String was = Roads.state(x);
        for (int a = -2; a <= 10; a++) {
            for (int b = -2; b <= 10; b++) {
                boolean fine = a >= 0 && b <= 8 && b >= a && b - a + 1 <= 6;
                s.due("years " + a + " .. " + b + " are such", call.ask(x, a, b) != -1, fine);
            }
        }
        for (int wild : Roads.WILD) {
            s.due("years " + wild + " .. " + -wild, call.ask(x, wild, -wild), -1);
            s.due("years 0 .. " + wild, call.ask(x, 0, wild), -1);
            s.due("years " + wild + " .. 8", call.ask(x, wild, 8), -1);
        }
        s.due("the state behind it", Roads.state(x), was);
    }

    private interface Of {
        long ask(WorstPlaces x, int value);
    }

    private void only(String what, int least, int most, long none, Of call) {
        only(used(), what, least, most, none, call);
    }

    /** None for a value outside of these and for no other; nothing is changed by it. */
    private void only(WorstPlaces x, String what, int least, int most, long none, Of call) {
        String was = Roads.state(x);
        for (int value = least - 2; value <= most + 2; value++) {
            if (value > least + 9 && value < most - 9) {
                continue;
            }
            boolean fine = value >= least && value <= most;
            s.due(what + " " + value + " is such", call.ask(x, value) != none, fine);
        }
        for (int wild : Roads.WILD) {
            s.due(what + " " + wild, call.ask(x, wild), none);
        }
        s.due("the state behind it", Roads.state(x), was);
    }

    private void likely(WorstPlaces x) {
        s.says("LIKELY;");
        s.due("low", x.likely(0, 0, 0, 0), 12);
        s.due("bad", x.likely(1, 0, 0, 2), 18);
        s.due("0", x.likely(0, 0, 0, 2), 0);
        s.says("NONE: no such ones (YEARS 0 .. 8, the second not below the first, 6 at most).");
        years((z, a, b) -> z.likely(1, 0, a, b));
        only("kind", 0, 1, -1, (z, kind) -> z.likely(kind, 0, 0, 5));
        only("place", 0, 3, -1, (z, place) -> z.likely(0, place, 0, 5));
        s.due("no kinds", Roads.road("place a 0;").likely(0, 0, 0, 0), -1);
    }

    private void rate(WorstPlaces x) {
        s.says("RATE, what 0: the number above, 1: the one below.");
        s.due("above", x.rate(3, 0, 2, 0), 87);
        s.due("below", x.rate(3, 0, 2, 1), 50);
        s.says("NONE: no such ones.");
        years((z, a, b) -> z.rate(0, a, b, 0));
        years((z, a, b) -> z.rate(0, a, b, 1));
        only("place", 0, 3, -1, (z, place) -> z.rate(place, 0, 5, 1));
        only("what", 0, 1, -1, (z, what) -> z.rate(0, 0, 5, what));
    }

    private void span(WorstPlaces x) {
        s.says("SPAN, what 0: the least MEAN, 1: the greatest.");
        s.due("least", x.span(2, 0, 2, 0), 6);
        s.due("greatest", x.span(2, 0, 2, 1), 25);
        s.says("-2: all LIKELY are 0;");
        WorstPlaces y = Roads.road(Roads.same("a", 1, 4) + Roads.same("b", 1, 5) + "place p 0;");
        y.note(0, 3, 6);
        s.due("by year 3, least", y.span(0, 3, 8, 0), -2);
        s.due("by year 3, greatest", y.span(0, 0, 3, 1), -2);
        s.due("behind year 3", y.span(0, 4, 8, 0), 40);
        s.due("ahead of year 3", y.span(0, 0, 2, 1), 50);
        s.due("what 2 is none yet", y.span(0, 3, 3, 2), -1);
        y.note(0, 3, 5);
        s.due("one isn't 0, least", y.span(0, 3, 8, 0), 50);
        s.due("no kinds", Roads.road("place p 0;").span(0, 0, 0, 0), -2);
        s.says("NONE: no such ones.");
        years((z, a, b) -> z.span(0, a, b, 0));
        years((z, a, b) -> z.span(0, a, b, 1));
        only("place", 0, 3, -1, (z, place) -> z.span(place, 0, 5, 0));
        only("what", 0, 1, -1, (z, what) -> z.span(0, 0, 5, what));
    }

    private void worse(WorstPlaces x) {
        s.says("WORSE, what 0: the number above, 1: the one below (0 by 0, if all are 0).");
        s.due("above", x.worse(2, 3, 0, 2, 0), 9);
        s.due("below", x.worse(2, 3, 0, 2, 1), 25);
        WorstPlaces y = Roads.road(Roads.same("a", 1, 4) + "place p 0;place q 0;");
        s.due("none is above, above", y.worse(0, 1, 0, 5, 0), 0);
        s.due("none is above, below", y.worse(0, 1, 0, 5, 1), 1);
        y.note(1, 5, 6);
        s.due("all are 0, above", y.worse(0, 1, 0, 5, 0), 0);
        s.due("all are 0, below", y.worse(0, 1, 0, 5, 1), 0);
        s.due("all are 0 of the first", y.worse(1, 0, 0, 5, 1), 0);
        s.due("not by years ahead of that", y.worse(0, 1, 0, 4, 1), 1);
        s.due("no kinds", Roads.road("place p 0;place q 0;").worse(0, 1, 0, 0, 1), 0);
        s.says("NONE: no such ones, one PLACE alone.");
        years((z, a, b) -> z.worse(0, 1, a, b, 0));
        years((z, a, b) -> z.worse(0, 1, a, b, 1));
        only("what", 0, 1, -1, (z, what) -> z.worse(0, 1, 0, 5, what));
        for (int one = -2; one <= 5; one++) {
            for (int other = -2; other <= 5; other++) {
                boolean fine = one != other && one >= 0 && one <= 3 && other >= 0 && other <= 3;
                s.due(one + " and " + other + " are such", x.worse(one, other, 0, 5, 1) != -1, fine);
            }
        }
        for (int wild : Roads.WILD) {
            s.due(wild + " and 0", x.worse(wild, 0, 0, 5, 0), -1);
            s.due("0 and " + wild, x.worse(0, wild, 0, 5, 0), -1);
            s.due(wild + " alone", x.worse(wild, wild, 0, 5, 0), -1);
        }
    }

    private void taken(WorstPlaces x) {
        s.says("TAKEN in a YEAR (bits of PLACES);");
        s.due("in 3", x.taken(3), 5);
        s.due("in 4", x.taken(4), 1);
        s.due("in 9", x.taken(9), 0);
        s.says("NONE: no such YEAR.");
        only("year", 3, 9, -1, WorstPlaces::taken);
        only(new WorstPlaces(), "year without a text", 3, 9, -1, WorstPlaces::taken);
    }

    private void law(WorstPlaces x) {
        s.says("LAW with a COUNTY, what 0: TAKES, 1: of all, 2: HAD, 3: HAS in tenths,");
        long[] want = {869, 4000, 6900, 65004, 5};
        for (int what = 0; what <= 4; what++) {
            s.due("law(0, " + what + ")", x.law(0, what), want[what]);
            s.due("law(9, " + what + ")", x.law(9, what), want[what]);
        }
        s.says("4: LUCK of 100: 100 times (10 HAD less HAS in tenths) by 10 HAD, cut towards 0 (0 without HAD).");
        s.due("5.79", x.law(0, 4), 5);
        // HAS is 13500 tenths of the 100 that are taken; HAD 1200 with a 3 ahead, 900 with a 0.
        s.due("-12.5", Roads.road("kind a 1 0 1 2 3 4 5 6 7 8 9;take one=3;").law(0, 4), -12);
        s.due("exactly -50", Roads.road("kind a 1 0 1 2 3 4 5 6 7 8 9;take one=0;").law(0, 4), -50);
        s.due("without had", Roads.road("kind a 1 0 1 2 3 4 5 6 7 8 9;take sum=0;").law(0, 4), 0);
        s.due("had 1", Roads.road("kind a 1 0 1 2 3 4 5 6 7 8 9;take sum=1;").law(0, 4), -1250);
        s.due("the most", Roads.road("kind a 1 0 0 0 0 0 0 0 0 0 1;take sum=3;").law(0, 4), 90);
        s.says("NONE: no such ones.");
        only("county", 0, 9, -1, (z, county) -> z.law(county, 0));
        only("what", 0, 4, -1, (z, what) -> z.law(0, what));
        only(new WorstPlaces(), "county of a new object", 0, 9, -1, (z, county) -> z.law(county, 1));
    }

    private void fall(WorstPlaces x) {
        s.says("Of a FALL, what 0: BEFORE, 1: AFTER, 2: LUCK, 3: LAND, 4: WORKS, 5: BOX, 6: MOVED, 7: TRULY, 8: "
            + "BACK.");
        int[] first = {6, 3, -1500, 1072, 0, 3428, 286, 3142, 7500};
        int[] third = {6, 2, -930, 990, 2970, 970, 0, 970, 6930};
        for (int what = 0; what <= 8; what++) {
            s.due("fall(0, " + what + ")", x.fall(0, what), first[what]);
            s.due("fall(2, " + what + ")", x.fall(2, what), third[what]);
        }
        s.says("Integer.MIN_VALUE: it isn't one, no such ones.");
        for (int what = 0; what <= 8; what++) {
            s.due("without a box, " + what, x.fall(1, what), NO);
        }
        only("what", 0, 8, NO, (z, what) -> z.fall(0, what));
        for (int place = -2; place <= 5; place++) {
            s.due("place " + place, x.fall(place, 0), place == 0 || place == 2 ? 6 : NO);
        }
        for (int wild : Roads.WILD) {
            s.due("place " + wild, x.fall(wild, 0), NO);
            s.due("what " + wild + " without a box", x.fall(1, wild), NO);
        }
        s.due("a new object", new WorstPlaces().fall(0, 0), NO);
    }

    private void lot(WorstPlaces x) {
        s.says("LOT, what 0: the number above, 1: the one below, 2, 3: how many PLACES with a BOX, without.");
        int[] want = {3, 1, 1, 1};
        for (int what = 0; what <= 3; what++) {
            s.due("lot(1, 3, " + what + ")", x.lot(1, 3, what), want[what]);
            s.due("lot(0, 3, " + what + ")", x.lot(0, 3, what), 0);
        }
        s.says("Integer.MIN_VALUE: no such ones.");
        only("county", 0, 9, NO, (z, county) -> z.lot(county, 3, 0));
        only("year", 3, 6, NO, (z, year) -> z.lot(1, year, 1));
        only("what", 0, 3, NO, (z, what) -> z.lot(1, 3, what));
        only(new WorstPlaces(), "year of a new object", 3, 6, NO, (z, year) -> z.lot(1, year, 3));
    }

    private void chose(WorstPlaces x) {
        s.says("CHOSE, what 0: the number above, 1: the one below.");
        s.due("above", x.chose(3, 0), 3);
        s.due("below", x.chose(3, 1), 1);
        s.due("none, above", x.chose(6, 0), 0);
        s.due("none, below", x.chose(6, 1), 0);
        s.says("Integer.MIN_VALUE: no such ones.");
        only("year", 3, 6, NO, (z, year) -> z.chose(year, 0));
        only("what", 0, 1, NO, (z, what) -> z.chose(3, what));
        only(new WorstPlaces(), "year of a new object", 3, 6, NO, (z, year) -> z.chose(year, 1));
    }

    private static WorstPlaces house(String text, String counts) {
        WorstPlaces x = Roads.road(text);
        Roads.notes(x, 0, 0, counts);
        return x;
    }

    private void house(WorstPlaces x) {
        s.says("HOUSE, what 0: the greatest, 1: the least, 2: L of the greatest, 3: the first YEAR ahead, 4: the "
            + "first YEAR behind");
        int[] want = {66, 0, 1, 2, 3};
        for (int what = 0; what <= 4; what++) {
            s.due("house(0, " + what + ")", x.house(0, what), want[what]);
        }
        s.says("(of several the least L, then the first YEAR ahead, then that behind).");
        // All are 50, whatever is put beside what.
        WorstPlaces all = house("place p 0 box 4;", "444422222");
        int[] first = {50, 50, 1, 0, 4};
        for (int what = 0; what <= 4; what++) {
            s.due("all are 50, " + what, all.house(0, what), first[what]);
        }
        all.note(0, 0, 3);
        s.due("the first year ahead", all.house(0, 3), 1);
        s.due("the first behind it", all.house(0, 4), 4);
        all.note(0, 4, 3);
        s.due("then that behind", all.house(0, 4), 5);
        all.note(0, 8, 1);
        s.due("a greater one behind", all.house(0, 4), 8);
        s.due("of 75", all.house(0, 0), 75);
        all.note(0, 3, 5);
        s.due("a greater one ahead", all.house(0, 3), 3);
        s.due("of 80", all.house(0, 0), 80);
        s.says("Integer.MIN_VALUE: there is none, no such ones.");
        s.due("without a box", x.house(1, 0), NO);
        s.due("none known", house("place p 0 box 3;", "").house(0, 0), NO);
        s.due("sums of 0", house("place p 0 box 3;", "000999").house(0, 0), NO);
        only("what", 0, 4, NO, (z, what) -> z.house(0, what));
        // r: 2, 2, 2 beside 1, 0, 1.
        for (int place = -2; place <= 5; place++) {
            s.due("place " + place, x.house(place, 0), place == 0 ? 66 : place == 2 ? 100 : NO);
        }
        for (int wild : Roads.WILD) {
            s.due("place " + wild, x.house(wild, 0), NO);
            s.due("what " + wild + " without a box", x.house(1, wild), NO);
        }
        s.due("a new object", new WorstPlaces().house(0, 0), NO);
    }

    private void coin() {
        s.says("What a PLACE's BOX brings: true;");
        WorstPlaces x = Roads.road("place a 0;place b 0 box 1;");
        s.due("0", x.coin(0, 0), true);
        s.due("99", x.coin(1, 99), true);
        s.due("is 0", x.look(0, 5), 0);
        s.due("is 99", x.look(1, 5), 99);
        s.due("told anew", x.coin(1, 98), true);
        s.due("is 98", x.look(1, 5), 98);
        s.due("without a box", x.coin(0, 1), true);
        s.due("is 1", x.look(0, 5), 1);
        s.says("false: no such ones.");
        String was = Roads.state(x);
        s.due("-1", x.coin(0, -1), false);
        s.due("100", x.coin(0, 100), false);
        s.due("place -1", x.coin(-1, 1), false);
        s.due("place 2", x.coin(2, 1), false);
        for (int wild : Roads.WILD) {
            s.due("coin " + wild, x.coin(1, wild), false);
            s.due("place " + wild, x.coin(wild, 1), false);
        }
        s.due("all stays", Roads.state(x), was);
        s.due("a new object", new WorstPlaces().coin(0, 1), false);
    }

    private void poles() {
        s.says("POLES by 0 LIVES or 1 COIN, what 0: PLACES (bits), 1: what they save (thousandths), 2: what they "
            + "bring.");
        WorstPlaces y = used();
        y.coin(0, 5);
        y.coin(1, 90);
        int[] lives = {1, 1000, 5};
        int[] coin = {2, 240, 90};
        for (int what = 0; what <= 2; what++) {
            s.due("lives, " + what, y.poles(1, 0, what), lives[what]);
            s.due("coin, " + what, y.poles(1, 1, what), coin[what]);
        }
        s.says("NONE: no such ones (k 0 .. PLACES).");
        only("k", 0, 4, -1, (z, k) -> z.poles(k, 0, 0));
        only("k by coin", 0, 4, -1, (z, k) -> z.poles(k, 1, 2));
        only("by", 0, 1, -1, (z, by) -> z.poles(1, by, 0));
        only("what", 0, 2, -1, (z, what) -> z.poles(1, 0, what));
        only(new WorstPlaces(), "k without places", 0, 0, -1, (z, k) -> z.poles(k, 0, 0));
        WorstPlaces twelve = Roads.road(Roads.lines("place ", 12, " 0;"));
        for (int k = -1; k <= 13; k++) {
            s.due("k " + k + " of twelve", twelve.poles(k, 0, 0), k < 0 || k > 12 ? -1 : (1 << k) - 1);
        }
    }

    private void never(WorstPlaces x) {
        s.says("NEVER (bits).");
        s.due("s", x.never(), 8);
        s.due("none", new WorstPlaces().never(), 0);
        WorstPlaces all = Roads.road(Roads.same("a", 1, 1) + Roads.same("b", 1, 0) + "place z 0 box 1;"
            + Roads.lines("place ", 11, " 0;"));
        all.note(0, 0, 0);
        s.due("all eleven", all.never(), 4094);
    }

    private void draws(WorstPlaces x) {
        s.says("DRAWS (1 .. 500), what 0: how many are taken, 1: what they fall.");
        s.due("one, taken", x.draws(1, 1, 0), 0);
        s.due("one, fall", x.draws(1, 1, 1), 0);
        s.due("two, taken", x.draws(1, 2, 0), 1);
        s.due("two, fall", x.draws(1, 2, 1), 3);
        only("many", 1, 500, NO, (z, many) -> z.draws(1, many, 0));
        s.says("Integer.MIN_VALUE: no such ones, no KINDS.");
        s.due("no draws", x.draws(1, 0, 0), NO);
        s.due("501 draws", x.draws(1, 501, 1), NO);
        only("what", 0, 1, NO, (z, what) -> z.draws(1, 1, what));
        s.due("seed 0", x.draws(0, 1, 0) == NO, false);
        s.due("the greatest seed", x.draws(Integer.MAX_VALUE, 1, 0) == NO, false);
        s.due("seed -1", x.draws(-1, 1, 0), NO);
        s.due("the least seed", x.draws(Integer.MIN_VALUE, 1, 0), NO);
        s.due("no kinds, taken", Roads.road("place a 0;take 1;").draws(1, 1, 0), NO);
        s.due("no kinds, fall", Roads.road("place a 0;take 1;").draws(1, 1, 1), NO);
        s.due("one kind", Roads.road(Roads.same("a", 1, 0) + "take 1;").draws(1, 1, 0), 1);
    }

    private void number(WorstPlaces x) {
        s.says("0 KINDS, 1 PLACES, 2 NOTES, 3 by how many it is KNOWN, 4 KNOTS, 5 s, 6 m.");
        int[] want = {2, 4, 24, 24, 3, 5, 2};
        WorstPlaces full = Roads.road(Roads.lines("kind ", 5, " 1" + Roads.ZEROS) + Roads.lines("place ", 12, " 0;")
            + "take not 1" + "+1".repeat(31) + ";saves 9 8;");
        while (full.number(2) < 150) {
            full.note(0, 0, 0);
        }
        full.known(149);
        int[] most = {5, 12, 150, 149, 64, 9, 8};
        for (int what = 0; what <= 6; what++) {
            s.due("number(" + what + ")", x.number(what), want[what]);
            s.due("number(" + what + ") of the most", full.number(what), most[what]);
        }
        full.known(-1);
        s.due("by all", full.number(3), 150);
        s.says("NONE for another what.");
        only("what", 0, 6, -1, WorstPlaces::number);
        only(new WorstPlaces(), "what of a new object", 0, 6, -1, WorstPlaces::number);
    }
}
