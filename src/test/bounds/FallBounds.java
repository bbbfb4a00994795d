/** Terms: falls and their parts, lots, those chosen, and what a house puts beside what. */
final class FallBounds {
    private static final int BEFORE = 0;
    private static final int AFTER = 1;
    private static final int LUCK = 2;
    private static final int LAND = 3;
    private static final int WORKS = 4;
    private static final int BOX = 5;
    private static final int MOVED = 6;
    private static final int TRULY = 7;
    private static final int BACK = 8;
    // By three zeros they are 729 and 250 likely: a rate of 1979 by 9790.
    private static final String KINDS = "kind a 1 0 0 0 0 0 0 0 0 0 1;kind b 2 0 0 0 0 0 1 1 1 1 1;";

    private final Sentences s;

    FallBounds(Sentences s) {
        this.s = s;
    }

    void run() {
        isOne();
        back();
        land();
        works();
        moved();
        lot();
        lotOfMeans();
        chose();
        house();
        houseBeside();
    }

    /** Counts of each place from year 0 on, one text a place. */
    private static WorstPlaces road(String text, String... counts) {
        WorstPlaces x = Roads.road(text);
        for (int place = 0; place < counts.length; place++) {
            Roads.notes(x, place, 0, counts[place]);
        }
        return x;
    }

    private static String without(String counts, int year) {
        return counts.substring(0, year) + "." + counts.substring(year + 1);
    }

    private void isOne() {
        s.says("Of a PLACE with a BOX from b, b from 3 to 6, and COUNTS of YEARS b less 3 .. b and 2 all KNOWN:");
        s.due("without a box", road("place p 0;", "111111111").fall(0, BEFORE), Roads.NO);
        for (int b = 1; b <= 8; b++) {
            boolean fine = b >= 3 && b <= 6;
            String text = "place p 0 box " + b + ";";
            s.due("box " + b, road(text, "111111111").fall(0, BEFORE), fine ? 3 : Roads.NO);
            for (int year = 0; year <= 8 && fine; year++) {
                boolean needed = year >= b - 3 && year <= b + 2;
                WorstPlaces x = road(text, without("111111111", year));
                s.due("box " + b + " without year " + year, x.fall(0, AFTER), needed ? Roads.NO : 3);
            }
        }
        s.says("BEFORE, AFTER: sums of three;");
        for (int b = 3; b <= 6; b++) {
            WorstPlaces x = road("place p 0 box " + b + ";", "123456789");
            s.due("before " + b, x.fall(0, BEFORE), 3 * b - 3);
            s.due("after " + b, x.fall(0, AFTER), 3 * b + 6);
        }
        WorstPlaces ends = road("place p 0 box 3;place q 0 box 3;", "999000", "000999");
        s.due("the most before", ends.fall(0, BEFORE), 27);
        s.due("the least after", ends.fall(0, AFTER), 0);
        s.due("the least before", ends.fall(1, BEFORE), 0);
        s.due("the most after", ends.fall(1, AFTER), 27);
        s.says("FALL: BEFORE less AFTER.");
        s.due("27 less 0", road("place p 0 box 3;", "999000").chose(3, 0), 27);
        s.due("0 less 27", road("place p 0 box 3;", "000999").chose(3, 0), -27);
        s.due("3 less 3", road("place p 0 box 3;", "111111").chose(3, 0), 0);
    }

    private void back() {
        s.says("In thousandths: BACK: 3000 times RATE by the three YEARS ahead of b, cut");
        // 606.4 of three zeros, whatever stands ahead of these and behind.
        s.due("box 3", road(KINDS + "place p 0 box 3;", "000111111").fall(0, BACK), 606);
        s.due("box 4", road(KINDS + "place p 0 box 4;", "900091111").fall(0, BACK), 606);
        s.due("box 6", road(KINDS + "place p 0 box 6;", "111000111").fall(0, BACK), 606);
        s.due("the most", road(Roads.same("a", 1, 9) + "place p 0 box 3;", "999000").fall(0, BACK), 27000);
        s.due("the least", road(Roads.same("a", 1, 0) + "place p 0 box 3;", "000999").fall(0, BACK), 0);
        s.says("(1000 times BEFORE, if there is none).");
        s.due("one no kind deals", road(Roads.same("a", 1, 9) + "place p 0 box 3;", "998999").fall(0, BACK), 26000);
        s.due("all dealt", road(Roads.same("a", 1, 9) + "place p 0 box 3;", "999888").fall(0, BACK), 27000);
        s.due("no kinds", road("place p 0 box 3;", "123000").fall(0, BACK), 6000);
        s.due("no kinds, 0", road("place p 0 box 3;", "000999").fall(0, BACK), 0);
        s.says("LUCK: 1000 BEFORE less BACK.");
        s.due("below 0", road(KINDS + "place p 0 box 3;", "000111").fall(0, LUCK), -606);
        // 9 and 2 times 5 to the 3: 9 and 250 likely, 1259 by 2590 the rate, 1458.3 back.
        s.due("above 0", road(KINDS + "place p 0 box 3;", "011000").fall(0, LUCK), 2000 - 1458);
        s.due("none", road("place p 0 box 3;", "123000").fall(0, LUCK), 0);
    }

    private void land() {
        s.says("LAND: of PLACES without a BOX of which all six YEARS are KNOWN: all AFTER by all BEFORE;");
        String text = "place p 0 box 3;place q 0;place r 0;place s 0 box 8;";
        String[] counts = {"333000", "400200", "200100", "900000"};
        s.due("half of it", road(text, counts).fall(0, LAND), 4500);
        for (int year = 0; year <= 5; year++) {
            // Without q it is r alone, of which the half is left.
            WorstPlaces x = road(text, "333000", without("444000", year), "200100", "900000");
            s.due("q without year " + year, x.fall(0, LAND), 4500);
        }
        // 12 and 2 before, 1 after: 9000 times 1 by 14 is 642.8.
        s.due("with q", road(text, "333000", "444000", "200100", "900000").fall(0, LAND), 9000 - 642);
        s.due("years beyond", road(text, "333000", "400200999", "200100999", "900000").fall(0, LAND), 4500);
        s.due("the first place alone", road("place q 0;place p 0 box 3;", "400200", "333000").fall(1, LAND), 4500);
        s.due("the twelfth place alone", twelve().fall(0, LAND), 4500);
        s.due("none without a box", road("place p 0 box 3;place s 0 box 8;", "333000", "900000").fall(0, LAND), 0);
        s.says("LAND is BACK less BACK times that, cut");
        // 7 before, and 6, 7, 8 or none after.
        String two = "place p 0 box 3;place q 0;";
        s.due("the land falls", road(two, "010000", "700600").fall(0, LAND), 1000 - 857);
        s.due("the land stays", road(two, "010000", "700700").fall(0, LAND), 0);
        s.due("the land rises", road(two, "010000", "700800").fall(0, LAND), 1000 - 1142);
        s.due("all falls", road(two, "010000", "700000").fall(0, LAND), 1000);
        s.says("(0, if these BEFORE are 0).");
        s.due("0 before", road(two, "010000", "000900").fall(0, LAND), 0);
        s.due("1 before", road(two, "010000", "001900").fall(0, LAND), -8000);
        s.due("0 before and after", road(two, "010000", "000000").fall(0, LAND), 0);
    }

    /** Only the first, with 9 before, and the last one, with 2 before and 1 after, are known. */
    private static WorstPlaces twelve() {
        WorstPlaces x = Roads.road("place z 0 box 3;" + Roads.lines("place ", 11, " 0;"));
        Roads.notes(x, 0, 0, "333000");
        Roads.notes(x, 11, 0, "200100");
        return x;
    }

    private void works() {
        s.says("WORKS: (BACK less LAND) times the share by 10, cut, if they are in b .. b and 2.");
        for (int year = 0; year <= 8; year++) {
            WorstPlaces x = road(KINDS + "place p 0 box 4 works " + year + " 9;", "000000000");
            s.due("works in " + year, x.fall(0, WORKS), year >= 4 && year <= 6 ? 545 : 0);
        }
        s.due("share 0", road(KINDS + "place p 0 box 3 works 3 0;", "000000").fall(0, WORKS), 0);
        s.due("share 1", road(KINDS + "place p 0 box 3 works 3 1;", "000000").fall(0, WORKS), 60);
        s.due("without works", road(KINDS + "place p 0 box 3;", "000000").fall(0, WORKS), 0);
        String two = "place p 0 box 3 works 5 3;place q 0;";
        // 857 stay of 1000: 257.1; 1142 of 1000: 342.6.
        s.due("the land falls", road(two, "010000", "700600").fall(0, WORKS), 257);
        s.due("the land rises", road(two, "010000", "700800").fall(0, WORKS), 342);
        s.due("all falls", road(two, "010000", "700000").fall(0, WORKS), 0);
        s.says("BOX: 1000 FALL less LUCK, LAND, WORKS.");
        s.due("of the land that falls", road(two, "010000", "700600").fall(0, BOX), 1000 - 143 - 257);
        s.due("of the land that rises", road(two, "010000", "700800").fall(0, BOX), 1000 + 142 - 342);
        s.due("below 0", road(two, "010999", "700600").fall(0, BOX), -26000 - 143 - 257);
        s.due("with luck", road(KINDS + "place p 0 box 3;", "011000").fall(0, BOX), 2000 - 542);
    }

    private void moved() {
        s.says("MOVED: of the next PLACE, if it has no BOX by b and 2, and all six are KNOWN: 1000 times its AFTER "
            + "less (1000 times its BEFORE less LAND's part of that, likewise), 0 at least.");
        for (int box = 1; box <= 8; box++) {
            WorstPlaces x = road("place p 0 box 4;place q 0 box " + box + ";", "01000000", "0100020");
            s.due("the next box in " + box, x.fall(0, MOVED), box <= 6 ? 0 : 1000);
        }
        for (int year = 0; year <= 8; year++) {
            WorstPlaces x = road("place p 0 box 4;place q 0 box 8;", "111111111", without("111122222", year));
            s.due("the next without " + year, x.fall(0, MOVED), year >= 1 && year <= 6 ? 0 : 3000);
        }
        s.due("the last place", road("place q 0;place p 0 box 3;", "000999", "111111").fall(1, MOVED), 0);
        String two = "place p 0 box 3;place q 0 box 8;";
        s.due("less", road(two, "111111", "002001").fall(0, MOVED), 0);
        s.due("as many", road(two, "111111", "002002").fall(0, MOVED), 0);
        s.due("one more", road(two, "111111", "002003").fall(0, MOVED), 1000);
        s.due("the most", road(two, "111111", "000999").fall(0, MOVED), 27000);
        String three = "place p 0 box 3;place q 0;place r 0;";
        // The land: 9 before and 8 or 7 after: 2000 times 8 by 9 is 1777.7, times 7 by 9 is 1555.5.
        s.due("of a land that falls", road(three, "111111", "200300", "700500").fall(0, MOVED), 3000 - 1777);
        s.due("of one that falls more", road(three, "111111", "200200", "700500").fall(0, MOVED), 2000 - 1555);
        s.due("of one without a before", road(three, "111111", "000200", "000000").fall(0, MOVED), 2000);
        s.says("TRULY: BOX less MOVED.");
        s.due("nothing moved", road(two, "333111", "002002").fall(0, TRULY), 6000);
        s.due("some moved", road(two, "333111", "002005").fall(0, TRULY), 3000);
        s.due("more than all moved", road(two, "333111", "000999").fall(0, TRULY), -21000);
    }

    private void isLot(String what, WorstPlaces x, int county, int year, int... want) {
        for (int i = 0; i < 4; i++) {
            s.due(what + ", " + i, x.lot(county, year, i), want[i]);
        }
    }

    private void lot() {
        s.says("LOT in a COUNTY and a YEAR b (3 .. 6): PLACES by LOT of the COUNTY, all six YEARS KNOWN:");
        for (int b = 2; b <= 7; b++) {
            WorstPlaces x = road("place p 5 lot box " + b + ";place q 5 lot;", "999999990", "999999999");
            boolean fine = b >= 3 && b <= 6;
            // Only with b 6 the last year is one of the six.
            int below = fine ? 1 : Roads.NO;
            isLot("year " + b, x, 5, b, !fine ? Roads.NO : b == 6 ? 9 : 0, below, below, below);
        }
        String text = "place p 0 lot box 4;place q 0 lot;place r 1 lot box 4;place s 1 lot;place t 0 box 4;place u 0;";
        String[] counts = {"11110000", "11111110", "99990000", "91199990", "99990000", "99999990"};
        isLot("county 0", road(text, counts), 0, 4, 3, 1, 1, 1);
        isLot("county 1", road(text, counts), 1, 4, 43, 1, 1, 1);
        isLot("county 2", road(text, counts), 2, 4, 0, 0, 0, 0);
        for (int year = 0; year <= 7; year++) {
            boolean needed = year >= 1 && year <= 6;
            WorstPlaces first = road(text, without("11110000", year), "11111110");
            s.due("with a box, not year " + year, first.lot(0, 4, 2), needed ? 0 : 1);
            WorstPlaces second = road(text, "11110000", without("11111110", year));
            s.due("without one, not year " + year, second.lot(0, 4, 3), needed ? 0 : 1);
        }
        s.says("those with a BOX from b and those without one by b and 2:");
        for (int box = 1; box <= 8; box++) {
            WorstPlaces x = road("place p 0 lot box " + box + ";", "111111111");
            s.due("box " + box + ", with", x.lot(0, 4, 2), box == 4 ? 1 : 0);
            s.due("box " + box + ", without", x.lot(0, 4, 3), box > 6 ? 1 : 0);
        }
        s.due("no box, with", road("place p 0 lot;", "111111111").lot(0, 4, 2), 0);
        s.due("no box, without", road("place p 0 lot;", "111111111").lot(0, 4, 3), 1);
    }

    private void lotOfMeans() {
        String two = "place p 0 lot box 3;place q 0 lot;";
        s.says("what the mean FALL of the first is more than that of the others, in least terms, the lower one "
            + "above 0");
        isLot("more", road(two, "222111", "111111"), 0, 3, 3, 1, 1, 1);
        isLot("as much", road(two, "222111", "333222"), 0, 3, 0, 1, 1, 1);
        isLot("less", road(two, "222111", "333111"), 0, 3, -3, 1, 1, 1);
        isLot("one more", road(two, "001000", "000000"), 0, 3, 1, 1, 1, 1);
        isLot("one less", road(two, "000000", "001000"), 0, 3, -1, 1, 1, 1);
        isLot("the most", road(two, "999000", "000999"), 0, 3, 54, 1, 1, 1);
        isLot("the least", road(two, "000999", "999000"), 0, 3, -54, 1, 1, 1);
        String more = two + "place r 0 lot;place s 0 lot box 3;place t 0 lot box 3;";
        // Falls of 1, 1, 2 and 0, 1: four thirds less a half, and then more of the others.
        isLot("sixths", road(more, "001000", "000000", "001000", "001000", "002000"), 0, 3, 5, 6, 3, 2);
        isLot("sixths below 0", road(more, "001000", "003000", "002000", "001000", "002000"), 0, 3, -7, 6, 3, 2);
        isLot("a half less", road(more, "000000", "001000", "000000", "000000", "000000"), 0, 3, -1, 2, 3, 2);
        isLot("in least terms", road(more, "002000", "001000", "001000", "002000", "002000"), 0, 3, 1, 1, 3, 2);
        s.says("(0 by 0, if there are none of one of these).");
        isLot("none with", road(two, ".22111", "111111"), 0, 3, 0, 0, 0, 1);
        isLot("none without", road(two, "222111", ".11111"), 0, 3, 0, 0, 1, 0);
        isLot("none of both", road(two, ".22111", ".11111"), 0, 3, 0, 0, 0, 0);
    }

    private void isChose(String what, WorstPlaces x, int above, int below) {
        s.due(what + ", above", x.chose(3, 0), above);
        s.due(what + ", below", x.chose(3, 1), below);
    }

    private void chose() {
        s.says("CHOSE likewise: the mean FALL of all PLACES not by LOT with a BOX from b, all six YEARS KNOWN, "
            + "whatever the COUNTY.");
        String text = "place p 0 box 3;place q 9 box 3;place r 0 lot box 3;place s 0 box 4;place t 0;";
        String[] counts = {"001000", "002000", "999000", "999000", "999000"};
        isChose("a mean of two counties", road(text, counts), 3, 2);
        isChose("in least terms", road(text, "002000", "002000"), 2, 1);
        isChose("0 in least terms", road(text, "001000", "000001"), 0, 1);
        isChose("below 0", road(text, "000001", "000002"), -3, 2);
        isChose("a half", road(text, "001000", "000000"), 1, 2);
        isChose("a half below 0", road(text, "000001", "000000"), -1, 2);
        isChose("none", road(text, "", "", "999000", "999000", "999000"), 0, 0);
        for (int year = 0; year <= 8; year++) {
            WorstPlaces x = road(text, "001000", without("002000000", year));
            isChose("not year " + year, x, year <= 5 ? 1 : 3, year <= 5 ? 1 : 2);
        }
        for (int b = 2; b <= 7; b++) {
            WorstPlaces x = road("place p 0 box " + b + ";", "999999990");
            s.due("year " + b, x.chose(b, 0), b == 2 || b == 7 ? Roads.NO : b == 6 ? 9 : 0);
        }
    }

    private void isHouse(String what, WorstPlaces x, int... want) {
        for (int i = 0; i < 5; i++) {
            s.due(what + ", " + i, x.house(0, i), want[i]);
        }
    }

    private void house() {
        s.says("HOUSE: of a PLACE with a BOX from b: any L YEARS (1 .. 3) one behind the other that end ahead of b "
            + "beside any L that begin at b or later, all KNOWN,");
        s.due("without a box", road("place p 0;", "999999999").house(0, 0), Roads.NO);
        isHouse("box 1", road("place p 0 box 1;", "4...2"), 50, 50, 1, 0, 4);
        isHouse("box 8", road("place p 0 box 8;", ".......42"), 50, 50, 1, 7, 8);
        s.due("the first year behind is b", road("place p 0 box 4;", "4..42").house(0, 4), 4);
        s.due("the last year ahead is b less 1", road("place p 0 box 4;", "...42").house(0, 3), 3);
        s.due("none known ahead", road("place p 0 box 4;", "....22222").house(0, 0), Roads.NO);
        s.due("none known behind", road("place p 0 box 4;", "2222").house(0, 0), Roads.NO);
        isHouse("all known", road("place p 0 box 3;", "111001010"), 100, 0, 1, 0, 3);
        isHouse("the greatest year ahead", road("place p 0 box 2;", "19.1"), 88, 0, 1, 1, 3);
        // One year: 1 beside 9; three years: 0, 0, 1 beside 9, 9, 9, which is 27 by 1.
        isHouse("three are the least", road("place p 0 box 3;", "001999"), -800, -2600, 1, 2, 3);
        isHouse("two are the least", road("place p 0 box 2;", "0199"), -800, -1700, 1, 1, 2);
        // Four years are none: 0, 0, 0, 1 beside 9, 9, 9, 9 would be 36 by 1.
        isHouse("not four", road("place p 0 box 4;", "00019999"), -800, -2600, 1, 3, 4);
        isHouse("not over a gap", road("place p 0 box 3;", "0.19.9"), -800, -800, 1, 2, 3);
    }

    private void houseBeside() {
        s.says("the first ones' sum above 0:");
        s.due("0", road("place p 0 box 3;", "000999").house(0, 0), Roads.NO);
        s.due("1", road("place p 0 box 3;", "..1..1").house(0, 0), 0);
        s.due("0 and 1 together", road("place p 0 box 2;", "01.11").house(0, 1), -100);
        s.says("of 100 how much less, cut towards 0:");
        isHouse("all", road("place p 0 box 1;", "90"), 100, 100, 1, 0, 1);
        isHouse("66.6", road("place p 0 box 1;", "31"), 66, 66, 1, 0, 1);
        isHouse("none", road("place p 0 box 1;", "33"), 0, 0, 1, 0, 1);
        isHouse("-33.3", road("place p 0 box 1;", "34"), -33, -33, 1, 0, 1);
        isHouse("-166.6", road("place p 0 box 1;", "38"), -166, -166, 1, 0, 1);
        s.says("the greatest and the least of all these.");
        isHouse("of 3 beside 3, 2, 4", road("place p 0 box 1;", "3324"), 33, -33, 1, 0, 2);
        isHouse("of 3 beside 3", road("place p 0 box 2;", "3.3"), 0, 0, 1, 0, 2);
        isHouse("of 9, 3 beside 3", road("place p 0 box 3;", "9.33"), 66, 0, 1, 0, 3);
        isHouse("two years, the most", road("place p 0 box 2;", "5540"), 100, 20, 1, 0, 3);
        isHouse("of one alone", road("place p 0 box 8;", ".......19"), -800, -800, 1, 7, 8);
    }
}
