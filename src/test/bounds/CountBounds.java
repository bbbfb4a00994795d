/** Terms: notes, likely, rate, span, worse, taken and law. */
final class CountBounds {
    private static final String MOST = "100*100*100*100*100*100";

    private final Sentences s;

    CountBounds(Sentences s) {
        this.s = s;
    }

    void run() {
        notes();
        strikes();
        likely();
        rate();
        span();
        worse();
        taken();
        values();
        errors();
        law();
    }

    private void notes() {
        s.says("NOTES, at most 150, numbered from 0 on:");
        WorstPlaces x = Roads.road("place a 0;");
        for (int i = 0; i < 149; i++) {
            s.due("note " + i, i % 2 == 0 ? x.note(0, 0, 1) : x.strike(0), i);
        }
        s.due("149 notes", x.number(2), 149);
        s.due("the 150th", x.note(0, 3, 3), 149);
        s.due("the 151st", x.note(0, 3, 4), -1);
        s.due("a strike as the 151st", x.strike(149), -1);
        s.due("150 notes", x.number(2), 150);
        s.due("the 150th is so", x.count(0, 3), 3);
        WorstPlaces y = Roads.road("place a 0;");
        for (int i = 0; i < 149; i++) {
            y.note(0, 0, i % 10);
        }
        s.due("a strike as the 150th", y.strike(148), 149);
        s.due("it counts", y.count(0, 0), 7);
        s.says("a COUNT 0 .. 9 of a PLACE in a YEAR 0 .. 8;");
        WorstPlaces z = Roads.road("place a 0;place b 0;");
        int next = 0;
        for (int place = -1; place <= 2; place++) {
            for (int year = -1; year <= 9; year++) {
                int count = year < 4 ? 0 : 9;
                boolean fine = place >= 0 && place <= 1 && year >= 0 && year <= 8;
                s.due("note(" + place + ", " + year + ", " + count + ")", z.note(place, year, count), fine ? next : -1);
                next += fine ? 1 : 0;
                s.due("count(" + place + ", " + year + ")", z.count(place, year), fine ? count : -1);
            }
        }
        s.due("count -1", z.note(0, 0, -1), -1);
        s.due("count 10", z.note(0, 0, 10), -1);
        s.due("18 notes", z.number(2), 18);
        s.says("a STRIKE of a NOTE.");
        s.due("note -1", z.strike(-1), -1);
        s.due("note 18, to come", z.strike(18), -1);
        s.due("note 17", z.strike(17), 18);
        s.due("it is struck", z.count(1, 8), -1);
        s.due("the one beside isn't", z.count(1, 7), 9);
        s.due("note 0", z.strike(0), 19);
        s.due("it is struck, too", z.count(0, 0), -1);
    }

    private void strikes() {
        s.says("KNOWN by n (all at first): the first n NOTES,");
        WorstPlaces x = Roads.road("place a 0;");
        Roads.notes(x, 0, 0, "123");
        s.due("all at first", x.number(3), 3);
        for (int n = 0; n <= 3; n++) {
            x.known(n);
            for (int year = 0; year < 3; year++) {
                s.due("by " + n + " in year " + year, x.count(0, year), year < n ? year + 1 : -1);
            }
        }
        s.says("without those STRUCK by one of these");
        WorstPlaces y = Roads.road("place a 0;");
        y.note(0, 0, 5);
        y.note(0, 1, 6);
        y.strike(0);
        int[] first = {-1, 5, 5, -1};
        for (int n = 0; n <= 3; n++) {
            y.known(n);
            s.due("by " + n, y.count(0, 0), first[n]);
            s.due("by " + n + ", the other", y.count(0, 1), n < 2 ? -1 : 6);
        }
        s.says("(a STRIKE may be STRUCK: then it doesn't count; asked from the last one on).");
        WorstPlaces z = Roads.road("place a 0;");
        z.note(0, 0, 4);
        for (int i = 1; i < 150; i++) {
            s.due("strike of the one ahead", z.strike(i - 1), i);
            s.due("after " + i + " strikes", z.count(0, 0), i % 2 == 0 ? 4 : -1);
        }
        WorstPlaces all = Roads.road("place a 0;");
        all.note(0, 0, 4);
        for (int i = 1; i < 150; i++) {
            all.strike(i - 1);
        }
        for (int n = 1; n <= 150; n++) {
            all.known(n);
            s.due("known by " + n, all.count(0, 0), n % 2 == 1 ? 4 : -1);
        }
        WorstPlaces two = Roads.road("place a 0;");
        two.note(0, 0, 4);
        two.strike(0);
        two.strike(0);
        two.strike(1);
        s.due("struck by another yet", two.count(0, 0), -1);
        two.strike(2);
        s.due("struck by none", two.count(0, 0), 4);
        s.says("Of a PLACE and YEAR the latest COUNT is so; without one it isn't known.");
        WorstPlaces late = Roads.road("place a 0;place b 0;");
        s.due("without", late.count(0, 0), -1);
        late.note(0, 0, 4);
        late.note(0, 0, 0);
        s.due("the latest is 0", late.count(0, 0), 0);
        s.due("another year", late.count(0, 1), -1);
        s.due("another place", late.count(1, 0), -1);
        late.strike(1);
        s.due("the one ahead", late.count(0, 0), 4);
        late.strike(0);
        s.due("without any more", late.count(0, 0), -1);
        allPlaces();
    }

    /** All places and years counted, one struck, and nothing known at last. */
    private void allPlaces() {
        WorstPlaces x = Roads.road(Roads.lines("place ", 12, " 0;"));
        for (int place = 0; place < 12; place++) {
            Roads.notes(x, place, 0, "123456789");
        }
        x.strike(107);
        for (int place = 0; place < 12; place++) {
            for (int year = 0; year < 9; year++) {
                s.due("place " + place + " in " + year, x.count(place, year), place == 11 && year == 8 ? -1 : year + 1);
            }
            s.due("place " + place + " in 9", x.count(place, 9), -1);
            s.due("place " + place + " in -1", x.count(place, -1), -1);
        }
        x.known(0);
        for (int place = 0; place < 12; place++) {
            for (int year = 0; year < 9; year++) {
                s.due("place " + place + " in " + year + ", nothing known", x.count(place, year), -1);
            }
        }
    }

    private void likely() {
        s.says("LIKELY of a KIND for a PLACE by YEARS a .. b (at most 6): its WEIGHT times, for each of these "
            + "YEARS of which the COUNT is KNOWN, how many of its FACES are that.");
        WorstPlaces x = Roads.road("kind a 7 0 0 0 1 1 1 1 1 2 2;" + Roads.same("b", 99, 3) + "place p 0;place q 0;");
        s.due("its weight alone", x.likely(0, 0, 0, 5), 7);
        x.note(0, 1, 0);
        x.note(0, 2, 1);
        x.note(0, 7, 2);
        x.note(0, 8, 1);
        s.due("one year ahead of them", x.likely(0, 0, 0, 0), 7);
        s.due("the first of them", x.likely(0, 0, 0, 1), 21);
        s.due("years 1 .. 6", x.likely(0, 0, 1, 6), 105);
        s.due("years 2 .. 6", x.likely(0, 0, 2, 6), 35);
        s.due("years 2 .. 7", x.likely(0, 0, 2, 7), 70);
        s.due("years 3 .. 8", x.likely(0, 0, 3, 8), 70);
        s.due("seven years", x.likely(0, 0, 1, 7), -1);
        s.due("a face that it hasn't", x.likely(1, 0, 0, 1), 0);
        Roads.notes(x, 1, 0, "333333");
        s.due("the most", x.likely(1, 1, 0, 5), 99000000);
        x.note(1, 5, 9);
        s.due("none of its faces", x.likely(1, 1, 0, 5), 0);
        s.due("without that", x.likely(1, 1, 0, 4), 9900000);
        x.known(0);
        s.due("nothing known", x.likely(1, 1, 0, 5), 99);
    }

    private void isRate(String what, WorstPlaces x, int a, int b, long above, long below) {
        s.due(what + ", above", x.rate(0, a, b, 0), above);
        s.due(what + ", below", x.rate(0, a, b, 1), below);
    }

    private void rate() {
        s.says("RATE: the sum of LIKELY times the sum of FACES, by 10 times the sum of LIKELY, in least terms (0 "
            + "by 0, if all LIKELY are 0).");
        WorstPlaces x = Roads.road("kind a 1 0 0 0 0 0 0 0 0 0 1;kind b 2 0 0 0 0 0 1 1 1 1 1;place p 0;");
        // 1 and 2 times 5, by 30.
        isRate("by weights", x, 0, 5, 11, 30);
        x.note(0, 0, 0);
        // 9 and 10 times 5, by 190.
        isRate("a zero", x, 0, 0, 59, 190);
        x.note(0, 1, 1);
        // 9 and 50 times 5, by 590.
        isRate("a zero and a one", x, 0, 1, 259, 590);
        isRate("the year of the zero alone", x, 0, 0, 59, 190);
        // 1 and 10 times 5, by 110.
        isRate("the year of the one alone", x, 1, 1, 51, 110);
        x.note(0, 2, 2);
        isRate("all are 0", x, 0, 2, 0, 0);
        isRate("without that year", x, 0, 1, 259, 590);
        isRate("no kinds", Roads.road("place p 0;"), 0, 5, 0, 0);
        isRate("zero in least terms", Roads.road(Roads.same("a", 99, 0) + "place p 0;"), 0, 5, 0, 1);
        isRate("nine in least terms", Roads.road(Roads.same("a", 99, 9) + "place p 0;"), 0, 5, 9, 1);
        WorstPlaces great = Roads.road(Roads.same("a", 99, 9) + "kind b 98 9 9 9 9 9 9 9 9 9 8;place p 0;");
        Roads.notes(great, 0, 0, "999999");
        // 99 times 10 to the 6 and 98 times 9 to the 6, times 90 and 89, by 10 times their sum.
        long one = 99L * 1000000;
        long other = 98L * 531441;
        long above = one * 90 + other * 89;
        long below = 10 * (one + other);
        long common = java.math.BigInteger.valueOf(above).gcd(java.math.BigInteger.valueOf(below)).longValue();
        isRate("great ones", great, 0, 5, above / common, below / common);
    }

    private void isSpan(String what, String kinds, int least, int greatest) {
        WorstPlaces x = Roads.road(kinds + "place p 0;");
        s.due(what + ", least", x.span(0, 0, 5, 0), least);
        s.due(what + ", greatest", x.span(0, 0, 5, 1), greatest);
    }

    private void span() {
        s.says("MEAN of a KIND: the sum of its FACES.");
        isSpan("the least mean", Roads.same("a", 1, 0), 0, 0);
        isSpan("the greatest mean", Roads.same("a", 1, 9), 90, 90);
        isSpan("a sum", "kind a 1 0 1 2 3 4 5 6 7 8 9;", 45, 45);
        s.says("SPAN: KINDS by LIKELY, the greatest first (of several the least number), as many till theirs are "
            + "19 of 20 of all at least: the least and the greatest MEAN of these.");
        isSpan("18 and 1", Roads.same("a", 1, 9) + Roads.same("b", 18, 0), 0, 90);
        isSpan("19 and 1", Roads.same("a", 1, 9) + Roads.same("b", 19, 0), 0, 0);
        isSpan("20 and 1", Roads.same("a", 1, 9) + Roads.same("b", 20, 0), 0, 0);
        isSpan("37 and 2", Roads.same("a", 37, 1) + Roads.same("b", 2, 0), 0, 10);
        isSpan("38 and 2", Roads.same("a", 38, 1) + Roads.same("b", 2, 0), 10, 10);
        String ends = Roads.same("z", 18, 5);
        isSpan("of 1 and 1 the first", ends + Roads.same("a", 1, 0) + Roads.same("b", 1, 9), 0, 50);
        isSpan("of 1 and 1 the other way", ends + Roads.same("b", 1, 9) + Roads.same("a", 1, 0), 50, 90);
        isSpan("of 1 and 1 ahead", Roads.same("b", 1, 9) + Roads.same("a", 1, 0) + ends, 50, 90);
        isSpan("all five", Roads.same("a", 9, 4) + Roads.same("b", 9, 1) + Roads.same("c", 9, 8) + Roads.same("d", 9, 2)
            + Roads.same("e", 9, 3), 10, 80);
        isSpan("none", "", -2, -2);
        WorstPlaces x = Roads.road("kind a 1 0 0 0 0 0 0 0 0 0 1;kind b 2 0 0 0 0 0 1 1 1 1 1;place p 0;");
        Roads.notes(x, 0, 0, "0111");
        // 9 beside 50: .847; 9 beside 250: .965.
        s.due("by two years, least", x.span(0, 0, 1, 0), 1);
        s.due("by two years, greatest", x.span(0, 0, 1, 1), 5);
        s.due("by three years, least", x.span(0, 0, 2, 0), 5);
        s.due("by three years, greatest", x.span(0, 0, 2, 1), 5);
    }

    private void isWorse(String what, WorstPlaces x, int one, int other, long above, long below) {
        s.due(what + ", above", x.worse(one, other, 0, 5, 0), above);
        s.due(what + ", below", x.worse(one, other, 0, 5, 1), below);
    }

    private void worse() {
        s.says("WORSE of two PLACES by the same YEARS: the sum of LIKELY times LIKELY of all two KINDS of which "
            + "the first one's MEAN is above the other's, by all, in least terms.");
        String places = "place p 0;place q 0;";
        String ten = Roads.same("b", 1, 1) + places;
        isWorse("means 10 and 10", Roads.road("kind a 1 0 0 0 0 0 0 0 0 1 9;" + ten), 0, 1, 0, 1);
        isWorse("means 9 and 10", Roads.road("kind a 1 0 0 0 0 0 0 0 0 1 8;" + ten), 0, 1, 1, 4);
        isWorse("means 11 and 10", Roads.road("kind a 1 0 0 0 0 0 0 0 0 2 9;" + ten), 0, 1, 1, 4);
        WorstPlaces x = Roads.road(Roads.same("a", 1, 0) + Roads.same("b", 2, 1) + Roads.same("c", 3, 2) + places);
        // 2 above 1 and 3 above 1 and 2: 2 and 9 of 36.
        isWorse("by weights", x, 0, 1, 11, 36);
        x.note(0, 3, 2);
        // c alone beside 1 and 2 and 3.
        isWorse("the first is the worst", x, 0, 1, 1, 2);
        isWorse("the other way", x, 1, 0, 0, 1);
        x.note(1, 4, 0);
        isWorse("surely", x, 0, 1, 1, 1);
        x.note(1, 5, 1);
        isWorse("all are 0", x, 0, 1, 0, 0);
        isWorse("all are 0, the other way", x, 1, 0, 0, 0);
        // c of 1 and 2 and 3 beside b alone.
        s.due("the same years alone, above", x.worse(0, 1, 5, 8, 0), 1);
        s.due("the same years alone, below", x.worse(0, 1, 5, 8, 1), 2);
        WorstPlaces great = Roads.road(Roads.same("a", 99, 9) + "kind b 99 9 9 9 9 9 9 9 9 9 8;" + places);
        Roads.notes(great, 0, 0, "999999");
        Roads.notes(great, 1, 0, "999999");
        // 10 to the 6 beside 9 to the 6: a above b alone.
        isWorse("great ones", great, 0, 1, 531441000000L, 1531441L * 1531441L);
    }

    private boolean takes(String rule, String counts) {
        WorstPlaces x = Roads.road("place a 7;take " + rule + ";");
        Roads.notes(x, 0, 0, counts);
        return x.taken(3) == 1;
    }

    private void yes(String rule) {
        s.due("take " + rule, takes(rule, "352"), true);
    }

    private void no(String rule) {
        s.due("take " + rule, takes(rule, "352"), false);
    }

    private void taken() {
        s.says("TAKEN in a YEAR y (3 .. 9): RULE's E isn't 0 by COUNTS of YEARS y less 3, 2, 1 (one, two, three; "
            + "sum, most, least of these; COUNTY):");
        WorstPlaces x = Roads.road("place a 7;place b 0;take one*100+two*10+three=county*0+456;");
        for (int first = 0; first <= 6; first++) {
            Roads.notes(x, 0, 0, "000000000");
            Roads.notes(x, 0, first, "456");
            for (int year = 2; year <= 10; year++) {
                int due = year == 2 || year == 10 ? -1 : year == first + 3 ? 1 : 0;
                s.due("456 from " + first + ", year " + year, x.taken(year), due);
            }
        }
        yes("one=3 and two=5 and three=2 and sum=10 and most=5 and least=2 and county=7");
        for (String counts : new String[] {"129", "192", "219", "291", "912", "921"}) {
            s.due("most and least of " + counts, takes("most=9 and least=1 and sum=12", counts), true);
        }
        s.due("all 0", takes("most=0 and least=0 and sum=0", "000"), true);
        s.due("all 9", takes("most=9 and least=9 and sum=27", "999"), true);
        yes("0-1");
        no("0");
        yes("1");
        WorstPlaces all = Roads.road(Roads.lines("place ", 12, " 0;") + "take 1;");
        for (int place = 0; place < 12; place++) {
            Roads.notes(all, place, 6, "000");
        }
        s.due("all twelve", all.taken(9), 4095);
        s.says("not without a RULE, with one of these not KNOWN, with an ERROR.");
        WorstPlaces none = Roads.road("place a 0;");
        Roads.notes(none, 0, 0, "999");
        s.due("without a rule", none.taken(3), 0);
        s.due("all known", takes("1", "000"), true);
        for (String counts : new String[] {".00", "0.0", "00.", "...", ""}) {
            s.due("known " + counts, takes("1", counts), false);
        }
        no("1/0");
        no("not(1/0)");
    }

    private void values() {
        s.says("VALUES are longs;");
        yes("999*999*999>999*999*998");
        yes("100*100*100*100*100=100*100*100*100*10*10");
        yes("256*256*256*128>0 and 256*256*256*128*2>0");
        no("256*256*256*256=0");
        yes("0-256*256*256*128*2<0");
        s.says("comparisons, and, or, not are 1 or 0 (what isn't 0 is as 1, both sides are worked out),");
        yes("(1<2)=1 and(1<=2)=1 and(1=1)=1 and(1<>2)=1 and(2>=1)=1 and(2>1)=1");
        yes("(2<1)=0 and(2<=1)=0 and(1=2)=0 and(1<>1)=0 and(1>=2)=0 and(1>2)=0");
        yes("(5 and 9)=1 and(5 and 0)=0 and(0 and 9)=0 and(0 and 0)=0");
        yes("(5 or 9)=1 and(5 or 0)=1 and(0 or 9)=1 and(0 or 0)=0");
        yes("(not 0)=1 and(not 1)=0 and(not 7)=0 and(not(0-1))=0");
        yes("((0-1)and(0-2))=1 and((0-1)or 0)=1");
        no("1 or 1/0");
        no("1/0 or 1");
        no("not(0 and 1/0)");
        no("not(1/0 and 0)");
        s.says("/ is cut towards 0;");
        yes("7/2=3 and 8/2=4 and 9/2=4");
        yes("(0-7)/2=0-3 and(0-8)/2=0-4 and(0-9)/2=0-4");
        yes("7/(0-2)=0-3 and(0-7)/(0-2)=3");
        yes("1/2=0 and(0-1)/2=0 and 0/5=0");
    }

    private void errors() {
        s.says("ERROR: / by 0, a value above 10 to the 12 or below 0 by more than that.");
        no("1 or 1/(one-3)");
        yes("1/(one-2)=1");
        yes("1/(one-4)=0-1");
        no("1 or 0/0");
        yes(MOST + ">0");
        no(MOST + "+1>0");
        yes(MOST + "-1+1>0");
        no(MOST + "+1-1>0");
        yes("0-" + MOST + "<0");
        no("0-" + MOST + "-1<0");
        no("0-1-" + MOST + "<0");
        no("1-" + MOST + "-2<0");
        yes("1-" + MOST + "-1<0");
        yes(MOST + "*1>0");
        yes(MOST + "*(0-1)<0");
        no(MOST + "*2>0");
        no(MOST + "*(0-2)<0");
        no("(0-" + MOST + ")*2<0");
        no("(0-" + MOST + ")*(0-2)>0");
        yes("(0-" + MOST + ")*(0-1)>0");
        yes(MOST + "*0=0");
        yes("0*" + MOST + "=0");
        yes("(0-" + MOST + ")/(0-1)>0");
        // A product that would wrap around a long to 0, to one within bounds, and one of the greatest two.
        for (int bits = 25; bits <= 39; bits++) {
            no("(" + power(bits) + ")*(" + power(64 - bits) + ")=0 or 1");
            no("(0-" + power(bits) + ")*(" + power(64 - bits) + ")=0 or 1");
        }
        no("256*256*256*256*(256*256*256*256+1)>0 or 1");
        no(MOST + "*(" + MOST + ")>0 or 1");
        // 999999 times 1000001 is 10 to the 12 less 1; 1000000 times 1000000 is that; the next is above.
        yes("(999*999+999+999+1-1)*(999*999+999+999+2)>0");
        yes("(999*999+999+999+1)*(999*999+999+999+1)=" + MOST);
        no("(999*999+999+999+1)*(999*999+999+999+2)>0");
        no("(0-(999*999+999+999+2))*(999*999+999+999+1)<0");
    }

    private static String power(int bits) {
        return "256*".repeat(bits / 8) + (1 << bits % 8);
    }

    private void isLaw(String what, WorstPlaces x, int county, long... want) {
        for (int i = 0; i < 5; i++) {
            s.due(what + ", " + i, x.law(county, i), want[i]);
        }
    }

    private void law() {
        String digits = "kind a 2 0 1 2 3 4 5 6 7 8 9;";
        s.says("LAW: of all three FACES one behind the other (1000 for a KIND, each its WEIGHT) those that the "
            + "RULE (with COUNTY c) would take:");
        isLaw("one alone", Roads.road(digits + "take one=1 and two=2 and three=3;"), 0, 2, 2000, 12, 270, -125);
        isLaw("all", Roads.road(digits + "take 1;"), 0, 2000, 2000, 27000, 270000, 0);
        isLaw("none", Roads.road(digits + "take 0;"), 0, 0, 2000, 0, 0, 0);
        isLaw("without a rule", Roads.road(digits), 0, 0, 2000, 0, 0, 0);
        isLaw("an error takes none", Roads.road(digits + "take 1/one;"), 0, 200, 2000, 2000, 27000, -35);
        WorstPlaces county = Roads.road(digits + "take county=9;");
        isLaw("county 9", county, 9, 2000, 2000, 27000, 270000, 0);
        isLaw("county 8", county, 8, 0, 2000, 0, 0, 0);
        isLaw("county 9 again", county, 9, 2000, 2000, 27000, 270000, 0);
        isLaw("without kinds", Roads.road("take 1;"), 0, 0, 0, 0, 0, 0);
        s.says("TAKES: their weights, of all;");
        isLaw("two kinds", Roads.road(Roads.same("a", 99, 9) + Roads.same("b", 1, 0) + "take sum=27;"), 0,
            99000, 100000, 2673000, 26730000, 0);
        s.says("HAD: weights times the sum of the three;");
        isLaw("one of ten", Roads.road("kind a 3 0 0 0 0 0 0 0 0 0 1;take sum=1;"), 0, 729, 3000, 729, 2187, 70);
        isLaw("three of ten", Roads.road("kind a 3 0 0 0 0 0 0 0 0 0 1;take sum=3;"), 0, 3, 3000, 9, 9, 90);
        s.says("HAS: weights times 3 times MEAN by 10.");
        isLaw("sums of 0", Roads.road("kind a 3 0 0 0 0 0 0 0 0 0 1;take sum=0;"), 0, 2187, 3000, 0, 6561, 0);
        isLaw("the most", Roads.road(Roads.same("a", 99, 9) + Roads.same("b", 99, 9) + Roads.same("c", 99, 9)
            + Roads.same("d", 99, 9) + Roads.same("e", 99, 9) + "take 1;"), 0, 495000, 495000, 13365000, 133650000, 0);
        s.says("LUCK: of 100 of HAD what HAS is less.");
        s.due("two nines", Roads.road(digits + "take one=9 and two=9;").law(0, 4), 40);
        s.due("a three first", Roads.road(digits + "take one=3;").law(0, 4), -12);
        s.due("all", Roads.road(digits + "take 1;").law(0, 4), 0);
    }
}
