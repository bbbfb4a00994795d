/** Each promise of the document, by answers worked out by hand. */
public final class PromiseTests {
    private static int wrong = 0;
    private static int asked = 0;

    public static void main(String[] args) {
        newObject();
        feed();
        text();
        fault();
        faultInRules();
        faultOfLimits();
        named();
        look();
        note();
        strike();
        known();
        count();
        likely();
        rate();
        span();
        worse();
        taken();
        takenByRules();
        law();
        fall();
        fallOfNext();
        lot();
        chose();
        house();
        coin();
        poles();
        never();
        draws();
        number();
        System.out.println(asked + " answers, " + wrong + " of them not as due");
        if (wrong != 0) {
            System.exit(1);
        }
    }

    private static void due(String what, long got, long want) {
        asked++;
        if (got != want) {
            wrong++;
            System.out.println(what + " answered " + got + ", due is " + want);
        }
    }

    private static void due(String what, boolean got, boolean want) {
        due(what, got ? 1 : 0, want ? 1 : 0);
    }

    private static void newObject() {
        WorstPlaces x = new WorstPlaces();
        int[] numbers = {0, 0, 0, 0, 0, 5, 0};
        for (int i = 0; i < 7; i++) {
            due("1: number(" + i + ")", x.number(i), numbers[i]);
        }
        due("1: fault(0)", x.fault(0), 0);
        due("1: fault(1)", x.fault(1), -1);
        due("1: text(1)", x.text(1), -2);
        due("1: count", x.count(0, 0), -1);
        due("1: taken", x.taken(9), 0);
        due("1: law", x.law(9, 0), 0);
        due("1: poles(0)", x.poles(0, 1, 2), 0);
        due("1: poles(1)", x.poles(1, 0, 0), -1);
        due("1: never", x.never(), 0);
        due("1: draws", x.draws(0, 1, 0), Roads.NO);
        due("1: lot", x.lot(0, 3, 3), 0);
        due("1: chose", x.chose(3, 1), 0);
        due("1: coin", x.coin(0, 0), false);
        due("1: known(0)", x.known(0), true);
        due("1: strike", x.strike(0), -1);
        due("1: NONE", WorstPlaces.NONE, -1);
    }

    private static void feed() {
        WorstPlaces x = new WorstPlaces();
        for (int i = 1; i <= 30; i++) {
            due("2: feed", x.feed(0x20202020, 0x20202020, 0x20202020, 0x20202020, 0x20202020), 20 * i);
        }
        due("2: feed beyond 600", x.feed(0, 0, 0, 0, 0), -1);
        due("2: none came", x.text(601), -2);
        due("2: text of 600 blanks", x.text(600), 0);
        due("2: feed behind", x.feed(0x70, 0x6c616365, 0x20612031, 0x3b202020, 0x20202020), 20);
        due("2: bytes of 0", x.text(20), -1);
        due("2: at the first", x.fault(1), 0);
        due("2: highest first", x.feed(0x706c6163, 0x65206120, 0x373b2020, 0x20202020, 0x200a200a), 20);
        due("2: highest first, text", x.text(20), 1);
        due("2: highest first, county", x.look(0, 0), 7);
        x.feed(0x706c6163, 0x65206120, 0x373bff20, 0x20202020, 0x20202020);
        due("2: a byte above 127", x.text(20), -1);
        due("2: its place", x.fault(1), 10);
    }

    private static void text() {
        WorstPlaces x = Roads.road(Roads.ROAD);
        x.note(0, 0, 1);
        x.coin(0, 9);
        x.known(0);
        due("3: feed", Roads.feedAll(x, "place z 1;"), 20);
        due("3: too many", x.text(21), -2);
        due("3: below 0", x.text(-1), -2);
        due("3: the least int", x.text(Integer.MIN_VALUE), -2);
        due("3: the tape stays", Roads.feedAll(x, " "), 40);
        due("3: a fault", x.text(9), -1);
        due("3: the tape is empty behind a fault", x.text(1), -2);
        due("3: places stay", x.number(1), 4);
        due("3: notes stay", x.number(2), 1);
        due("3: known stays", x.number(3), 0);
        due("3: coin stays", x.look(0, 5), 9);
        due("3: the rule stays", x.number(4), 3);
        due("3: names stay", x.named(1, Roads.letters("s")), 3);
        due("3: no name of the faulty one", x.named(1, Roads.letters("z")), -1);
        due("3: a text", Roads.tell(x, "place z 1;place y 2;"), 2);
        due("3: the tape is empty", x.text(1), -2);
        due("3: no notes", x.number(2), 0);
        due("3: no coin", x.look(0, 5), 0);
        due("3: no kinds", x.number(0), 0);
        due("3: no rule", x.number(4), 0);
        due("3: saves as without", x.number(5), 5);
        due("3: moves as without", x.number(6), 0);
        x.note(0, 0, 1);
        due("3: all known", x.number(3), 1);
        Roads.feedAll(x, "place z 1;");
        due("3: text(0)", x.text(0), 0);
        due("3: text(0) empties the tape", x.text(10), -2);
        due("3: text(0) has no places", x.number(1), 0);
        due("3: blanks alone", Roads.tell(x, " \n  \n"), 0);
        due("3: blanks anywhere", Roads.tell(x, "\nplace\na\n0\nbox 3 ; take(one)>=2 ;\n "), 2);
        due("3: no blanks needed", Roads.tell(x, "place a0box3lot;saves 1 2;take 1or 0;"), 3);
        due("3: no blanks, box", x.look(0, 2), 3);
        due("3: no blanks, knots", x.number(4), 3);
        due("3: names of kinds and places", Roads.tell(x, "kind a 1" + Roads.ZEROS + "place a 1;"), 2);
    }

    private static void fails(String text, int fault, int place) {
        WorstPlaces x = new WorstPlaces();
        String shown = text.length() > 60 ? text.substring(0, 60) + ".." : text;
        due("4: text " + shown, Roads.tell(x, text), -1);
        due("4: fault of " + shown, x.fault(0), fault);
        due("4: place of " + shown, x.fault(1), place);
    }

    private static void fine(String text, int lines) {
        WorstPlaces x = new WorstPlaces();
        due("4: text " + text, Roads.tell(x, text), lines);
        due("4: no fault in " + text, x.fault(0), 0);
        due("4: no place in " + text, x.fault(1), -1);
    }

    private static void fault() {
        fails("kind", 1, 4);
        fails("kind  ", 1, 6);
        fails("place a 0", 1, 9);
        fails("Kind a", 1, 0);
        fails("\tplace a 0;", 1, 0);
        fails("5;", 1, 0);
        fails(";", 1, 0);
        fails("box 3;", 1, 0);
        fails("place a 0;;", 1, 10);
        fails("place a 0 kind", 1, 10);
        fails("place a 0 b", 1, 10);
        fails("place lot 0;", 1, 6);
        fails("place county 0;", 1, 6);
        fails("place 7 0;", 1, 6);
        fails("place abcdefg 0;", 1, 6);
        fails("place a <", 1, 8);
        fails("place a 10;", 2, 8);
        fails("place a 99999999999999999999999999;", 2, 8);
        fails("place a 0 box;", 1, 13);
        fails("place a 0 box 0;", 2, 14);
        fails("place a 0 box 9;", 2, 14);
        fails("place a 0 works 9 0;", 2, 16);
        fails("place a 0 works 8 10;", 2, 18);
        fails("place a 0 works 8;", 1, 17);
        fails("place a 0 lot box 3 lot;", 3, 20);
        fails("place a 0 box 3 box 4;", 3, 16);
        fails("place a 0 works 0 0 works 0 0;", 3, 20);
        fails("place a 0 lot lot", 3, 14);
        fails("place a 0;place a 1;", 3, 16);
        fails("kind a 0 1", 2, 7);
        fails("kind a 100 1", 2, 7);
        fails("kind a 1 0 0 0 0 0 0 0 0 0 10;", 2, 27);
        fails("kind a 1 0 0 0 0 0 0 0 0 0;", 1, 26);
        fails("kind a 1 0 0 0 0 0 0 0 0 0 0 0;", 1, 29);
        fails("kind a 1" + Roads.ZEROS + "kind a 1" + Roads.ZEROS, 3, 34);
        fails("saves 1;", 1, 7);
        fails("saves 10 0;", 2, 6);
        fails("saves 9 10;", 2, 8);
        fails("saves 1 1;saves", 3, 10);
        fails("take 1;take", 3, 7);
        fine("place a 0 works 0 0 lot box 8;", 1);
        fine("place abcdef 009;", 1);
        fine("kind a 99 9 9 9 9 9 9 9 9 9 9;kind b 1" + Roads.ZEROS, 2);
        fine("saves 9 9;place lots 0;place boxes 1;", 3);
        WorstPlaces x = new WorstPlaces();
        Roads.tell(x, "kind");
        x.text(-1);
        due("4: -2 is not the latest", x.fault(1), 4);
        due("4: another what", x.fault(2), -1);
        due("4: what below", x.fault(-1), -1);
        x.text(0);
        due("4: the latest", x.fault(0), 0);
        cutOff();
        due("4: the latest has no place", x.fault(1), -1);
    }

    /** What stands on the tape behind the text is none of it. */
    private static void cutOff() {
        String[] fed = {"take 1<=2;", "place ab 1;", "place a 12;", "place a 0  ;"};
        int[] cuts = {7, 7, 9, 10};
        for (int i = 0; i < fed.length; i++) {
            WorstPlaces x = new WorstPlaces();
            Roads.feedAll(x, fed[i]);
            due("4: cut off " + fed[i], x.text(cuts[i]), -1);
            due("4: fault cut off " + fed[i], x.fault(0), 1);
            due("4: place cut off " + fed[i], x.fault(1), cuts[i]);
        }
        WorstPlaces x = new WorstPlaces();
        due("4: a rule cut off", Roads.tell(x, "take not 1+2*"), -1);
        due("4: another rule", Roads.tell(x, "place a 0;take one>0;"), 2);
        due("4: another rule, knots", x.number(4), 3);
        Roads.notes(x, 0, 0, "111");
        due("4: another rule, taken", x.taken(3), 1);
    }

    private static void faultInRules() {
        fails("take;", 1, 4);
        fails("take", 1, 4);
        fails("take kind;", 1, 5);
        fails("take x;", 1, 5);
        fails("take 1000;", 2, 5);
        fails("take 1+99999999999999999999;", 2, 7);
        fails("take ();", 1, 6);
        fails("take 1);", 1, 6);
        fails("take (1;", 1, 7);
        fails("take (1", 1, 7);
        fails("take 1 2;", 1, 7);
        fails("take 1 one;", 1, 7);
        fails("take 1(2);", 1, 6);
        fails("take -1;", 1, 5);
        fails("take not;", 1, 8);
        fails("take 1 not 2;", 1, 7);
        fails("take 1+not 2;", 1, 7);
        fails("take 1*not 2;", 1, 7);
        fails("take 1<not 2;", 1, 7);
        fails("take 1< =2;", 1, 8);
        fails("take 1<>=2;", 1, 8);
        fails("take 1=>2;", 1, 7);
        fails("take 1><2;", 1, 7);
        fails("take 1==2;", 1, 7);
        fails("take 1<2=3;", 1, 8);
        fails("take 1<2+3<4;", 1, 10);
        fails("take (1<2)<3<4;", 1, 12);
        fails("take 1 and or 2;", 1, 11);
        fails("take 1!2;", 1, 6);
        fine("take 1<2 and 3<4 or not 5<>6;", 1);
        fine("take (1<2)=(3<4);", 1);
        fine("take not not(not 1)and not county;", 1);
        fine("take 0999-one*(two/three);", 1);
        fails("take (((((((((1)))))))));", 2, 13);
        fails("take ((((((((1))))))))+((((((((2))))))))+(((((((((3", 2, 49);
        fine("take ((((((((1))))))))+((((((((2))))))));", 1);
    }

    private static void faultOfLimits() {
        String more = "+1".repeat(31);
        WorstPlaces x = Roads.road("take not 1" + more + ";");
        due("4: 64 knots", x.number(4), 64);
        fails("take 1" + more + "+1;", 2, 5 + 64);
        fails("take not not 1" + more + ";", 2, 14 + 61);
        fails("take not 1" + more + "<1;", 2, 10 + 62);
        fails("take not 1" + more + " and 1;", 2, 10 + 63);
        fails("take not 1" + more + " kind;", 1, 10 + 63);
        fails("take 1" + more + "+(1);", 2, 6 + 64);
        fails("take not not 1" + "+1".repeat(30) + "+1000;", 2, 14 + 61);
        fails("take not 1" + more + ") ;", 1, 10 + 62);
        StringBuilder kinds = new StringBuilder();
        for (char c = 'a'; c <= 'e'; c++) {
            kinds.append("kind ").append(c).append(" 1").append(Roads.ZEROS);
        }
        fine(kinds.toString(), 5);
        fails(kinds + "kind a", 2, kinds.length());
        StringBuilder places = new StringBuilder();
        for (char c = 'a'; c <= 'l'; c++) {
            places.append("place ").append(c).append(" 1;");
        }
        fine(places.toString(), 12);
        fails(places + " place m 0;", 2, places.length() + 1);
    }

    private static void named() {
        WorstPlaces x = Roads.road("kind a 1" + Roads.ZEROS + "kind zzzzzz 1" + Roads.ZEROS
            + "place b 0;place a 0;place abcdef 0;");
        due("5: kind a", x.named(0, 1 << 25), 0);
        due("5: kind zzzzzz", x.named(0, Roads.letters("zzzzzz")), 1);
        due("5: place a", x.named(1, Roads.letters("a")), 1);
        due("5: place abcdef", x.named(1, Roads.letters("abcdef")), 2);
        due("5: place abcde", x.named(1, Roads.letters("abcde")), -1);
        due("5: kind b", x.named(0, Roads.letters("b")), -1);
        due("5: what 2", x.named(2, Roads.letters("a")), -1);
        due("5: what -1", x.named(-1, Roads.letters("a")), -1);
        due("5: no letters", x.named(1, 0), -1);
        due("5: bits above", x.named(1, 1 << 30 | 1 << 25), -1);
        due("5: low letters", x.named(1, 1), -1);
    }

    private static void look() {
        WorstPlaces x = Roads.road("place a 9 works 0 7;place b 0 box 8 lot;");
        int[] first = {9, 0, 0, 0, 7, 0};
        int[] second = {0, 1, 8, -1, 0, 31};
        x.coin(1, 31);
        for (int what = 0; what < 6; what++) {
            due("6: look(0, " + what + ")", Roads.looked(x, 0, what), first[what]);
            due("6: look(1, " + what + ")", Roads.looked(x, 1, what), second[what]);
        }
        due("6: no such place", Roads.looked(x, 2, 0), Roads.NO_PLACE);
        due("6: place below", Roads.looked(x, -1, 0), Roads.NO_PLACE);
        due("6: no such what", Roads.looked(x, 0, 6), Roads.NO_WHAT);
        due("6: what below", Roads.looked(x, 0, -1), Roads.NO_WHAT);
        due("6: neither", Roads.looked(x, 2, 6), Roads.NO_PLACE);
        due("6: a new object", Roads.looked(new WorstPlaces(), 0, 0), Roads.NO_PLACE);
    }

    private static void note() {
        WorstPlaces x = Roads.road("place a 0;place b 0;");
        due("7: first", x.note(0, 0, 0), 0);
        due("7: second", x.note(1, 8, 9), 1);
        due("7: no place", x.note(2, 0, 0), -1);
        due("7: place below", x.note(-1, 0, 0), -1);
        due("7: year 9", x.note(0, 9, 0), -1);
        due("7: year below", x.note(0, -1, 0), -1);
        due("7: count 10", x.note(0, 0, 10), -1);
        due("7: count below", x.note(0, 0, -1), -1);
        for (int i = 2; i < 150; i++) {
            due("7: note", x.note(0, 1, i % 10), i);
        }
        due("7: 150", x.note(0, 1, 0), -1);
        due("7: 150, number", x.number(2), 150);
        due("7: 150, the last one is so", x.count(0, 1), 9);
    }

    private static void strike() {
        WorstPlaces x = Roads.road("place a 0;");
        due("8: no note", x.strike(0), -1);
        x.note(0, 0, 4);
        x.note(0, 0, 5);
        due("8: strike", x.strike(1), 2);
        due("8: the one ahead is so", x.count(0, 0), 4);
        due("8: strike all", x.strike(0), 3);
        due("8: none", x.count(0, 0), -1);
        due("8: strike a strike", x.strike(2), 4);
        due("8: struck strike", x.count(0, 0), 5);
        due("8: strike that strike", x.strike(4), 5);
        due("8: the first strike again", x.count(0, 0), -1);
        due("8: strike twice", x.strike(1), 6);
        due("8: strike one of two", x.strike(2), 7);
        due("8: the other stands", x.count(0, 0), -1);
        due("8: itself to come", x.strike(8), -1);
        due("8: below", x.strike(-1), -1);
        x.known(1);
        due("8: a note beyond those known", x.strike(7), 8);
        due("8: not by it", x.count(0, 0), 4);
        while (x.number(2) < 150) {
            x.note(0, 1, 1);
        }
        due("8: 150", x.strike(0), -1);
    }

    private static void known() {
        WorstPlaces x = Roads.road("place a 0;");
        x.note(0, 0, 4);
        x.note(0, 0, 5);
        x.strike(0);
        x.strike(1);
        int[] by = {-1, 4, 5, 5, -1};
        for (int n = 0; n <= 4; n++) {
            due("9: known(" + n + ")", x.known(n), true);
            due("9: by " + n, x.count(0, 0), by[n]);
            due("9: number by " + n, x.number(3), n);
        }
        due("9: beyond", x.known(5), false);
        due("9: below", x.known(-2), false);
        due("9: stays", x.number(3), 4);
        x.note(0, 0, 7);
        due("9: one to come doesn't count", x.count(0, 0), -1);
        due("9: known by four yet", x.number(3), 4);
        due("9: by all", x.known(-1), true);
        due("9: by all, count", x.count(0, 0), 7);
        x.note(0, 0, 8);
        due("9: those to come", x.count(0, 0), 8);
        due("9: as many", x.number(3), 6);
    }

    private static void count() {
        WorstPlaces x = Roads.road("place a 0;place b 0;");
        x.note(0, 8, 0);
        x.note(1, 0, 9);
        due("10: 0 is a count", x.count(0, 8), 0);
        due("10: 9", x.count(1, 0), 9);
        due("10: unknown", x.count(0, 0), -1);
        due("10: year 9", x.count(0, 9), -1);
        due("10: year below", x.count(1, -1), -1);
        due("10: no place", x.count(2, 0), -1);
        due("10: place below", x.count(-1, 8), -1);
    }

    /** Three kinds of means 1, 5, 15 and weights 1, 2, 3. */
    private static WorstPlaces threeKinds() {
        return Roads.road("kind a 1 0 0 0 0 0 0 0 0 0 1;kind b 2 0 0 0 0 0 1 1 1 1 1;kind c 3 1 1 1 1 1 2 2 2 2 2;"
            + "place p 0;place q 0;");
    }

    private static void likely() {
        WorstPlaces x = threeKinds();
        due("11: weight alone", x.likely(2, 0, 0, 5), 3);
        x.note(0, 2, 0);
        due("11: a", x.likely(0, 0, 0, 5), 9);
        due("11: b", x.likely(1, 0, 2, 2), 10);
        due("11: c", x.likely(2, 0, 2, 2), 0);
        due("11: outside of the years", x.likely(2, 0, 3, 8), 3);
        due("11: the other place", x.likely(2, 1, 0, 5), 3);
        x.note(0, 7, 1);
        due("11: two years", x.likely(1, 0, 2, 7), 50);
        due("11: seven years", x.likely(1, 0, 2, 8), -1);
        due("11: backwards", x.likely(1, 0, 3, 2), -1);
        due("11: year 9", x.likely(1, 0, 4, 9), -1);
        due("11: year below", x.likely(1, 0, -1, 2), -1);
        due("11: extremes", x.likely(1, 0, Integer.MIN_VALUE, Integer.MAX_VALUE), -1);
        due("11: no kind", x.likely(3, 0, 0, 0), -1);
        due("11: kind below", x.likely(-1, 0, 0, 0), -1);
        due("11: no place", x.likely(0, 2, 0, 0), -1);
    }

    private static void isRate(String what, WorstPlaces x, int place, int a, int b, long above, long below) {
        due(what + ", above", x.rate(place, a, b, 0), above);
        due(what + ", below", x.rate(place, a, b, 1), below);
    }

    private static void rate() {
        WorstPlaces x = threeKinds();
        isRate("12: no counts", x, 0, 0, 0, 14, 15);
        x.note(0, 0, 0);
        isRate("12: one", x, 0, 0, 5, 59, 190);
        x.note(0, 1, 1);
        isRate("12: two", x, 0, 0, 5, 259, 590);
        // 1, 10 and 15 are likely: 1 and 50 and 225 by 260.
        isRate("12: the second alone", x, 0, 1, 5, 69, 65);
        x.note(0, 2, 9);
        isRate("12: what no kind deals", x, 0, 0, 5, 0, 0);
        due("12: what 2", x.rate(0, 0, 5, 2), -1);
        due("12: what below", x.rate(0, 0, 5, -1), -1);
        due("12: no place", x.rate(2, 0, 5, 0), -1);
        due("12: years", x.rate(0, 0, 6, 0), -1);
        due("12: years backwards", x.rate(0, 5, 4, 0), -1);
        WorstPlaces zero = Roads.road("kind a 7" + Roads.ZEROS + "place p 0;");
        isRate("12: 0 in least terms", zero, 0, 3, 8, 0, 1);
        isRate("12: no kinds", Roads.road("place p 0;"), 0, 0, 0, 0, 0);
    }

    private static void isSpan(String what, WorstPlaces x, int place, int a, int b, int low, int high) {
        due(what + ", least", x.span(place, a, b, 0), low);
        due(what + ", greatest", x.span(place, a, b, 1), high);
    }

    private static void span() {
        WorstPlaces x = threeKinds();
        isSpan("13: no counts", x, 0, 0, 5, 1, 15);
        x.note(0, 0, 0);
        isSpan("13: 10 and 9", x, 0, 0, 5, 1, 5);
        x.note(0, 1, 1);
        isSpan("13: 50 and 9", x, 0, 0, 5, 1, 5);
        x.note(0, 2, 1);
        isSpan("13: 250 and 9", x, 0, 0, 5, 5, 5);
        x.note(0, 3, 9);
        isSpan("13: all 0", x, 0, 0, 5, -2, -2);
        due("13: what 2", x.span(0, 0, 5, 2), -1);
        due("13: no place", x.span(2, 0, 5, 0), -1);
        due("13: years", x.span(0, 0, 6, 0), -1);
        String ones = " 1 1 1 1 1 1 1 1 1 1;";
        String twos = " 2 2 2 2 2 2 2 2 2 2;";
        isSpan("13: 19 of 20", Roads.road("kind a 1" + ones + "kind b 19" + Roads.ZEROS + "place p 0;"), 0, 0, 0, 0, 0);
        isSpan("13: 18 of 19", Roads.road("kind a 1" + ones + Roads.same("b", 18, 0) + "place p 0;"), 0, 0, 0, 0, 10);
        String tie = "kind a 1" + twos + "kind b 1" + Roads.ZEROS + "kind c 18" + ones + "place p 0;";
        isSpan("13: of several the least number", Roads.road(tie), 0, 0, 0, 10, 20);
        String first = "kind c 18" + ones + "kind a 1" + twos + "kind b 1" + Roads.ZEROS + "place p 0;";
        isSpan("13: each once", Roads.road(first), 0, 0, 0, 10, 20);
        isSpan("13: no kinds", Roads.road("place p 0;"), 0, 0, 0, -2, -2);
    }

    private static void isWorse(String what, WorstPlaces x, int one, int other, long above, long below) {
        due(what + ", above", x.worse(one, other, 0, 5, 0), above);
        due(what + ", below", x.worse(one, other, 0, 5, 1), below);
    }

    private static void worse() {
        WorstPlaces x = threeKinds();
        isWorse("14: no counts", x, 0, 1, 11, 36);
        x.note(0, 0, 0);
        // 9, 10, 0 beside 1, 2, 3: only b above a.
        isWorse("14: one count", x, 0, 1, 5, 57);
        // c above a and b: 3 times 19; b above a: 2 times 9.
        isWorse("14: the other way", x, 1, 0, 25, 38);
        x.note(1, 1, 9);
        isWorse("14: all are 0", x, 0, 1, 0, 0);
        due("14: one place alone", x.worse(0, 0, 0, 5, 0), -1);
        due("14: no place", x.worse(0, 2, 0, 5, 0), -1);
        due("14: no first place", x.worse(-1, 1, 0, 5, 0), -1);
        due("14: what 2", x.worse(0, 1, 0, 5, 2), -1);
        due("14: years", x.worse(0, 1, 0, 6, 0), -1);
        WorstPlaces same = Roads.road("kind a 1 0 0 0 0 0 0 0 0 0 2;kind b 1 1 1 0 0 0 0 0 0 0 0;place p 0;place q 0;");
        WorstPlaces down = Roads.road("kind a 1 0 0 0 0 0 0 0 0 0 2;kind b 2 0 0 0 0 0 0 0 0 0 1;place p 0;place q 0;");
        isWorse("14: the first kind above", down, 0, 1, 2, 9);
        isWorse("14: equal means aren't above", same, 0, 1, 0, 1);
    }

    private static void taken() {
        WorstPlaces x = Roads.road("place a 0;place b 1;place c 0;take one=1 and two=2 and three=3 or county*sum>20;");
        Roads.notes(x, 0, 0, "123");
        Roads.notes(x, 1, 0, "999.99999");
        Roads.notes(x, 2, 5, ".123");
        due("15: year 3", x.taken(3), 3);
        due("15: year 4", x.taken(4), 0);
        due("15: year 7", x.taken(7), 2);
        due("15: year 9", x.taken(9), 6);
        due("15: year 2", x.taken(2), -1);
        due("15: year 10", x.taken(10), -1);
        due("15: least int", x.taken(Integer.MIN_VALUE), -1);
        x.strike(2);
        due("15: one isn't known", x.taken(3), 2);
        WorstPlaces any = Roads.road("place a 0;place b 0;place c 0;place d 0;take 1;");
        Roads.notes(any, 0, 0, ".11");
        Roads.notes(any, 1, 0, "1.1");
        Roads.notes(any, 2, 0, "11.");
        Roads.notes(any, 3, 0, "111");
        due("15: all three must be known", any.taken(3), 8);
        due("15: without a rule", Roads.road("place a 0;").taken(3), 0);
    }

    private static void takes(String rule, boolean want) {
        WorstPlaces x = Roads.road("place a 7;take " + rule + ";");
        Roads.notes(x, 0, 0, "352");
        due("15: " + rule, x.taken(3), want ? 1 : 0);
    }

    private static void takenByRules() {
        takes("one=3 and two=5 and three=2 and sum=10 and most=5 and least=2 and county=7", true);
        takes("1", true);
        takes("0", false);
        takes("999", true);
        takes("0-5", true);
        takes("1 or 0 and 0", true);
        takes("(1 or 0)and 0", false);
        takes("not 0 and 0", false);
        takes("not(0 and 0)", true);
        takes("not 1<2", false);
        takes("not not 5=1", false);
        takes("(not not 5)=1", true);
        takes("(5 and 9)=1", true);
        takes("(0 or 9)=1", true);
        takes("2+3*4=14", true);
        takes("9-5-3=1", true);
        takes("9/2/2=2", true);
        takes("9/2*2=8", true);
        takes("(0-7)/2=0-3", true);
        takes("7/(0-2)=0-3", true);
        takes("3<3", false);
        takes("3<=3", true);
        takes("3>=3", true);
        takes("3>3", false);
        takes("3<>3", false);
        takes("3<>4", true);
        takes("2>1", true);
        takes("1/0", false);
        takes("1 or 1/0", false);
        takes("not(1/0)", false);
        takes("0 and 1/0", false);
        takes("1/(one-3)", false);
        takes("100*100*100*100*100*100=1", false);
        takes("100*100*100*100*100*100>0", true);
        takes("100*100*100*100*100*100+1>0", false);
        takes("0-100*100*100*100*100*100<0", true);
        takes("0-100*100*100*100*100*100-1<0", false);
        takes("100*100*100*100*100*100*2/2>0", false);
        takes("(0-100*100*100*100*100*100)*2<0", false);
        takes("(0-100*100*100*100*100*100)*1<0", true);
        takes("(100*100*100*100*100*100)*(0-1)<0", true);
        takes("100*100*100*100*100*100*(100*100*100*100*100*100)>0 or 1", false);
        takes("100*100*100*100*100*100*0=0", true);
        takes("999*999*999*999>0", true);
        takes("(256*256*256*256)*(256*256*256*256)=0", false);
        takes("(128*128*128*128*128)*(512*512*512*4)=0", false);
        takes("not ".repeat(63) + "0", true);
        takes("not ".repeat(63) + "1", false);
        takes("not(".repeat(8) + "not ".repeat(55) + "0" + ")".repeat(8), true);
        takes("not(".repeat(8) + "not ".repeat(54) + "0" + ")".repeat(8), false);
        takes("(1<2)=1 and(1<=2)=1 and(1=1)=1 and(1<>2)=1 and(2>=1)=1 and(2>1)=1", true);
        takes("(2<1)=0 and(2<=1)=0 and(1=2)=0 and(1<>1)=0 and(1>=2)=0 and(1>2)=0", true);
        takes("(not 0)=1 and(not 7)=0 and(0 or 0)=0 and(7 and 0)=0", true);
        takes("999*999*999*999*2>0", false);
    }

    private static void isLaw(String what, WorstPlaces x, int county, long... want) {
        for (int i = 0; i < 5; i++) {
            due(what + ", " + i, x.law(county, i), want[i]);
        }
    }

    private static void law() {
        String kind = "kind a 2 0 1 2 3 4 5 6 7 8 9;";
        isLaw("16: two nines", Roads.road(kind + "take one=9 and two=9;"), 0, 20, 2000, 450, 2700, 40);
        WorstPlaces x = Roads.road(kind + "take one=county;");
        isLaw("16: county 3", x, 3, 200, 2000, 2400, 27000, -12);
        isLaw("16: county 9", x, 9, 200, 2000, 3600, 27000, 25);
        isLaw("16: county 3 again", x, 3, 200, 2000, 2400, 27000, -12);
        isLaw("16: far below 0", Roads.road(kind + "take sum=1;"), 0, 6, 2000, 6, 810, -1250);
        isLaw("16: an error takes none", Roads.road(kind + "take 9/(one-one)+1;"), 0, 0, 2000, 0, 0, 0);
        isLaw("16: without a rule", Roads.road(kind), 0, 0, 2000, 0, 0, 0);
        WorstPlaces zero = Roads.road(Roads.same("a", 5, 0) + Roads.same("b", 3, 0) + "take 1;");
        isLaw("16: all zero", zero, 9, 8000, 8000, 0, 0, 0);
        WorstPlaces order = Roads.road("kind a 1 0 0 0 0 0 0 0 0 0 1;take one<two and two=three;");
        isLaw("16: the order counts", order, 0, 9, 1000, 18, 27, 85);
        due("16: county 10", x.law(10, 0), -1);
        due("16: county below", x.law(-1, 0), -1);
        due("16: what 5", x.law(0, 5), -1);
        due("16: what below", x.law(0, -1), -1);
        Roads.tell(x, "kind a 1" + Roads.ZEROS + "take 1;");
        isLaw("16: of the new text", x, 3, 1000, 1000, 0, 0, 0);
    }

    private static void isFall(String what, WorstPlaces x, int place, int... want) {
        for (int i = 0; i < 9; i++) {
            due(what + ", " + i, x.fall(place, i), want[i]);
        }
    }

    private static void fall() {
        WorstPlaces x = Roads.road(Roads.ROAD);
        Roads.notes(x, 0, 0, "123111");
        Roads.notes(x, 1, 0, "101110");
        Roads.notes(x, 2, 0, "222101");
        Roads.notes(x, 3, 0, "212112");
        isFall("17: p", x, 0, 6, 3, -1500, 1072, 0, 3428, 286, 3142, 7500);
        isFall("17: r", x, 2, 6, 2, -930, 990, 2970, 970, 0, 970, 6930);
        due("17: no box", x.fall(1, 0), Roads.NO);
        due("17: no place", x.fall(4, 0), Roads.NO);
        due("17: place below", x.fall(-1, 0), Roads.NO);
        due("17: what 9", x.fall(0, 9), Roads.NO);
        due("17: what below", x.fall(0, -1), Roads.NO);
        x.known(23);
        due("17: the land without one not known", x.fall(0, 3), 0);
        x.known(5);
        due("17: not all known", x.fall(0, 0), Roads.NO);
        for (int from = 1; from <= 8; from++) {
            WorstPlaces y = Roads.road("place a 0 box " + from + ";");
            Roads.notes(y, 0, 0, "111111111");
            due("17: box from " + from, y.fall(0, 0), from >= 3 && from <= 6 ? 3 : Roads.NO);
        }
        WorstPlaces none = Roads.road("kind a 1" + Roads.ZEROS + "place a 0 box 3;");
        Roads.notes(none, 0, 0, "000000");
        isFall("17: all zero", none, 0, 0, 0, 0, 0, 0, 0, 0, 0, 0);
    }

    /** No kind deals these counts, so BACK is 1000 BEFORE. */
    private static WorstPlaces pair(String works, String next) {
        WorstPlaces x = Roads.road("kind z 1 9 9 9 9 9 9 9 9 9 9;place a 0 box 3" + works + ";place b 0" + next + ";");
        Roads.notes(x, 0, 0, "444222");
        Roads.notes(x, 1, 0, "112321");
        return x;
    }

    private static void fallOfNext() {
        isFall("17: the land rises", pair(" works 5 3", ""), 0, 12, 6, 0, -6000, 5400, 6600, 0, 6600, 12000);
        isFall("17: the next box is late", pair(" works 3 3", " box 6"), 0, 12, 6, 0, 0, 3600, 2400, 2000, 400, 12000);
        isFall("17: the next box is there", pair(" works 5 3", " box 5"), 0, 12, 6, 0, 0, 3600, 2400, 0, 2400, 12000);
        isFall("17: works behind", pair(" works 6 3", " box 5"), 0, 12, 6, 0, 0, 0, 6000, 0, 6000, 12000);
        isFall("17: works ahead", pair(" works 2 3", " box 1"), 0, 12, 6, 0, 0, 0, 6000, 0, 6000, 12000);
        WorstPlaces x = pair("", " box 6");
        x.strike(11);
        isFall("17: the next isn't known", x, 0, 12, 6, 0, 0, 0, 6000, 0, 6000, 12000);
        WorstPlaces last = Roads.road("place b 0;place a 0 box 3;");
        Roads.notes(last, 0, 0, "000321");
        Roads.notes(last, 1, 0, "444222");
        isFall("17: before of the land is 0", last, 1, 12, 6, 0, 0, 0, 6000, 0, 6000, 12000);
        WorstPlaces ahead = Roads.road("place b 0;place a 0 box 3;");
        Roads.notes(ahead, 0, 0, "211100");
        Roads.notes(ahead, 1, 0, "444222");
        isFall("17: the land from the first place on", ahead, 1, 12, 6, 0, 9000, 0, -3000, 0, -3000, 12000);
        WorstPlaces zero = Roads.road("place a 0 box 3;place b 0;");
        Roads.notes(zero, 0, 0, "444222");
        Roads.notes(zero, 1, 0, "000321");
        isFall("17: all that is there has moved", zero, 0, 12, 6, 0, 0, 0, 6000, 6000, 0, 12000);
    }

    private static void lot() {
        WorstPlaces x = Roads.road("place a 1 lot box 4;place b 1 lot;place c 1 lot box 7;place d 1 lot box 6;"
            + "place e 2 lot;place f 1 box 4;place g 1;place h 1 lot;");
        Roads.notes(x, 0, 1, "333111");
        Roads.notes(x, 1, 1, "111112");
        Roads.notes(x, 2, 1, "221111");
        Roads.notes(x, 3, 1, "999000");
        Roads.notes(x, 4, 1, "999000");
        Roads.notes(x, 5, 1, "999000");
        Roads.notes(x, 6, 1, "999000");
        Roads.notes(x, 7, 1, "99900.");
        int[] want = {11, 2, 1, 2};
        for (int what = 0; what < 4; what++) {
            due("18: lot(1, 4, " + what + ")", x.lot(1, 4, what), want[what]);
        }
        due("18: none with a box, above", x.lot(2, 4, 0), 0);
        due("18: none with a box, below", x.lot(2, 4, 1), 0);
        due("18: none with a box", x.lot(2, 4, 2), 0);
        due("18: one without", x.lot(2, 4, 3), 1);
        due("18: county 9", x.lot(9, 6, 3), 0);
        due("18: not all known", x.lot(1, 3, 2), 0);
        due("18: county 10", x.lot(10, 4, 0), Roads.NO);
        due("18: county below", x.lot(-1, 4, 0), Roads.NO);
        due("18: year 2", x.lot(1, 2, 0), Roads.NO);
        due("18: year 7", x.lot(1, 7, 0), Roads.NO);
        due("18: what 4", x.lot(1, 4, 4), Roads.NO);
        due("18: what below", x.lot(1, 4, -1), Roads.NO);
        WorstPlaces less = Roads.road("place a 0 lot box 3;place b 0 lot box 3;place c 0 lot;");
        Roads.notes(less, 0, 0, "111112");
        Roads.notes(less, 1, 0, "111111");
        Roads.notes(less, 2, 0, "111110");
        due("18: below 0, above", less.lot(0, 3, 0), -3);
        due("18: below 0, below", less.lot(0, 3, 1), 2);
        WorstPlaces same = Roads.road("place a 0 lot box 3;place b 0 lot;place c 0 lot;");
        Roads.notes(same, 0, 0, "111111");
        Roads.notes(same, 1, 0, "222222");
        Roads.notes(same, 2, 0, "000000");
        due("18: no more, above", same.lot(0, 3, 0), 0);
        due("18: no more, below", same.lot(0, 3, 1), 1);
    }

    private static void chose() {
        WorstPlaces x = Roads.road("place a 1 box 5;place b 2 box 5;place c 3 lot box 5;place d 1 box 4;"
            + "place e 1;place f 0 box 5;");
        Roads.notes(x, 0, 2, "321100");
        Roads.notes(x, 1, 2, "000010");
        Roads.notes(x, 2, 2, "999000");
        Roads.notes(x, 3, 1, "1111111");
        Roads.notes(x, 4, 2, "999000");
        Roads.notes(x, 5, 2, "999.00");
        due("19: above", x.chose(5, 0), 2);
        due("19: below", x.chose(5, 1), 1);
        due("19: no fall, above", x.chose(4, 0), 0);
        due("19: no fall, below", x.chose(4, 1), 1);
        due("19: none, above", x.chose(3, 0), 0);
        due("19: none, below", x.chose(3, 1), 0);
        due("19: year 2", x.chose(2, 0), Roads.NO);
        due("19: year 7", x.chose(7, 0), Roads.NO);
        due("19: what 2", x.chose(5, 2), Roads.NO);
        due("19: what below", x.chose(5, -1), Roads.NO);
        x.note(0, 2, 0);
        due("19: a half, above", x.chose(5, 0), 1);
        due("19: a half, below", x.chose(5, 1), 2);
        x.note(1, 7, 9);
        due("19: below 0, above", x.chose(5, 0), -4);
        due("19: below 0, below", x.chose(5, 1), 1);
    }

    private static void isHouse(String what, WorstPlaces x, int... want) {
        for (int i = 0; i < 5; i++) {
            due(what + ", " + i, x.house(0, i), want[i]);
        }
    }

    private static void house() {
        WorstPlaces x = Roads.road("place a 0 box 3;place b 0;");
        Roads.notes(x, 0, 0, "123111");
        isHouse("20: one year", x, 66, 0, 1, 2, 3);
        x.note(0, 3, 2);
        isHouse("20: another", x, 66, -100, 1, 2, 4);
        due("20: no box", x.house(1, 0), Roads.NO);
        due("20: no place", x.house(2, 0), Roads.NO);
        due("20: place below", x.house(-1, 0), Roads.NO);
        due("20: what 5", x.house(0, 5), Roads.NO);
        due("20: what below", x.house(0, -1), Roads.NO);
        WorstPlaces zero = Roads.road("place a 0 box 2;");
        Roads.notes(zero, 0, 0, "001");
        due("20: sums of 0 ahead", zero.house(0, 0), Roads.NO);
        Roads.notes(zero, 0, 0, "03");
        isHouse("20: cut towards 0", zero, 66, 66, 1, 1, 2);
        Roads.notes(zero, 0, 2, "8");
        isHouse("20: below 0, cut towards 0", zero, -166, -166, 1, 1, 2);
        WorstPlaces tie = Roads.road("place a 0 box 3;");
        Roads.notes(tie, 0, 0, "222111111");
        isHouse("20: of several the first", tie, 50, 50, 1, 0, 3);
        WorstPlaces longer = Roads.road("place a 0 box 3;");
        Roads.notes(longer, 0, 0, "055.21");
        isHouse("20: one behind the other", longer, 80, 40, 1, 1, 5);
        Roads.notes(longer, 0, 0, ".1");
        isHouse("20: lengths", longer, 80, -200, 1, 2, 5);
        WorstPlaces two = Roads.road("place a 0 box 2;");
        Roads.notes(two, 0, 0, "1030");
        isHouse("20: one year alone", two, 100, -200, 1, 0, 3);
        WorstPlaces zeros = Roads.road("place a 0 box 3;");
        Roads.notes(zeros, 0, 0, "001999");
        isHouse("20: three years", zeros, -800, -2600, 1, 2, 3);
        WorstPlaces last = Roads.road("place a 0 box 8;");
        Roads.notes(last, 0, 7, "42");
        isHouse("20: box 8", last, 50, 50, 1, 7, 8);
        WorstPlaces first = Roads.road("place a 0 box 1;");
        Roads.notes(first, 0, 0, "4.......4");
        isHouse("20: box 1", first, 0, 0, 1, 0, 8);
        WorstPlaces three = Roads.road("place a 0 box 3;");
        Roads.notes(three, 0, 0, "12.34");
        three.note(0, 2, 9);
        isHouse("20: unlike years", three, 66, -300, 1, 2, 3);
    }

    private static void coin() {
        WorstPlaces x = Roads.road("place a 0;place b 0;");
        due("21: coin", x.coin(1, 99), true);
        due("21: look", x.look(1, 5), 99);
        due("21: 0", x.coin(0, 0), true);
        due("21: 100", x.coin(1, 100), false);
        due("21: below", x.coin(1, -1), false);
        due("21: stays", x.look(1, 5), 99);
        due("21: no place", x.coin(2, 1), false);
        due("21: place below", x.coin(-1, 1), false);
        due("21: anew", x.coin(1, 3), true);
        due("21: anew, look", x.look(1, 5), 3);
    }

    private static void isPoles(String what, WorstPlaces x, int k, int by, int bits, int saved, int brought) {
        due(what + ", bits", x.poles(k, by, 0), bits);
        due(what + ", saved", x.poles(k, by, 1), saved);
        due(what + ", brought", x.poles(k, by, 2), brought);
    }

    /** Kinds that deal one face alone make rates of 1000, 2000, 3000 and 1000. */
    private static WorstPlaces fourRates(String saves) {
        WorstPlaces x = Roads.road(Roads.same("a", 1, 1) + Roads.same("b", 1, 2) + Roads.same("c", 1, 3)
            + "place p 0;place q 0;place r 0;place s 0;" + saves);
        Roads.notes(x, 0, 0, "1");
        Roads.notes(x, 1, 0, "2");
        Roads.notes(x, 2, 0, "3");
        Roads.notes(x, 3, 0, "1");
        return x;
    }

    private static void poles() {
        WorstPlaces x = fourRates("saves 5 5;");
        isPoles("22: none", x, 0, 0, 0, 0, 0);
        isPoles("22: one", x, 1, 0, 4, 750, 0);
        // q and r save 1000 and 750, r and s 1500 and 500.
        isPoles("22: two beside each other", x, 2, 0, 12, 2000, 0);
        isPoles("22: three", x, 3, 0, 14, 3000, 0);
        isPoles("22: all", x, 4, 0, 15, 3500, 0);
        isPoles("22: of several the least bits", x, 2, 1, 3, 1000, 0);
        due("22: k 5", x.poles(5, 0, 0), -1);
        due("22: k below", x.poles(-1, 0, 0), -1);
        due("22: by 2", x.poles(1, 2, 0), -1);
        due("22: by below", x.poles(1, -1, 0), -1);
        due("22: what 3", x.poles(1, 0, 3), -1);
        due("22: what below", x.poles(1, 0, -1), -1);
        x.coin(1, 4);
        x.coin(3, 9);
        isPoles("22: coin, one", x, 1, 1, 8, 500, 9);
        isPoles("22: coin, two", x, 2, 1, 10, 1000, 13);
        isPoles("22: lives and coin", x, 3, 0, 14, 3000, 13);
        WorstPlaces plain = fourRates("");
        isPoles("22: 5 and 0 without", plain, 1, 0, 4, 1500, 0);
        WorstPlaces none = fourRates("saves 0 0;");
        isPoles("22: nothing is saved", none, 3, 0, 7, 0, 0);
        WorstPlaces cut = Roads.road("kind a 1 1 1 1 1 1 1 1 1 1 1;kind b 2 0 0 0 0 0 0 0 0 0 1;"
            + "place p 0;place q 0;saves 7 3;");
        // (10 + 2 * 1) by 10 * 3 is 0.4; with a 1 it is (10 * 10 + 2 * 1) by 10 * 12, 850 thousandths.
        cut.note(1, 5, 1);
        isPoles("22: cut", cut, 1, 0, 2, 595, 0);
        isPoles("22: cut, both", cut, 2, 0, 3, 875, 0);
        cut.note(0, 5, 1);
        isPoles("22: cut, moved", cut, 1, 0, 2, 595, 0);
        cut.coin(0, 1);
        isPoles("22: cut, moved away", cut, 1, 1, 1, 595 - 178, 1);
        polesOfYears();
    }

    private static void polesOfYears() {
        WorstPlaces x = Roads.road("kind a 1 1 1 1 1 1 1 1 1 1 1;kind b 1 2 2 2 2 2 2 2 2 2 2;place p 0;place q 0;");
        x.known(-1);
        isPoles("22: without counts", x, 1, 0, 1, 0, 0);
        x.note(0, 2, 2);
        isPoles("22: a count", x, 1, 0, 1, 1000, 0);
        x.note(1, 7, 1);
        isPoles("22: six years", x, 1, 0, 1, 1000, 0);
        x.note(1, 8, 1);
        isPoles("22: seven years back", x, 1, 0, 1, 750, 0);
        isPoles("22: seven years back, both", x, 2, 0, 3, 1250, 0);
        x.note(0, 8, 9);
        isPoles("22: 0 by 0", x, 1, 0, 2, 500, 0);
    }

    private static void never() {
        WorstPlaces x = fourRates("take sum>=6;");
        due("23: no boxes", x.never(), 0);
        String kinds = "kind a 1 1 1 1 1 1 1 1 1 1 1;kind b 1 2 2 2 2 2 2 2 2 2 2;kind c 1 3 3 3 3 3 3 3 3 3 3;";
        x = Roads.road(kinds + "place p 0;place q 0 box 8;place r 0 box 1;place s 0;place t 0;take sum>=9;");
        Roads.notes(x, 0, 6, "222");
        Roads.notes(x, 1, 6, "111");
        Roads.notes(x, 2, 6, "333");
        Roads.notes(x, 3, 6, "333");
        Roads.notes(x, 4, 6, "111");
        due("23: above some, not taken", x.never(), 1);
        x.note(3, 8, 9);
        due("23: 0 by 0 isn't above", x.never(), 1);
        x.strike(15);
        x.strike(9);
        due("23: taken no more", x.never(), 9);
        x.known(0);
        due("23: nothing known", x.never(), 0);
        WorstPlaces close = Roads.road("kind a 1 0 0 0 0 0 0 0 0 0 0;place p 0;place q 0 box 1;");
        Roads.notes(close, 0, 0, "0");
        due("23: the same isn't above", close.never(), 0);
        WorstPlaces begin = Roads.road(kinds + "place p 0 box 2;place q 0;");
        Roads.notes(begin, 0, 6, "1");
        Roads.notes(begin, 1, 6, "2");
        due("23: a box at the first place", begin.never(), 2);
        WorstPlaces nothing = Roads.road("kind a 1" + Roads.ZEROS + "place p 0;place q 0 box 1;");
        Roads.notes(nothing, 0, 0, "5");
        Roads.notes(nothing, 1, 0, "0");
        due("23: 0 by 0 beside 0", nothing.never(), 0);
        WorstPlaces without = Roads.road(kinds + "place p 0;place q 0 box 8;");
        Roads.notes(without, 0, 6, "333");
        Roads.notes(without, 1, 6, "111");
        due("23: without a rule", without.never(), 1);
    }

    private static void isDraws(String what, WorstPlaces x, int seed, int many, int taken, int fallen) {
        due(what + ", taken", x.draws(seed, many, 0), taken);
        due(what + ", fall", x.draws(seed, many, 1), fallen);
    }

    private static void draws() {
        WorstPlaces x = Roads.road(Roads.ROAD);
        isDraws("24: one", x, 1, 1, 0, 0);
        isDraws("24: two", x, 1, 2, 1, 3);
        isDraws("24: seven", x, 7, 1, 0, 0);
        isDraws("24: a hundred", x, 7, 100, 24, 8);
        isDraws("24: five hundred", x, 12345, 500, 107, 16);
        isDraws("24: seed 0", x, 0, 500, 112, 39);
        isDraws("24: the greatest seed", x, 2147483647, 500, 116, 40);
        due("24: none", x.draws(1, 0, 0), Roads.NO);
        due("24: 501", x.draws(1, 501, 0), Roads.NO);
        due("24: seed below", x.draws(-1, 1, 0), Roads.NO);
        due("24: the least seed", x.draws(Integer.MIN_VALUE, 1, 0), Roads.NO);
        due("24: what 2", x.draws(1, 1, 2), Roads.NO);
        due("24: what below", x.draws(1, 1, -1), Roads.NO);
        due("24: no kinds", Roads.road("take 1;").draws(1, 1, 0), Roads.NO);
        isDraws("24: without a rule", Roads.road("kind a 1" + Roads.ZEROS), 1, 500, 0, 0);
        isDraws("24: county 0", Roads.road("kind a 1" + Roads.ZEROS + "take county=0;"), 1, 500, 500, 0);
        isDraws("24: errors", Roads.road("kind a 1" + Roads.ZEROS + "take 1/one;"), 1, 500, 0, 0);
    }

    private static void number() {
        WorstPlaces x = Roads.road(Roads.ROAD);
        x.note(0, 0, 0);
        x.strike(0);
        x.known(1);
        int[] want = {2, 4, 2, 1, 3, 5, 2};
        for (int what = 0; what < 7; what++) {
            due("25: number(" + what + ")", x.number(what), want[what]);
        }
        due("25: what 7", x.number(7), -1);
        due("25: what below", x.number(-1), -1);
        due("25: knots without brackets", Roads.road("take (one+(2))*((3))<>1;").number(4), 7);
        due("25: not and or", Roads.road("take not one and two or not three;").number(4), 7);
        WorstPlaces y = Roads.road("saves 9 8;");
        due("25: s", y.number(5), 9);
        due("25: m", y.number(6), 8);
    }
}
