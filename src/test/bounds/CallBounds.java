/** Promises 1 to 10: what a call answers, what it refuses, and what then stays as it was. */
final class CallBounds {
    private static final int BLANK = 0x20202020;

    private final Sentences s;

    CallBounds(Sentences s) {
        this.s = s;
    }

    void run() {
        s.part("Promise 1: A new object", "Promise 2: feed");
        newObject();
        s.part("Promise 2: feed", "Promise 3: text");
        feed();
        s.part("Promise 3: text", "Promise 4: fault");
        text();
        textFails();
        s.part("Promise 4: fault", "Promise 5: named");
        fault();
        s.part("Promise 5: named", "Promise 6: look");
        named();
        s.part("Promise 6: look", "Promise 7: note");
        look();
        s.part("Promise 7: note", "Promise 8: strike");
        note();
        s.part("Promise 8: strike", "Promise 9: known");
        strike();
        s.part("Promise 9: known", "Promise 10: count");
        known();
        s.part("Promise 10: count", "Promise 11: likely");
        count();
    }

    /** The common road with counts, a strike, coin, and not all of it known. */
    private static WorstPlaces used() {
        WorstPlaces x = Roads.road(Roads.ROAD);
        Roads.notes(x, 0, 0, "123111");
        Roads.notes(x, 1, 0, "101110");
        x.strike(2);
        x.strike(12);
        x.coin(2, 44);
        x.known(13);
        return x;
    }

    private void newObject() {
        s.says("No TEXT, NOTES, COIN;");
        WorstPlaces x = new WorstPlaces();
        int[] numbers = {0, 0, 0, 0, 0, 5, 0};
        for (int what = 0; what <= 6; what++) {
            s.due("number(" + what + ")", x.number(what), numbers[what]);
        }
        s.due("fault(0)", x.fault(0), 0);
        s.due("fault(1)", x.fault(1), -1);
        s.due("named", x.named(0, 0), -1);
        s.due("look", Roads.looked(x, 0, 5), Roads.NO_PLACE);
        s.due("note", x.note(0, 0, 0), -1);
        s.due("strike", x.strike(0), -1);
        s.due("known(0)", x.known(0), true);
        s.due("known(1)", x.known(1), false);
        s.due("count", x.count(0, 0), -1);
        s.due("likely", x.likely(0, 0, 0, 0), -1);
        s.due("rate", x.rate(0, 0, 0, 0), -1);
        s.due("span", x.span(0, 0, 0, 0), -1);
        s.due("worse", x.worse(0, 1, 0, 0, 0), -1);
        s.due("taken", x.taken(9), 0);
        s.due("law", x.law(0, 1), 0);
        s.due("fall", x.fall(0, 0), Roads.NO);
        s.due("lot", x.lot(0, 3, 0), 0);
        s.due("chose", x.chose(3, 0), 0);
        s.due("house", x.house(0, 0), Roads.NO);
        s.due("coin", x.coin(0, 0), false);
        s.due("poles(0)", x.poles(0, 0, 0), 0);
        s.due("poles(1)", x.poles(1, 0, 0), -1);
        s.due("never", x.never(), 0);
        s.due("draws", x.draws(1, 1, 0), Roads.NO);
        s.says("an empty TAPE.");
        s.due("text(1)", x.text(1), -2);
        s.due("text(0)", x.text(0), 0);
        s.due("feed", x.feed(BLANK, BLANK, BLANK, BLANK, BLANK), 20);
        WorstPlaces none = new WorstPlaces();
        none.known(0);
        s.due("text(0) of another", none.text(0), 0);
        WorstPlaces one = new WorstPlaces();
        WorstPlaces other = new WorstPlaces();
        Roads.feedAll(one, "place a 0;");
        s.due("one object's tape is no other's", other.text(1), -2);
    }

    private void feed() {
        s.says("Twenty bytes come behind the TAPE, four of each number, the highest first:");
        WorstPlaces x = new WorstPlaces();
        x.feed(0x706c6163, 0x65206120, 0x373b706c, 0x61636520, 0x62203820);
        x.feed(0x626f7820, 0x333b2020, BLANK, BLANK, 0x2020200a);
        s.due("place a 7;place b 8 box 3;", x.text(40), 2);
        s.due("county of a", x.look(0, 0), 7);
        s.due("county of b", x.look(1, 0), 8);
        s.due("box of b", x.look(1, 2), 3);
        for (int at = 0; at < 20; at++) {
            WorstPlaces y = new WorstPlaces();
            int[] w = {BLANK, BLANK, BLANK, BLANK, BLANK};
            // A blank made the highest byte, 0xff, which is below 0 in Java.
            w[at / 4] |= 0xff << 24 - at % 4 * 8;
            y.feed(w[0], w[1], w[2], w[3], w[4]);
            s.due("a byte of 255 at " + at, y.text(20), -1);
            s.due("its place", y.fault(1), at);
        }
        s.says("how many it has;");
        WorstPlaces full = new WorstPlaces();
        for (int i = 1; i <= 29; i++) {
            s.due("feed " + i, full.feed(BLANK, BLANK, BLANK, BLANK, BLANK), 20 * i);
        }
        s.says("NONE, and none come, if it would have more than 600.");
        s.due("600", full.feed(BLANK, BLANK, BLANK, BLANK, BLANK), 600);
        s.due("620", full.feed(0x61616161, 0, 0, 0, 0), -1);
        s.due("again", full.feed(0x61616161, 0, 0, 0, 0), -1);
        s.due("text(601)", full.text(601), -2);
        s.due("none came", full.text(600), 0);
        s.due("empty again", full.feed(BLANK, BLANK, BLANK, BLANK, BLANK), 20);
    }

    private void text() {
        s.says("The TAPE's first n bytes (it is empty then) are the TEXT");
        String tape = "place a 7;place b 8;";
        for (int n = 0; n <= 20; n++) {
            WorstPlaces x = new WorstPlaces();
            Roads.feedAll(x, tape);
            boolean fine = n == 0 || n == 10 || n == 20;
            s.due("text(" + n + ")", x.text(n), fine ? n / 10 : -1);
            s.due("places by text(" + n + ")", x.number(1), fine ? n / 10 : 0);
            s.due("empty behind text(" + n + ")", x.text(1), -2);
            s.due("fed behind text(" + n + ")", Roads.feedAll(x, " "), 20);
        }
        // What stands behind the first n would make another number, name or sign of the last one.
        String[] cuts = {"place a 12;", "place a 1box 12;", "saves 1 12;", "place ab 0;", "take 1<=2;", "take 1<>2;"};
        int[] firsts = {9, 14, 9, 7, 7, 7};
        for (int i = 0; i < cuts.length; i++) {
            WorstPlaces x = new WorstPlaces();
            Roads.feedAll(x, cuts[i]);
            s.due("text(" + firsts[i] + ") of " + cuts[i], x.text(firsts[i]), -1);
            s.due("its fault", x.fault(0), 1);
            s.due("its place", x.fault(1), firsts[i]);
        }
        String whole = Roads.lines("place ", 12, " 0;") + " ".repeat(479) + "\n";
        s.due("600 bytes", Roads.tell(new WorstPlaces(), whole), 12);
        s.says("(no NOTES, COIN then; all KNOWN):");
        WorstPlaces x = used();
        s.due("the same text", Roads.tell(x, Roads.ROAD), 8);
        s.due("no notes", x.number(2), 0);
        s.due("no count", x.count(0, 0), -1);
        s.due("no coin", x.look(2, 5), 0);
        s.due("as a new one", Roads.state(x), Roads.state(Roads.road(Roads.ROAD)));
        s.due("a note", x.note(0, 0, 4), 0);
        s.due("all known", x.number(3), 1);
        s.due("a count", x.count(0, 0), 4);
        WorstPlaces empty = used();
        s.due("text(0)", empty.text(0), 0);
        s.due("as one without a text", Roads.state(empty), Roads.state(new WorstPlaces()));
        textsInTurn();
        s.says("how many LINES;");
        s.due("none", Roads.tell(x, " \n "), 0);
        s.due("one", Roads.tell(x, "saves 1 2;"), 1);
        s.due("the most", Roads.tell(x, Roads.lines("place ", 12, " 0;") + Roads.lines("kind ", 5, " 1" + Roads.ZEROS)
            + "take 1;saves 0 0;"), 19);
    }

    /** Nothing of the texts ahead is left, be it of the last one or of the one ahead of that, fine or not. */
    private void textsInTurn() {
        String full = Roads.lines("kind ", 5, " 9 9 8 7 6 5 4 3 2 1 0;")
            + Roads.lines("place ", 12, " 9 lot box 3 works 4 5;") + "take not(sum+1)<one;saves 9 8;";
        String[] between = {full, "", Roads.same("z", 1, 0) + "place z 0;take not 1+", full + "x",
            "take ((((not 1<2 and not(1+1<", "take not 1" + "+1".repeat(31) + ";", "take not 1" + "+1".repeat(32)};
        String[] last = {"", Roads.lines("place ", 12, " 0;"), Roads.same("z", 1, 0) + Roads.lines("place ", 3, " 1;"),
            "take not 1<2+3 and (1=1) or 0<1;place p 0;", "kind a 2 1 1 1 1 1 1 1 1 1 2;place a 0 box 4;take sum>=4;",
            Roads.lines("kind ", 5, " 8 2 2 2 2 2 3 3 3 3 3;") + "take sum>=7;place z 0;"};
        for (String second : between) {
            for (String third : last) {
                WorstPlaces x = Roads.road(full);
                useAll(x);
                if (Roads.tell(x, second) > 0) {
                    useAll(x);
                }
                s.due("lines of " + third, Roads.tell(x, third), third.length() - third.replace(";", "").length());
                s.due("as a new one: " + third, Roads.state(x), Roads.state(Roads.road(third)));
            }
        }
    }

    /** A count and coin for each place, one note struck, not all known, and the law asked. */
    private static void useAll(WorstPlaces x) {
        for (int place = 0; place < x.number(1); place++) {
            x.note(place, 8 - place % 9, 9);
            x.coin(place, 99);
        }
        x.strike(0);
        x.known(12);
        x.law(0, 0);
    }

    private void textFails() {
        s.says("NONE with a FAULT, all stays;");
        String[] broken = {"kind", "kind a 1" + Roads.ZEROS + "place z 10;", Roads.ROAD + "x", Roads.ROAD + Roads.ROAD,
            "take 0;saves 0 0;place p 9 lot;;", "place p 0 lot lot;", "take ((((((((("};
        for (String text : broken) {
            WorstPlaces x = used();
            String was = Roads.state(x);
            s.due("text " + text, Roads.tell(x, text), -1);
            s.due("state behind " + text, Roads.state(x), was);
            s.due("the tape is empty", x.text(1), -2);
            s.due("a note behind " + text, x.note(3, 8, 9), 14);
            s.due("another text", Roads.tell(x, "place z 0;"), 1);
            s.due("as a new one", Roads.state(x), Roads.state(Roads.road("place z 0;")));
        }
        s.says("-2, and the TAPE stays: there are not so many, n is below 0.");
        WorstPlaces x = used();
        String was = Roads.state(x);
        Roads.feedAll(x, "place z 0;");
        s.due("text(21)", x.text(21), -2);
        s.due("text(-1)", x.text(-1), -2);
        for (int n : Roads.WILD) {
            s.due("text(" + n + ")", x.text(n), -2);
        }
        s.due("all stays", Roads.state(x), was);
        s.due("the tape stays", Roads.feedAll(x, " "), 40);
        s.due("text(41)", x.text(41), -2);
        s.due("text(40)", x.text(40), 1);
        s.due("place z", x.named(1, Roads.letters("z")), 0);
        Roads.feedAll(x, " ");
        s.due("text(19)", x.text(19), 0);
    }

    private void fault() {
        s.says("Of the latest text() that was not -2, what 0: its FAULT (0), 1: its place (NONE without).");
        WorstPlaces x = new WorstPlaces();
        s.due("at first", x.fault(0), 0);
        s.due("its place at first", x.fault(1), -1);
        String[] texts = {"kind", "", "place a 10;", "place a 0;", "place a 0;place a 0;", "place b 0;"};
        int[] faults = {1, 0, 2, 0, 3, 0};
        int[] places = {4, -1, 8, -1, 16, -1};
        for (int i = 0; i < texts.length; i++) {
            Roads.tell(x, texts[i]);
            s.due("fault of " + texts[i], x.fault(0), faults[i]);
            s.due("place of " + texts[i], x.fault(1), places[i]);
            s.due("-2", x.text(601), -2);
            s.due("fault, -2 is not the latest", x.fault(0), faults[i]);
            s.due("place, -2 is not the latest", x.fault(1), places[i]);
        }
        s.says("NONE for another what.");
        Roads.tell(x, "kind");
        s.due("fault(-1)", x.fault(-1), -1);
        s.due("fault(2)", x.fault(2), -1);
        for (int what : Roads.WILD) {
            s.due("fault(" + what + ")", x.fault(what), -1);
        }
    }

    private void named() {
        WorstPlaces x = Roads.road("kind a 1" + Roads.ZEROS + "kind zzzzzz 1" + Roads.ZEROS
            + "place b 0;place zzzzz 0;place aaaaaa 0;place abcdef 0;");
        s.says("The number of a KIND (what 0), a PLACE (1) by its letters, 5 bits each (a is 1; the first one "
            + "highest of six, 0 behind the last one);");
        s.due("kind a", x.named(0, 1 << 25), 0);
        s.due("kind zzzzzz", x.named(0, 26 << 25 | 26 << 20 | 26 << 15 | 26 << 10 | 26 << 5 | 26), 1);
        s.due("place b", x.named(1, 2 << 25), 0);
        s.due("place zzzzz", x.named(1, 26 << 25 | 26 << 20 | 26 << 15 | 26 << 10 | 26 << 5), 1);
        s.due("place aaaaaa", x.named(1, 1 << 25 | 1 << 20 | 1 << 15 | 1 << 10 | 1 << 5 | 1), 2);
        s.due("place abcdef", x.named(1, 1 << 25 | 2 << 20 | 3 << 15 | 4 << 10 | 5 << 5 | 6), 3);
        s.says("NONE: there is none such.");
        s.due("kind b", x.named(0, 2 << 25), -1);
        s.due("place a", x.named(1, 1 << 25), -1);
        s.due("place c", x.named(1, 3 << 25), -1);
        s.due("what -1", x.named(-1, 2 << 25), -1);
        s.due("what 2", x.named(2, 2 << 25), -1);
        s.due("no letters", x.named(1, 0), -1);
        s.due("b at the other end", x.named(1, 2), -1);
        s.due("b with a bit above", x.named(1, 2 << 25 | 1 << 30), -1);
        s.due("b with the sign", x.named(1, 2 << 25 | 1 << 31), -1);
        s.due("b with a letter behind a gap", x.named(1, 2 << 25 | 1), -1);
        s.due("zzzz", x.named(1, Roads.letters("zzzz")), -1);
        for (int wild : Roads.WILD) {
            s.due("what " + wild, x.named(wild, 2 << 25), -1);
            s.due("letters " + wild, x.named(1, wild), -1);
        }
        s.due("a new object", new WorstPlaces().named(1, 0), -1);
        Roads.tell(x, "place c 0;");
        s.due("of the text ahead", x.named(1, 2 << 25), -1);
        s.due("a kind of the text ahead", x.named(0, 1 << 25), -1);
    }

    private void look() {
        s.says("Of a PLACE, what 0: COUNTY, 1: by LOT (1, 0), 2: BOX, 3: the YEAR of WORKS (NONE), 4: their share "
            + "(0), 5: COIN.");
        WorstPlaces x = Roads.road("place a 9 lot box 8 works 0 9;place b 0;place c 1 works 8 0;");
        x.coin(0, 99);
        x.coin(2, 1);
        int[][] want = {{9, 1, 8, 0, 9, 99}, {0, 0, 0, -1, 0, 0}, {1, 0, 0, 8, 0, 1}};
        for (int place = 0; place <= 2; place++) {
            for (int what = 0; what <= 5; what++) {
                s.due("look(" + place + ", " + what + ")", Roads.looked(x, place, what), want[place][what]);
            }
        }
        s.says("IndexOutOfBoundsException: no such PLACE.");
        s.due("place -1", Roads.looked(x, -1, 0), Roads.NO_PLACE);
        s.due("place 3", Roads.looked(x, 3, 0), Roads.NO_PLACE);
        s.due("place 12", Roads.looked(x, 12, 5), Roads.NO_PLACE);
        for (int wild : Roads.WILD) {
            s.due("place " + wild, Roads.looked(x, wild, 0), Roads.NO_PLACE);
        }
        s.due("a new object", Roads.looked(new WorstPlaces(), 0, 0), Roads.NO_PLACE);
        s.says("NoSuchElementException: no such what.");
        s.due("what -1", Roads.looked(x, 0, -1), Roads.NO_WHAT);
        s.due("what 6", Roads.looked(x, 2, 6), Roads.NO_WHAT);
        for (int wild : Roads.WILD) {
            s.due("what " + wild, Roads.looked(x, 1, wild), Roads.NO_WHAT);
        }
    }

    private void note() {
        WorstPlaces x = Roads.road("place a 0;place b 0;");
        s.says("A COUNT: its NOTE's number;");
        s.due("the first", x.note(0, 0, 0), 0);
        s.due("the second", x.note(1, 8, 9), 1);
        s.due("the same once more", x.note(1, 8, 9), 2);
        x.strike(0);
        s.due("behind a strike", x.note(0, 0, 1), 4);
        x.known(0);
        s.due("not known", x.note(0, 0, 2), 5);
        s.says("NONE: no such ones, or there are 150.");
        String was = Roads.state(x);
        int[][] none = {{-1, 0, 0}, {2, 0, 0}, {0, -1, 0}, {0, 9, 0}, {0, 0, -1}, {0, 0, 10}};
        for (int[] n : none) {
            s.due("note(" + n[0] + ", " + n[1] + ", " + n[2] + ")", x.note(n[0], n[1], n[2]), -1);
        }
        for (int wild : Roads.WILD) {
            s.due("place " + wild, x.note(wild, 0, 0), -1);
            s.due("year " + wild, x.note(0, wild, 0), -1);
            s.due("count " + wild, x.note(0, 0, wild), -1);
        }
        s.due("all stays", Roads.state(x), was);
        x.known(-1);
        for (int i = 6; i < 150; i++) {
            s.due("note " + i, x.note(1, 1, i % 10), i);
        }
        was = Roads.state(x);
        s.due("there are 150", x.note(1, 1, 1), -1);
        s.due("all stays with 150", Roads.state(x), was);
        s.due("149 known, and 150", x.known(149), true);
        s.due("there are 150 yet", x.note(1, 1, 1), -1);
        Roads.tell(x, "place a 0;");
        s.due("the first of another text", x.note(0, 0, 0), 0);
    }

    private void strike() {
        WorstPlaces x = Roads.road("place a 0;");
        s.says("A STRIKE: its NOTE's number;");
        x.note(0, 0, 3);
        s.due("of a count", x.strike(0), 1);
        s.due("of a strike", x.strike(1), 2);
        s.due("of one struck", x.strike(1), 3);
        x.known(0);
        s.due("of one not known", x.strike(3), 4);
        s.says("NONE: no such NOTE, or there are 150.");
        String was = Roads.state(x);
        s.due("note -1", x.strike(-1), -1);
        s.due("itself", x.strike(5), -1);
        s.due("beyond", x.strike(6), -1);
        for (int wild : Roads.WILD) {
            s.due("note " + wild, x.strike(wild), -1);
        }
        s.due("all stays", Roads.state(x), was);
        s.due("the last one", x.strike(4), 5);
        for (int i = 6; i < 150; i++) {
            s.due("strike " + i, x.strike(0), i);
        }
        x.known(-1);
        was = Roads.state(x);
        s.due("there are 150", x.strike(0), -1);
        s.due("there are 150, the last", x.strike(149), -1);
        s.due("all stays with 150", Roads.state(x), was);
    }

    private void known() {
        s.says("KNOWN by n NOTES from now on (-1: by all, also those to come): true;");
        WorstPlaces x = Roads.road("place a 0;");
        Roads.notes(x, 0, 0, "123");
        for (int n = 0; n <= 3; n++) {
            s.due("known(" + n + ")", x.known(n), true);
            s.due("by " + n, x.number(3), n);
            s.due("year 2 by " + n, x.count(0, 2), n == 3 ? 3 : -1);
            s.due("year 0 by " + n, x.count(0, 0), n >= 1 ? 1 : -1);
        }
        x.note(0, 2, 9);
        s.due("by three yet", x.number(3), 3);
        s.due("not by the fourth", x.count(0, 2), 3);
        x.strike(2);
        s.due("not by a strike to come", x.count(0, 2), 3);
        s.due("known(-1)", x.known(-1), true);
        s.due("by all", x.number(3), 5);
        s.due("by the fourth", x.count(0, 2), 9);
        x.strike(3);
        s.due("also those to come", x.number(3), 6);
        s.due("all struck", x.count(0, 2), -1);
        s.says("false: no such n.");
        x.known(4);
        String was = Roads.state(x);
        s.due("known(7)", x.known(7), false);
        s.due("known(-2)", x.known(-2), false);
        for (int wild : Roads.WILD) {
            s.due("known(" + wild + ")", x.known(wild), false);
        }
        s.due("all stays", Roads.state(x), was);
        s.due("known(6)", x.known(6), true);
        WorstPlaces full = Roads.road("place a 0;");
        for (int i = 0; i < 150; i++) {
            full.note(0, 0, i % 10);
        }
        s.due("known(149)", full.known(149), true);
        s.due("by 149", full.count(0, 0), 8);
        s.due("known(150)", full.known(150), true);
        s.due("by 150", full.count(0, 0), 9);
        s.due("known(151)", full.known(151), false);
    }

    private void count() {
        WorstPlaces x = Roads.road("place a 0;place b 0;");
        x.note(0, 0, 0);
        x.note(1, 8, 9);
        x.note(0, 8, 3);
        x.note(1, 0, 4);
        s.says("A COUNT KNOWN;");
        s.due("0", x.count(0, 0), 0);
        s.due("9", x.count(1, 8), 9);
        s.says("NONE: it isn't, no such ones.");
        s.due("it isn't", x.count(0, 1), -1);
        s.due("it isn't, beside 9", x.count(1, 7), -1);
        s.due("year -1", x.count(1, -1), -1);
        s.due("year 9", x.count(0, 9), -1);
        s.due("place -1", x.count(-1, 8), -1);
        s.due("place 2", x.count(2, 0), -1);
        for (int wild : Roads.WILD) {
            s.due("place " + wild, x.count(wild, 0), -1);
            s.due("year " + wild, x.count(0, wild), -1);
        }
        x.known(1);
        s.due("known by 1", x.count(0, 0), 0);
        s.due("not known by 1", x.count(1, 8), -1);
        Roads.tell(x, "place a 0;");
        s.due("of another text", x.count(0, 0), -1);
    }
}
