/** Terms: a text with its grammar, kinds, places and faults. */
final class TextBounds {
    private static final String[] WORDS = {"kind", "place", "lot", "box", "works", "take", "saves", "or", "and", "not",
        "one", "two", "three", "sum", "most", "least", "county"};
    private static final String[] COMPARES = {"<", "<=", "=", "<>", ">=", ">"};
    private static final String NUMBERS = " 1 0 0 0 0 0 0 0 0 0 0;";
    // 62 knots that are each worth nothing more, behind a value.
    private static final String MORE = "+1".repeat(31);

    private final Sentences s;

    TextBounds(Sentences s) {
        this.s = s;
    }

    void run() {
        lines();
        words();
        rules();
        places(Roads.road("kind a" + NUMBERS + "place a 0;"));
        kinds();
        placesParts();
        saves();
        faults();
        tooMuch();
        knots();
        toldAlready();
    }

    private boolean takes(String rule) {
        WorstPlaces x = Roads.road("place a 7;take " + rule + ";");
        Roads.notes(x, 0, 0, "352");
        return x.taken(3) == 1;
    }

    private void yes(String rule) {
        s.due("take " + rule, takes(rule), true);
    }

    private void no(String rule) {
        s.due("take " + rule, takes(rule), false);
    }

    private void lines() {
        s.says("A TEXT: { LINE ';' }.");
        s.fine("", 0);
        s.fine("saves 1 2;", 1);
        s.fine("saves 1 2;take 1;", 2);
        s.fault("saves 1 2", 1, 9);
        s.fault("saves 1 2 take 1;", 1, 10);
        s.fault("saves 1 2;;", 1, 10);
        s.fault(";", 1, 0);
        s.says("LINE: kind W N N N N N N N N N N N");
        s.fault("kind 1 0 0 0 0 0 0 0 0 0 0 0;", 1, 5);
        s.fault("kind a 1 0 0 0 0 0 0 0 0 0;", 1, 26);
        s.fine("kind a 1 0 0 0 0 0 0 0 0 0 0;", 1);
        s.fault("kind a 1 0 0 0 0 0 0 0 0 0 0 0;", 1, 29);
        s.says("| place W N { lot | box N | works N N }");
        s.fault("place;", 1, 5);
        s.fault("place a;", 1, 7);
        s.fine("place a 0;", 1);
        s.fault("place a 0 0;", 1, 10);
        s.fine("place a 0 lot;", 1);
        s.fault("place a 0 lot 0;", 1, 14);
        s.fault("place a 0 box;", 1, 13);
        s.fine("place a 0 box 1;", 1);
        s.fault("place a 0 box 1 1;", 1, 16);
        s.fault("place a 0 works;", 1, 15);
        s.fault("place a 0 works 1;", 1, 17);
        s.fine("place a 0 works 1 1;", 1);
        s.fault("place a 0 works 1 1 1;", 1, 20);
        s.fine("place a 0 lot box 1 works 1 1;", 1);
        s.says("| take E");
        s.fault("take;", 1, 4);
        s.fine("take 1;", 1);
        s.fault("take 1 1;", 1, 7);
        s.says("| saves N N.");
        s.fault("saves;", 1, 5);
        s.fault("saves 1;", 1, 7);
        s.fine("saves 1 1;", 1);
        s.fault("saves 1 1 1;", 1, 10);
    }

    private void words() {
        s.says("Words: small letters in a row;");
        s.fault("place ` 0;", 1, 6);
        s.fine("place a 0;", 1);
        s.fine("place z 0;", 1);
        s.fault("place { 0;", 1, 6);
        s.fault("place A 0;", 1, 6);
        s.fault("place aB 0;", 1, 7);
        s.fault("place a b 0;", 1, 8);
        s.fault("placea 0;", 1, 0);
        s.fault("pla ce a 0;", 1, 0);
        s.says("W: one of 1 .. 6 letters,");
        s.fault("place 0;", 1, 6);
        s.fine("place a 0;", 1);
        s.fine("place abcde 0;", 1);
        s.fine("place abcdef 0;", 1);
        s.fault("place abcdefg 0;", 1, 6);
        s.says("none of those of the language;");
        for (String word : WORDS) {
            s.fault("place " + word + " 0;", 1, 6);
            s.fault("kind " + word + NUMBERS, 1, 5);
            s.fine("place " + word.substring(0, word.length() - 1) + " 0;", 1);
            s.fine("kind " + word.substring(1) + "x" + NUMBERS, 1);
        }
        s.says("N: digits.");
        s.fault("place a /;", 1, 8);
        s.fine("place a 0;", 1);
        s.fine("place a 9;", 1);
        s.fault("place a :;", 1, 8);
        s.fault("place a -1;", 1, 8);
        s.fine("place a " + "0".repeat(300) + "9;", 1);
        s.says("Blanks 10, 32.");
        for (int b = 0; b < 256; b++) {
            String text = "place a 0;" + (char) b;
            if (b == 10 || b == 32) {
                s.fine(text, 1);
                s.fine((char) b + "place" + (char) b + "a" + (char) b + "0" + (char) b + ";", 1);
            } else {
                s.fault(text, 1, 10);
            }
        }
        s.fine("place a0;", 1);
    }

    private void rules() {
        s.says("E: A { or A }.");
        s.fault("take or 1;", 1, 5);
        s.fault("take 1 or;", 1, 9);
        s.fault("take 1 or or 1;", 1, 10);
        no("0 or 0 or 0");
        yes("0 or 0 or 1");
        s.says("A: B { and B }.");
        s.fault("take and 1;", 1, 5);
        s.fault("take 1 and;", 1, 10);
        no("1 and 1 and 0");
        yes("1 and 1 and 1");
        yes("1 or 1 and 0");
        yes("0 and 1 or 1");
        s.says("B: not B | C.");
        s.fault("take not;", 1, 8);
        s.fault("take 1 not 1;", 1, 7);
        s.fault("take 1+not 1;", 1, 7);
        s.fault("take 1*not 1;", 1, 7);
        s.fault("take 1<not 1;", 1, 7);
        yes("not 0");
        no("not not 0");
        no("not 1<2");
        yes("1 and not 0");
        yes("0 or not 0");
        no("not 0 and 0");
        s.says("C: S [ ( < | <= | = | <> | >= | > ) S ].");
        String[] due = {"100", "110", "010", "101", "011", "001"};
        for (int i = 0; i < COMPARES.length; i++) {
            String sign = COMPARES[i];
            for (int left = 2; left <= 4; left++) {
                s.due(left + sign + 3, takes(left + sign + 3), due[i].charAt(left - 2) == '1');
            }
            s.fault("take " + sign + "1;", 1, 5);
            s.fault("take 1" + sign + ";", 1, 6 + sign.length());
            s.fault("take 1" + sign + "2" + sign + "3;", 1, 7 + sign.length());
            s.fine("take (1" + sign + "2)" + sign + "3 and 1" + sign + "2;", 1);
        }
        yes("2+3>4");
        yes("4<2+3");
        s.says("S: T { ( + | - ) T }.");
        s.fault("take +1;", 1, 5);
        s.fault("take -1;", 1, 5);
        s.fault("take 1+;", 1, 7);
        s.fault("take 1+-1;", 1, 7);
        yes("9-5-3=1");
        yes("9-5+3=7");
        s.says("T: P { ( * | / ) P }.");
        s.fault("take *1;", 1, 5);
        s.fault("take 1*;", 1, 7);
        s.fault("take 1/*1;", 1, 7);
        yes("9/2/2=2");
        yes("9/2*2=8");
        yes("2+3*4=14");
        yes("20-12/4=17");
        inBrackets();
    }

    private void inBrackets() {
        s.says("P: N | NAME | '(' E ')';");
        s.fault("take ();", 1, 6);
        s.fault("take (1;", 1, 7);
        s.fault("take 1);", 1, 6);
        s.fault("take (1));", 1, 8);
        s.fault("take (1)(1);", 1, 8);
        s.fault("take 1 (1);", 1, 7);
        no("(1 or 0)and 0");
        yes("(2+3)*4=20");
        yes("(not 0)*county=7");
        yes("county*(not 0)=7");
        yes("county-(not 0 or 1)=6");
        yes("0<(not 0)");
        s.says("N of E 0 .. 999.");
        no("0");
        yes("1");
        yes("998=999-1");
        yes("000999=998+1");
        s.fault("take 1000;", 2, 5);
        s.fault("take 1+" + "9".repeat(40) + ";", 2, 7);
        s.says("NAME: one two three sum most least county.");
        int[] values = {3, 5, 2, 10, 5, 2, 7};
        for (int i = 0; i < WORDS.length; i++) {
            if (i < 10) {
                s.fault("take " + WORDS[i] + ";", 1, WORDS[i].equals("not") ? 8 : 5);
                continue;
            }
            yes(WORDS[i] + "=" + values[i - 10]);
            no(WORDS[i] + "=" + (values[i - 10] + 1));
            s.fault("take " + WORDS[i] + WORDS[i] + ";", 1, 5);
        }
        s.fault("take four;", 1, 5);
        s.says("A = (or > behind <) right behind < or > belongs to it.");
        s.fine("take 1<=2;", 1);
        s.fault("take 1< =2;", 1, 8);
        s.fine("take 1>=2;", 1);
        s.fault("take 1>\n=2;", 1, 8);
        s.fine("take 1<>2;", 1);
        s.fault("take 1< >2;", 1, 8);
        for (String none : new String[] {"><", "=<", "=>", "==", "<<", ">>"}) {
            s.fault("take 1" + none + "2;", 1, 7);
        }
        for (String sign : COMPARES) {
            s.due("knots with " + sign, Roads.road("take 1" + sign + "2;").number(4), 3);
        }
        WorstPlaces x = new WorstPlaces();
        Roads.feedAll(x, "take 1<=2;");
        s.due("text(7) that ends behind <", x.text(7), -1);
        s.due("its place", x.fault(1), 7);
    }

    private void kinds() {
        s.says("KINDS of roads, at most 5,");
        for (int many = 0; many <= 5; many++) {
            String text = Roads.lines("kind ", many, NUMBERS);
            s.fine(text, many);
            s.due(many + " kinds", Roads.road(text).number(0), many);
        }
        s.fault(Roads.lines("kind ", 6, NUMBERS), 2, 5 * (6 + NUMBERS.length()));
        s.says("numbered as they come:");
        WorstPlaces x = Roads.road("kind c" + NUMBERS + "place z 0;kind a" + NUMBERS + "kind b" + NUMBERS);
        s.due("c", x.named(0, Roads.letters("c")), 0);
        s.due("a", x.named(0, Roads.letters("a")), 1);
        s.due("b", x.named(0, Roads.letters("b")), 2);
        s.says("a WEIGHT 1 .. 99");
        for (int weight : new int[] {1, 2, 98, 99}) {
            WorstPlaces y = Roads.road(Roads.same("a", weight, 0) + "place p 0;");
            s.due("weight " + weight, y.likely(0, 0, 0, 0), weight);
        }
        s.fault(Roads.same("a", 0, 0), 2, 7);
        s.fault(Roads.same("a", 100, 0), 2, 7);
        s.says("and ten FACES 0 .. 9");
        for (int i = 0; i < 10; i++) {
            String begin = "kind a 1" + " 0".repeat(i);
            String end = " 0".repeat(9 - i) + ";";
            s.fine(begin + " 9" + end, 1);
            s.fault(begin + " 10" + end, 2, 9 + 2 * i);
        }
        s.fine("kind a" + NUMBERS, 1);
        s.says("(each as likely as any other in a year).");
        for (int i = 0; i < 10; i++) {
            WorstPlaces y = Roads.road("kind a 1" + " 0".repeat(i) + " 5" + " 0".repeat(9 - i) + ";place p 0;");
            Roads.notes(y, 0, 0, "504");
            s.due("the face once at " + i, y.likely(0, 0, 0, 0), 1);
            s.due("nine of zero", y.likely(0, 0, 1, 1), 9);
            s.due("none of four", y.likely(0, 0, 2, 2), 0);
        }
    }

    private void places(WorstPlaces both) {
        s.says("PLACES, at most 12,");
        for (int many = 0; many <= 12; many++) {
            String text = Roads.lines("place ", many, " 0;");
            s.fine(text, many);
            s.due(many + " places", Roads.road(text).number(1), many);
        }
        s.fault(Roads.lines("place ", 13, " 0;"), 2, 120);
        s.says("numbered as they come, in a row along the road");
        WorstPlaces x = Roads.road("place c 0;place a 0 box 3;kind z" + NUMBERS + "place b 0;");
        s.due("c", x.named(1, Roads.letters("c")), 0);
        s.due("a", x.named(1, Roads.letters("a")), 1);
        s.due("b", x.named(1, Roads.letters("b")), 2);
        Roads.notes(x, 0, 0, "999999");
        Roads.notes(x, 1, 0, "000000");
        Roads.notes(x, 2, 0, "000003");
        // The land rises from 27 to 30: only b, the next one, has 3 beyond that.
        s.due("what went to b", x.fall(1, 6), 3000);
        s.says("(with names of their own):");
        s.due("kind a", both.named(0, Roads.letters("a")), 0);
        s.due("place a", both.named(1, Roads.letters("a")), 0);
        s.due("places", both.number(1), 1);
        s.fault("place a 0;place a 0;", 3, 16);
    }

    private void placesParts() {
        s.says("COUNTY 0 .. 9;");
        for (int county = 0; county <= 9; county++) {
            s.due("county " + county, Roads.road("place a " + county + ";").look(0, 0), county);
        }
        s.fault("place a 10;", 2, 8);
        s.says("by LOT;");
        WorstPlaces x = Roads.road("place a 0;place b 0 lot;place c 0;");
        s.due("a", x.look(0, 1), 0);
        s.due("b", x.look(1, 1), 1);
        s.due("c", x.look(2, 1), 0);
        s.says("a BOX from YEAR 1 .. 8 on (0 without);");
        for (int year = 1; year <= 8; year++) {
            s.due("box " + year, Roads.road("place a 0 box " + year + ";").look(0, 2), year);
        }
        s.due("without", x.look(0, 2), 0);
        s.fault("place a 0 box 0;", 2, 14);
        s.fault("place a 0 box 9;", 2, 14);
        s.says("WORKS in a YEAR 0 .. 8");
        for (int year = 0; year <= 8; year++) {
            s.due("works " + year, Roads.road("place a 0 works " + year + " 5;").look(0, 3), year);
        }
        s.due("without", x.look(0, 3), -1);
        s.fault("place a 0 works 9 5;", 2, 16);
        s.says("that take a share 0 .. 9 of 10");
        for (int share = 0; share <= 9; share++) {
            WorstPlaces y = Roads.road("place a 0 box 3 works 3 " + share + ";");
            s.due("share " + share, y.look(0, 4), share);
            Roads.notes(y, 0, 0, "001000");
            s.due("what share " + share + " takes of 1000", y.fall(0, 4), 100 * share);
        }
        s.fault("place a 0 works 5 10;", 2, 18);
        s.says("(each once at most, in whatever order).");
        String[] parts = {"lot", "box 4", "works 2 3"};
        for (int order = 0; order < 27; order++) {
            int a = order / 9;
            int b = order / 3 % 3;
            int c = order % 3;
            String begin = "place a 0 " + parts[a] + " ";
            if (a == b) {
                s.fault(begin + parts[b] + ";", 3, begin.length());
            } else if (a == c || b == c) {
                s.fault(begin + parts[b] + " " + parts[c] + ";", 3, begin.length() + parts[b].length() + 1);
            } else {
                WorstPlaces y = Roads.road(begin + parts[b] + " " + parts[c] + ";");
                s.due(order + ": lot", y.look(0, 1), 1);
                s.due(order + ": box", y.look(0, 2), 4);
                s.due(order + ": works", y.look(0, 3), 2);
                s.due(order + ": share", y.look(0, 4), 3);
                s.fault(begin + parts[b] + " " + parts[c] + " lot;", 3, 30);
            }
        }
    }

    private void saves() {
        s.says("take: the RULE.");
        yes("1");
        no("0");
        WorstPlaces none = Roads.road("place a 7;");
        Roads.notes(none, 0, 0, "352");
        s.due("without", none.taken(3), 0);
        s.says("saves: a BOX saves s of 10 (0 .. 9),");
        for (int of = 0; of <= 9; of++) {
            WorstPlaces x = Roads.road(Roads.same("a", 1, 1) + "place p 0;saves " + of + " 0;");
            x.note(0, 0, 1);
            s.due("s " + of, x.number(5), of);
            s.due("of 1000 with s " + of, x.poles(1, 0, 1), 100 * of);
        }
        s.fault("saves 10 0;", 2, 6);
        s.says("m of 10 (0 .. 9) of that go to the next PLACE");
        for (int of = 0; of <= 9; of++) {
            WorstPlaces x = Roads.road(Roads.same("a", 1, 1) + "place p 0;place q 0;saves 5 " + of + ";");
            x.note(0, 0, 1);
            x.coin(0, 1);
            s.due("m " + of, x.number(6), of);
            s.due("of 500 with m " + of, x.poles(1, 1, 1), 500 - 50 * of);
        }
        s.fault("saves 0 10;", 2, 8);
        s.says("(5 and 0 without this LINE).");
        s.due("s", Roads.road("").number(5), 5);
        s.due("m", Roads.road("").number(6), 0);
        s.due("s of a new object", new WorstPlaces().number(5), 5);
        s.due("m of a new object", new WorstPlaces().number(6), 0);
        WorstPlaces again = Roads.road("saves 0 9;");
        s.due("s told", again.number(5), 0);
        s.due("m told", again.number(6), 9);
        Roads.tell(again, "take 1;");
        s.due("s no more told", again.number(5), 5);
        s.due("m no more told", again.number(6), 0);
    }

    private void faults() {
        s.says("FAULTS, the first along the text");
        s.fault("place a 10;kind", 2, 8);
        s.fault("kind;place a 10;", 1, 4);
        s.fault("place a 0 lot lot;place b 10;", 3, 14);
        s.fault("place a 0;place a 10 !", 3, 16);
        s.fault("take 1000+four", 2, 5);
        s.says("(of one place the least),");
        // Each can't stand there, and would be too much.
        s.fault("place a 0 box 1 99;", 1, 16);
        s.fault("take not 1" + MORE + " not 1;", 1, 73);
        s.fault("take not 1" + MORE + " 1;", 1, 73);
        s.fault("take not 1<1" + "+1".repeat(30) + "<1;", 1, 72);
        s.fault("take 1" + MORE + "+*1;", 1, 69);
        s.fault("take ((((((((1(", 1, 14);
        s.fault("take ((((((((1 1000", 1, 15);
        s.says("with its place:");
        s.fault("x", 1, 0);
        s.fault("  x", 1, 2);
        s.fault("\n\nplace a 10;", 2, 10);
        s.fault(" ".repeat(599) + "x", 1, 599);
        s.says("1 a TOKEN that is none");
        for (int b = 0; b < 256; b++) {
            String text = "take 1" + (char) b + ";";
            if (b == 10 || b == 32 || b >= '0' && b <= '9') {
                s.fine(text, 1);
            } else {
                s.fault(text, 1, ";+-*/<=>".indexOf(b) >= 0 ? 7 : 6);
            }
        }
        s.says("(a word of more than 6 letters, too)");
        s.fine("take county;", 1);
        s.fault("take countyy;", 1, 5);
        s.fine("place abcdef 0;place abcdeg 0;", 2);
        s.fault("place abcdef 0;place abcdefg 0;", 1, 21);
        s.fault("savess 1 1;", 1, 0);
        s.fault("kind " + "a".repeat(594) + ";", 1, 5);
        s.says("or can't stand there");
        s.fault("box 1;", 1, 0);
        s.fault("1;", 1, 0);
        s.fault("place a 0 kind b;", 1, 10);
        s.fault("place a 0 b;", 1, 10);
        s.fault("kind a 1 0 0 0 0 lot 0 0 0 0 0;", 1, 17);
        s.fault("saves 1+1;", 1, 7);
        s.fault("take 1 take 1;", 1, 7);
        s.says("(the length, if more must come).");
        String[] all = {"kind a 1 0 0 0 0 0 0 0 0 0 0 ;", "place a 0 lot box 1 works 1 1 ;",
            "take not ( one < 2 ) or 1 ;", "saves 1 1 ;"};
        for (String line : all) {
            for (int i = line.indexOf(' '); i >= 0; i = line.indexOf(' ', i + 1)) {
                s.fault(line.substring(0, i), 1, i);
                s.fault(line.substring(0, i) + " \n ", 1, i + 3);
            }
            s.fine(line, 1);
        }
    }

    private void tooMuch() {
        s.says("2 too much (at it): a number beyond what is said,");
        String[] beyond = {"kind a 0", "kind a 100", "kind a 99 10", "place a 10", "place a 9 box 0", "place a 9 box 9",
            "place a 9 works 9", "place a 9 works 8 10", "saves 10", "saves 9 10", "take 1000", "take 999+1000"};
        for (String text : beyond) {
            int at = Math.max(text.lastIndexOf(' '), text.lastIndexOf('+')) + 1;
            s.fault(text, 2, at);
            s.fault(text.substring(0, at) + "2147483648", 2, at);
            s.fault(text.substring(0, at) + "4294967297", 2, at);
            s.fault(text.substring(0, at) + "18446744073709551617", 2, at);
            s.fault(text.substring(0, at) + "1".repeat(500), 2, at);
        }
        s.says("a sixth kind,");
        String kinds = Roads.lines("kind ", 5, NUMBERS);
        s.fine(kinds, 5);
        s.fault(kinds + "kind", 2, kinds.length());
        s.fault(kinds + "place a 0; kind a", 2, kinds.length() + 11);
        s.says("a 13th place (at the word of the LINE),");
        String places = Roads.lines("place ", 12, " 0;");
        s.fine(places, 12);
        s.fault(places + "place", 2, 120);
        s.fault(places + "\nplace a 10", 2, 121);
        s.fine(places + "take 1;", 13);
        s.says("a ninth '(' open,");
        s.fine("take " + "(".repeat(7) + "1" + ")".repeat(7) + ";", 1);
        s.fine("take " + "(".repeat(8) + "1" + ")".repeat(8) + ";", 1);
        s.fault("take " + "(".repeat(9) + "1" + ")".repeat(9) + ";", 2, 13);
        s.fine("take " + "((((((((1))))))))+".repeat(3) + "((((((((1))))))));", 1);
        s.fine("take (((((((1+(2))+(3)))))));", 1);
        s.fault("take (((((((1+(2)+((3", 2, 19);
    }

    private void knots() {
        s.says("a 65th KNOT (N, NAMES, signs, not, and, or in E: one each).");
        String[] of63 = {"1" + MORE, "not not 1" + "+1".repeat(30), "one" + "-two".repeat(31)};
        for (String rule : of63) {
            s.due("knots of " + rule, Roads.road("take " + rule + ";").number(4), 63);
            s.due("knots of not " + rule, Roads.road("take not " + rule + ";").number(4), 64);
            s.fault("take not not " + rule + ";", 2, 5 + 8 + rule.lastIndexOf(rule.startsWith("one") ? "t" : "1"));
        }
        String full = "take not 1" + MORE;
        s.fine(full + ";", 1);
        for (String sign : new String[] {"+", "-", "*", "/", "<", "<=", "=", "<>", ">=", ">", " and", " or"}) {
            s.fault(full + sign + " 1;", 2, full.length() + sign.lastIndexOf(' ') + 1);
        }
        String valueDue = "take 1" + MORE + "+";
        s.fault(valueDue + "1;", 2, valueDue.length());
        s.fault(valueDue + "county;", 2, valueDue.length());
        s.fault(valueDue + "(((1)));", 2, valueDue.length() + 3);
        s.fault(valueDue + ";", 1, valueDue.length());
        String notDue = "take not 1" + "+1".repeat(30) + " and not ";
        s.fault(notDue + "not 1;", 2, notDue.length());
        s.fault(notDue + "1;", 2, notDue.length());
        s.fine("take ((not (1" + MORE + ")));", 1);
        s.due("brackets are none", Roads.road("take ((not (1" + MORE + ")));").number(4), 64);
        String nots = "not ".repeat(63);
        s.due("63 times not, and 0", takes(nots + "0"), true);
        s.due("63 times not, and 1", takes(nots + "1"), false);
        s.fault("take " + nots + "not 0;", 2, 5 + nots.length() + 4);
        String deep = "not(".repeat(8) + "not ".repeat(55) + "0" + ")".repeat(8);
        s.due("63 times not, eight '(' open", takes(deep), true);
        s.due("knots of it", Roads.road("take " + deep + ";").number(4), 64);
        s.due("one", Roads.road("take 1;").number(4), 1);
        s.due("none", Roads.road("").number(4), 0);
    }

    private void toldAlready() {
        s.says("3 told already: a name of its kind (at W),");
        s.fault("place a 0;place b 0;place a 0;", 3, 26);
        s.fault("place a 0;place b 0;place b 0;", 3, 26);
        s.fine("place a 0;place b 0;place aa 0;place ab 0;", 4);
        s.fault("kind a" + NUMBERS + "place b 0;kind a", 3, 6 + NUMBERS.length() + 10 + 5);
        s.fine("kind a" + NUMBERS + "place b 0;kind b" + NUMBERS + "place a 0;", 4);
        WorstPlaces x = Roads.road("place a 0;");
        s.due("the same name in the next text", Roads.tell(x, "place a 0;"), 1);
        s.says("lot, box, works, take, saves (at the word).");
        s.fault("place a 0 lot lot;", 3, 14);
        s.fault("place a 0 box 1 box 0;", 3, 16);
        s.fault("place a 0 works 0 0 works 9 9;", 3, 20);
        s.fault("take 1;take", 3, 7);
        s.fault("take 1;place a 0;take 1000;", 3, 17);
        s.fault("saves 5 0;saves", 3, 10);
        s.fault("saves 5 0;take 1;saves 10 10;", 3, 17);
        s.fine("place a 0 lot box 1 works 0 0;place b 0 lot box 1 works 0 0;take 1;saves 5 0;", 4);
    }
}
