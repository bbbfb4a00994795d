import java.nio.file.Files;
import java.nio.file.Path;
import java.util.regex.Matcher;
import java.util.regex.Pattern;

/**
 * The document sentence by sentence: each is quoted to the letter ahead of the answers that it makes due, and at the
 * end no word of the terms and promises may stand that no test has quoted.
 */
final class Sentences {
    private final String doc;
    private final boolean[] quoted;
    private int from = 0;
    private int to = 0;
    private String now = "";
    private int answersNow = 0;
    private int many = 0;
    private int answers = 0;
    private int wrong = 0;

    Sentences(Path document) throws Exception {
        doc = plain(Files.readString(document));
        quoted = new boolean[doc.length()];
    }

    /** Without what is no sentence: signatures, marks, fences and the breaks of lines. */
    private static String plain(String text) {
        String kept = text.replaceAll("(?m)^`[^`]*`:", "").replaceAll("```[a-z]*", "").replaceAll("==== [0-9]\\.", "");
        return kept.replaceAll("\\s+", " ");
    }

    /** What is quoted from now on stands between these two headings. */
    void part(String heading, String next) {
        int begin = doc.indexOf("## " + heading + " ");
        int end = doc.indexOf("## " + next + " ");
        if (begin < 0 || end < begin) {
            throw new IllegalStateException("the document has no such part: " + heading);
        }
        checkTold();
        checkAsked();
        now = "";
        from = begin + heading.length() + 3;
        to = end;
    }

    void says(String quote) {
        checkAsked();
        now = quote;
        answersNow = 0;
        many++;
        int at = doc.indexOf(quote, from);
        while (at >= 0 && at < to && quoted[at]) {
            at = doc.indexOf(quote, at + 1);
        }
        if (at < 0 || at + quote.length() > to) {
            fail("the document doesn't say so here: " + quote);
            return;
        }
        for (int i = at; i < at + quote.length(); i++) {
            quoted[i] = true;
        }
    }

    void due(String call, long got, long want) {
        answers++;
        answersNow++;
        if (got != want) {
            fail("\"" + now + "\": " + call + " answered " + got + ", due is " + want);
        }
    }

    void due(String call, boolean got, boolean want) {
        due(call, got ? 1 : 0, want ? 1 : 0);
    }

    void due(String call, String got, String want) {
        answers++;
        answersNow++;
        if (!got.equals(want)) {
            fail("\"" + now + "\": " + call + " answered " + got + ", due is " + want);
        }
    }

    void fault(String text, int fault, int place) {
        WorstPlaces x = new WorstPlaces();
        String shown = shown(text);
        due("text " + shown, Roads.tell(x, text), -1);
        due("fault of " + shown, x.fault(0), fault);
        due("its place in " + shown, x.fault(1), place);
    }

    void fine(String text, int lines) {
        WorstPlaces x = new WorstPlaces();
        String shown = shown(text);
        due("text " + shown, Roads.tell(x, text), lines);
        due("no fault in " + shown, x.fault(0), 0);
        due("no place in " + shown, x.fault(1), -1);
    }

    private static String shown(String text) {
        return text.length() <= 70 ? text : text.substring(0, 30) + " .. " + text.substring(text.length() - 36);
    }

    /** True, if all was as due. */
    boolean end() {
        checkTold();
        checkAsked();
        System.out.println(many + " sentences, " + answers + " answers, " + wrong + " not as due");
        return wrong == 0 && many > 0;
    }

    private void checkTold() {
        StringBuilder left = new StringBuilder();
        for (int i = from; i < to; i++) {
            left.append(quoted[i] ? ' ' : doc.charAt(i));
        }
        Matcher word = Pattern.compile("[A-Za-z0-9][^ ]*( [^ ]+)*").matcher(left);
        while (word.find()) {
            fail("no test for: " + word.group());
        }
        to = from;
    }

    private void checkAsked() {
        if (!now.isEmpty() && answersNow == 0) {
            fail("nothing was asked for: " + now);
        }
    }

    private void fail(String what) {
        wrong++;
        System.out.println(what.replace('\n', '~'));
    }
}
