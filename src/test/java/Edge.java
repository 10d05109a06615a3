import java.io.IOException;
import java.nio.file.Files;
import java.nio.file.Path;
import java.util.LinkedHashMap;
import java.util.LinkedHashSet;
import java.util.Map;
import java.util.Set;
import java.util.function.Supplier;
import java.util.function.ToLongFunction;

/**
 * What the tests of the edges share: each answer is asked for a sentence of the document, and a refused call is
 * looked at for what it leaves. At the end each sentence must stand in the document, and each word of the TERMS and
 * of the promises must be in a sentence that was looked at.
 */
final class Edge {
    static final int LOW = Integer.MIN_VALUE;
    static final int HIGH = Integer.MAX_VALUE;
    static final long ERROR = Long.MIN_VALUE;
    static final String TERMS = "Terms";
    private static final int PROMISES = 44;

    private final Map<String, Set<String>> quoted = new LinkedHashMap<>();
    private String place = "";
    private String sentence = "";
    private int ofSentence = 1;
    private int asked = 0;
    private int wrong = 0;

    /** All that is asked from here on is asked for this sentence of a promise. */
    void at(int promise, String sentence) {
        at("Promise " + promise, sentence);
    }

    void terms(String sentence) {
        at(TERMS, sentence);
    }

    private void at(String place, String sentence) {
        endSentence();
        this.place = place;
        this.sentence = sentence;
        ofSentence = 0;
        quoted.computeIfAbsent(place, p -> new LinkedHashSet<>()).add(sentence);
    }

    private void endSentence() {
        if (ofSentence == 0) {
            tell("nothing is asked for it");
        }
    }

    private void tell(String what) {
        wrong++;
        System.out.println(place + ", '" + sentence + "': " + what);
    }

    void due(String call, long got, long want) {
        asked++;
        ofSentence++;
        if (got != want) {
            tell(call + " answered " + got + ", due is " + want);
        }
    }

    void due(String call, boolean got, boolean want) {
        due(call, got ? 1 : 0, want ? 1 : 0);
    }

    /** The call is answered so, and leaves all as it is on an object made alike without it. */
    void leaves(String call, Supplier<RibbonRun> maker, ToLongFunction<RibbonRun> asked, long want) {
        RibbonRun x = maker.get();
        due(call, asked.applyAsLong(x), want);
        RibbonRun without = maker.get();
        due(call + " leaves fault(0)", x.fault(0), without.fault(0));
        due(call + " leaves fault(1)", x.fault(1), without.fault(1));
        alike(call + " leaves", x, without);
    }

    /** A call with a number put into it. */
    interface Asked {
        ToLongFunction<RibbonRun> with(int no);
    }

    /** With each of these numbers the call is answered by NONE, and leaves all as it is. */
    void refused(String call, Supplier<RibbonRun> maker, int[] values, Asked asked) {
        for (int no : values) {
            leaves(call + " " + no, maker, asked.with(no), RibbonRun.NONE);
        }
    }

    /** Two objects are alike in all that can be asked but fault(); both are used up by this. */
    void alike(String told, RibbonRun one, RibbonRun other) {
        asked++;
        ofSentence++;
        String is = Portrait.of(one);
        String was = Portrait.of(other);
        if (!is.equals(was)) {
            tell(told + "\n  " + is + "\n  due is\n  " + was);
        }
    }

    /** A text with a FAULT at a place, or without one (0). */
    void fault(String text, int fault, int at) {
        RibbonRun x = new RibbonRun();
        int lines = Check.read(x, text);
        due("text is refused: " + text, lines < 0 ? lines : 0, fault == 0 ? 0 : -1);
        due("fault(0) of " + text, x.fault(0), fault);
        due("fault(1) of " + text, x.fault(1), at);
    }

    void fine(String text, int lines) {
        RibbonRun x = new RibbonRun();
        due("lines of " + text, Check.read(x, text), lines);
        due("fault(0) of " + text, x.fault(0), 0);
        due("fault(1) of " + text, x.fault(1), -1);
    }

    /** What is just beyond the bounds, and as far beyond as can be. */
    static int[] beyond(int least, int most) {
        return new int[] {least - 1, most + 1, LOW, HIGH};
    }

    void end(Path document) throws IOException {
        endSentence();
        String text = Files.readString(document).replaceAll("\\s+", " ");
        covered(TERMS, part(text, "An object is used", " ## The public face ") + " "
            + part(text, " ## Terms ", " ## Promise 1: ").replace("```text ", "").replace("```", ""));
        for (int i = 1; i <= PROMISES; i++) {
            String next = i < PROMISES ? " ## Promise " + (i + 1) + ": " : " ## Not promised ";
            String whole = part(text, " ## Promise " + i + ": ", next);
            covered("Promise " + i, whole.substring(whole.indexOf("`: ") + 3));
        }
        System.out.println("EdgeTest: " + asked + " answers for " + quoted.values().stream().mapToInt(Set::size).sum()
            + " sentences, " + wrong + " not as due");
        if (wrong != 0) {
            System.exit(1);
        }
    }

    private static String part(String text, String from, String to) {
        int start = text.indexOf(from);
        return text.substring(from.startsWith(" ") ? start + from.length() : start, text.indexOf(to, start));
    }

    private void covered(String where, String text) {
        boolean[] isCovered = new boolean[text.length()];
        place = where;
        for (String one : quoted.getOrDefault(where, Set.of())) {
            sentence = one;
            int start = text.indexOf(one);
            if (start < 0) {
                tell("the document doesn't say so");
            }
            for (; start >= 0; start = text.indexOf(one, start + 1)) {
                java.util.Arrays.fill(isCovered, start, start + one.length(), true);
            }
        }
        StringBuilder left = new StringBuilder();
        for (int i = 0; i < text.length(); i++) {
            left.append(isCovered[i] ? '|' : text.charAt(i));
        }
        for (String piece : left.toString().split("\\|+")) {
            if (piece.matches(".*[A-Za-z].*")) {
                sentence = piece.trim();
                tell("no test is for it");
            }
        }
    }
}
