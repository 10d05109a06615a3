import java.nio.charset.StandardCharsets;

/** Counts and prints the answers that are not as due, and makes objects that have read a text. */
final class Check {
    private final String name;
    private int wrong = 0;
    private int asked = 0;

    Check(String name) {
        this.name = name;
    }

    void due(String call, long got, long want) {
        asked++;
        if (got != want) {
            wrong++;
            System.out.println(name + ": " + call + " answered " + got + ", due is " + want);
        }
    }

    void due(String call, boolean got, boolean want) {
        due(call, got ? 1 : 0, want ? 1 : 0);
    }

    void end() {
        System.out.println(name + ": " + asked + " answers, " + wrong + " not as due");
        if (wrong != 0) {
            System.exit(1);
        }
    }

    /** Feeds the text, filled up with blanks, and reads just the text. */
    static int read(RibbonRun x, String text) {
        return read(x, text.getBytes(StandardCharsets.ISO_8859_1));
    }

    static int read(RibbonRun x, byte[] bytes) {
        for (int i = 0; i < bytes.length; i += 20) {
            x.feed(four(bytes, i), four(bytes, i + 4), four(bytes, i + 8), four(bytes, i + 12), four(bytes, i + 16));
        }
        return x.text(bytes.length);
    }

    static int four(byte[] bytes, int from) {
        int four = 0;
        for (int i = from; i < from + 4; i++) {
            four = four << 8 | (i < bytes.length ? bytes[i] & 255 : 32);
        }
        return four;
    }

    /** An object that has read the text; a text with a fault is a fault of the test. */
    static RibbonRun of(String text) {
        RibbonRun x = new RibbonRun();
        int lines = read(x, text);
        if (lines < 0) {
            throw new IllegalStateException("fault " + x.fault(0) + " at " + x.fault(1) + " of " + text);
        }
        return x;
    }

    static int letters(String name) {
        int packed = 0;
        for (int i = 0; i < 6; i++) {
            packed = packed << 5 | (i < name.length() ? name.charAt(i) - 'a' + 1 : 0);
        }
        return packed;
    }
}
