import java.nio.charset.StandardCharsets;

/** The edges of what is fed and read: promises 1 to 5, and what the TERMS say of a TEXT. */
final class EdgeText {
    private static final String TWO = "grower a 1 1 1 1;grower b 1 1 1 1;";
    private static final String[] LANGUAGE = {"grower", "sees", "ribbon", "blight", "seed", "law", "judge", "grow", "give",
        "or", "and", "not", "worth", "own", "doubt", "far", "had", "since", "year"};

    private final Edge edge;

    private EdgeText(Edge edge) {
        this.edge = edge;
    }

    static void all(Edge edge) {
        EdgeText test = new EdgeText(edge);
        test.calls();
        test.newObject();
        test.feeding();
        test.reading();
        test.anew();
        test.refusedTexts();
        test.faults();
        test.naming();
        test.lines();
        test.words();
        test.expressions();
        test.bounds();
        test.told();
        test.placesOfFaults();
        test.tooMuch();
        test.toldAlready();
        test.untold();
    }

    static void feed(RibbonRun x, String twenty) {
        byte[] bytes = twenty.getBytes(StandardCharsets.ISO_8859_1);
        x.feed(Check.four(bytes, 0), Check.four(bytes, 4), Check.four(bytes, 8), Check.four(bytes, 12), Check.four(bytes, 16));
    }

    private void calls() {
        edge.terms("An object is used for at most 512 calls after it has been made; what later calls answer is free.");
        RibbonRun x = Check.of("grower a 0 0 0 0;");
        for (int i = 2; i < 511; i++) {
            x.raise(0, 1);
        }
        edge.due("the 512th call", x.raise(0, 1), 510);
    }

    private void newObject() {
        edge.at(1, "A TEXT without LINES;");
        RibbonRun x = new RibbonRun();
        for (int what = 0; what < 10; what++) {
            edge.due("count(" + what + ")", x.count(what), 0);
        }
        edge.due("fault(0)", x.fault(0), 0);
        edge.due("fault(1)", x.fault(1), -1);
        edge.due("deserves()", x.deserves(), -1);
        edge.due("popular()", x.popular(), -2);
        edge.due("order(0)", x.order(0), -2);
        edge.due("back()", x.back(), -1);
        edge.due("undo()", x.undo(), -1);
        RibbonRun y = new RibbonRun();
        edge.due("text(0)", y.text(0), 0);
        edge.alike("a new object and one with a TEXT without LINES", new RibbonRun(), y);
        edge.at(1, "an empty TAPE.");
        edge.leaves("text(1)", RibbonRun::new, z -> z.text(1), -2);
        edge.due("text(0)", new RibbonRun().text(0), 0);
        edge.due("feed()", new RibbonRun().feed(0, 0, 0, 0, 0), 20);
    }

    private void feeding() {
        edge.at(2, "Twenty bytes come behind the TAPE, four of each number, the highest first: how many it has;");
        RibbonRun x = new RibbonRun();
        // "grow", "er a", "b 9 ", "8-7 ", "6 54"
        edge.due("feed", x.feed(0x67726f77, 0x65722061, 0x62203938, 0x2d372036, 0x20353420), 20);
        edge.due("feed behind it", x.feed(0x203b7365, 0x65642031, 0x323b6c61, 0x77206772, 0x6f772031), 40);
        edge.due("feed behind it", x.feed(0x3b202020, 0x20202020, 0x20202020, 0x20202020, 0x202020ff), 60);
        edge.due("text", x.text(59), 3);
        edge.due("named ab", x.named(Check.letters("ab")), 0);
        int[] due = {98, -7, 6, 54};
        for (int what = 0; what < 4; what++) {
            edge.due("grower(0, " + what + ")", x.grower(0, what), due[what]);
        }
        edge.due("the law", x.law(1, 0, 0), 1);
        edge.due("a byte of 255 at 59", x.feed(0x3b202020, 0x20202020, 0x20202020, 0x20202020, 0x202020ff), 20);
        x.text(20);
        edge.due("the first of all is at 0", x.fault(1), 0);
        x.feed(0x20202020, 0x20202020, 0x20202020, 0x20202020, 0x202020ff);
        x.text(20);
        edge.due("the last of all is at 19", x.fault(1), 19);
        x.feed(0x20202020, 0x20202020, 0x20202020, 0xff202020, 0x20202020);
        x.text(20);
        edge.due("the highest of the fourth is at 12", x.fault(1), 12);
        edge.at(2, "NONE, and none come, if it would have more than 700.");
        RibbonRun y = new RibbonRun();
        for (int i = 1; i < 35; i++) {
            edge.due("feed " + i, y.feed(0x20202020, 0x20202020, 0x20202020, 0x20202020, 0x20202020), 20 * i);
        }
        edge.due("feed up to 700: seed 5;", y.feed(0x20202020, 0x20202020, 0x20202020, 0x20736565, 0x6420353b), 700);
        edge.due("feed beyond 700", y.feed(0, 0, 0, 0, 0), -1);
        edge.due("feed beyond 700 again", y.feed(-1, -1, -1, -1, -1), -1);
        edge.due("there are not 701", y.text(701), -2);
        edge.due("there are not 720", y.text(720), -2);
        edge.due("the 700 are as they were", y.text(700), 1);
        edge.due("there is room again", y.feed(0, 0, 0, 0, 0), 20);
        edge.leaves("feed beyond 700", EdgeText::full, z -> z.feed(-1, 0, -1, 0, -1), -1);
    }

    /** A tape of 700 bytes, and no more than that in it: a text that is none from its last byte on. */
    private static RibbonRun full() {
        RibbonRun x = Busy.withoutTape();
        for (int i = 0; i < 34; i++) {
            feed(x, "");
        }
        feed(x, "blight 5;seed 6;  ;?");
        return x;
    }

    private void reading() {
        edge.at(3, "The TAPE's first n bytes (it is empty then) are the TEXT");
        String text = "blight 5;seed 6;?   ";
        int[] n = {0, 9, 16};
        for (int i = 0; i < 3; i++) {
            RibbonRun x = new RibbonRun();
            feed(x, text);
            edge.due("text(" + n[i] + ")", x.text(n[i]), i);
            edge.due("nothing is left", x.text(1), -2);
            edge.due("it is empty", x.feed(0, 0, 0, 0, 0), 20);
        }
        RibbonRun x = new RibbonRun();
        feed(x, text);
        edge.due("one byte more has a fault", x.text(17), -1);
        edge.due("it is empty with a fault, too", x.feed(0, 0, 0, 0, 0), 20);
        edge.due("one byte less has a fault", Check.read(new RibbonRun(), "blight 5"), -1);
        edge.at(3, "how many LINES;");
        StringBuilder most = new StringBuilder();
        for (char c = 'a'; c <= 'f'; c++) {
            most.append("grower ").append(c).append(" 0 0 0 0;");
        }
        for (char c = 'a'; c <= 'f'; c++) {
            for (char d = 'a'; d <= 'f'; d++) {
                most.append(c == d ? "" : "sees " + c + " " + d + ";");
            }
        }
        most.append("ribbon a;ribbon f;blight 9;seed 9;law judge 1;law grow 1;law give 1;");
        RibbonRun y = new RibbonRun();
        edge.due("most lines that there can be", Check.read(y, most.toString()), 43);
        edge.due("sees", y.count(1), 30);
        edge.due("no line of blanks alone", Check.read(y, " \n "), 0);
        edge.due("no line", y.text(0), 0);
        edge.due("one", Check.read(y, "seed 1;"), 1);
        edge.at(3, "-2, and the TAPE stays: there are not so many, n is below 0.");
        for (int no : Edge.beyond(0, 20)) {
            edge.leaves("text(" + no + ") of 20", Busy::full, z -> z.text(no), -2);
        }
        RibbonRun z = new RibbonRun();
        feed(z, "seed 5;             ");
        edge.due("one more than there are", z.text(21), -2);
        edge.due("below 0", z.text(-1), -2);
        edge.due("what was fed is there", z.feed(0x20202020, 0x20202020, 0x20202020, 0x20202020, 0x20202020), 40);
        edge.due("one more than there are", z.text(41), -2);
        edge.due("as many as there are", z.text(40), 1);
    }

    private void anew() {
        edge.at(3, "(YEAR 0, SINCE 0, no HANDINGS, SIGHTS, all KNOWN, no IMAGE, nothing to undo then)");
        String text = TWO + "sees a b;ribbon b;ribbon a;";
        RibbonRun x = Busy.full();
        x.text(0);
        edge.due("read behind all that was done", Check.read(x, text), 5);
        edge.due("YEAR", x.count(4), 0);
        edge.due("SINCE", x.ribbon(0, 1), 0);
        edge.due("SINCE", x.ribbon(1, 1), 0);
        edge.due("handed", x.count(5), 0);
        edge.due("told", x.count(7), 0);
        edge.due("undo", x.count(9), 0);
        RibbonRun y = Busy.full();
        y.text(0);
        Check.read(y, text);
        edge.alike("an object that had another text, and one that had none", y, Check.of(text));
        x.note(0, 1);
        x.note(0, 1);
        edge.due("all are known", x.count(8), 2);
        edge.due("no image", x.back(), -1);
        edge.due("nothing to undo", x.undo(), -1);
        againAndAgain();
        RibbonRun z = Busy.full();
        edge.due("a text without lines", z.text(0), 0);
        edge.alike("a text without lines and a new object", z, new RibbonRun());
    }

    /** What one text told, or told up to its fault, is not told to the next one. */
    private void againAndAgain() {
        String whole = TWO + "sees a b;ribbon a;ribbon b;blight 60;seed 8;law judge 1;law grow 2;law give (3 or 4);";
        String plain = TWO + "sees b a;ribbon b;blight 50;";
        String[] cut = {"blight 1;?", "seed 1;?", "law judge 1;?", "law judge ((not (1 + ?", "law grow not (1", whole + "?", growers(6) + "?",
            TWO + "sees a b;sees b a;ribbon a;ribbon a;?", "law judge not " + sum(63) + "+"};
        RibbonRun x = new RibbonRun();
        for (int i = 0; i < cut.length; i++) {
            edge.due("text " + cut[i], Check.read(x, cut[i]), -1);
            for (int j = 0; j < 2; j++) {
                edge.due("a whole one behind it", Check.read(x, whole), 10);
                edge.due("its KNOTS", x.count(3), 5);
                edge.due("its law of judging", x.law(0, 0, 1), 1);
                edge.due("its law of growing", x.law(1, 0, 0), 2);
                edge.due("its law of giving", x.law(2, 0, 0), 1);
            }
        }
        RibbonRun y = Check.of(whole);
        Check.read(y, whole);
        edge.due("a plain one", Check.read(y, plain), 5);
        edge.alike("a plain text behind two whole ones", y, Check.of(plain));
        RibbonRun z = Check.of(whole);
        Check.read(z, plain);
        Check.read(z, "law grow ((((((((1");
        edge.due("a whole one", Check.read(z, whole), 10);
        edge.alike("a whole text behind a plain one and one with a fault", z, Check.of(whole));
    }

    private void refusedTexts() {
        edge.at(3, "NONE with a FAULT, all stays;");
        String[] texts = {"?", "grower q 1 1 1 1;sees q q;", "grower q 1 1 1 1;ribbon q;ribbon q;ribbon q;",
            "blight 100;seed 77;law judge 5;law grow 5;law give 5;law give 6;", TWO + "grower c 1 1 1 1;grower d 1 1 1 1;sees a",
            "grower d 9 9 9 9;blight 99;seed 99;blight", "law judge ((((((((("};
        int[] faults = {1, 5, 2, 3, 1, 3, 2};
        for (int i = 0; i < texts.length; i++) {
            RibbonRun x = Busy.withoutTape();
            edge.due("text " + texts[i], Check.read(x, texts[i]), -1);
            edge.due("its fault", x.fault(0), faults[i]);
            edge.alike("all stays with " + texts[i], x, Busy.withoutTape());
        }
    }

    private void faults() {
        edge.at(4, "Of the latest text() that was not -2, what 0: its FAULT (0), 1: its place (NONE without).");
        RibbonRun x = new RibbonRun();
        faultIs("no text yet", x, 0, -1);
        x.text(1);
        faultIs("only one that was -2", x, 0, -1);
        Check.read(x, "blight 101;");
        faultIs("too much", x, 2, 7);
        x.text(1);
        faultIs("-2 behind it", x, 2, 7);
        x.text(-1);
        faultIs("-2 behind it", x, 2, 7);
        x.go(1);
        x.keep();
        x.back();
        faultIs("other calls behind it", x, 2, 7);
        Check.read(x, "?");
        faultIs("a fault at 0", x, 1, 0);
        Check.read(x, "seed 1;");
        faultIs("none", x, 0, -1);
        x.text(1);
        faultIs("none, and -2 behind it", x, 0, -1);
        Check.read(x, ";");
        faultIs("a fault at 0", x, 1, 0);
        x.text(0);
        faultIs("no lines", x, 0, -1);
        edge.at(4, "NONE for another what.");
        for (int no : Edge.beyond(0, 1)) {
            edge.leaves("fault(" + no + ")", Busy::full, z -> z.fault(no), -1);
        }
        edge.due("what 0", Busy.full().fault(0), 0);
        edge.due("what 1", Busy.full().fault(1), -1);
    }

    private void faultIs(String told, RibbonRun x, int fault, int place) {
        edge.due(told + ": fault(0)", x.fault(0), fault);
        edge.due(told + ": fault(1)", x.fault(1), place);
    }

    private void naming() {
        edge.at(5, "The number of a GROWER by its letters, 5 bits each (a is 1; the first one highest of six, 0 behind the last one);");
        RibbonRun x = Check.of("grower z 1 1 1 1;grower a 1 1 1 1;grower az 1 1 1 1;grower aaaaaa 1 1 1 1;grower zzzzzz 1 1 1 1;"
            + "grower aaaaa 1 1 1 1;");
        edge.due("z", x.named(26 << 25), 0);
        edge.due("a", x.named(1 << 25), 1);
        edge.due("az", x.named(1 << 25 | 26 << 20), 2);
        edge.due("aaaaaa", x.named(1 << 25 | 1 << 20 | 1 << 15 | 1 << 10 | 1 << 5 | 1), 3);
        edge.due("zzzzzz", x.named(26 << 25 | 26 << 20 | 26 << 15 | 26 << 10 | 26 << 5 | 26), 4);
        edge.due("aaaaa", x.named(1 << 25 | 1 << 20 | 1 << 15 | 1 << 10 | 1 << 5), 5);
        edge.at(5, "NONE: there is none such.");
        int[] none = {0, 1, -1, Edge.LOW, Edge.HIGH, 1 << 20, 27 << 25, 2 << 25, 1 << 25 | 1 << 20, 1 << 25 | 1 << 30,
            1 << 25 | 1 << 31, 26 << 25 | 1, 1 << 25 | 26 << 15};
        for (int no : none) {
            edge.due("named(" + no + ")", x.named(no), -1);
            edge.leaves("named(" + no + ")", () -> Check.of("grower az 1 1 1 1;ribbon az;"), z -> z.named(no), -1);
        }
        edge.due("no growers", new RibbonRun().named(1 << 25), -1);
        Check.read(x, "grower b 1 1 1 1;");
        edge.due("one of another text", x.named(1 << 25), -1);
        edge.due("one of a text with a fault", Check.read(x, "grower c 1 1 1 1;?"), -1);
        edge.due("one of a text with a fault", x.named(3 << 25), -1);
        edge.due("b is there", x.named(2 << 25), 0);
    }

    private void lines() {
        edge.terms("A TEXT: { LINE ';' }.");
        edge.fine("", 0);
        edge.fine("seed 1;", 1);
        edge.fine("seed 1;blight 1;", 2);
        edge.fault("seed 1", 1, 6);
        edge.fault("seed 1;blight 1", 1, 15);
        edge.fault("seed 1 blight 1;", 1, 7);
        edge.fault(";", 1, 0);
        edge.fault("seed 1;;", 1, 7);
        edge.fault("seed;", 1, 4);
        edge.terms("LINE: grower W N [ - ] N N N | sees W W | ribbon W | blight N | seed N | law LAW E.");
        String[] lines = {"grower c 1 1 1 1", "grower c 1 - 1 1 1", "sees a b", "ribbon a", "blight 1", "seed 1", "law judge 1"};
        for (String line : lines) {
            pieces(line);
        }
        edge.fault("grower a - 1 1 1 1;", 1, 9);
        edge.fault("grower a 1 1 - 1 1;", 1, 13);
        edge.fault("grower a 1 1 1 - 1;", 1, 15);
        edge.fault("grower a 1 - - 1 1 1;", 1, 13);
        edge.fault("grower a 1 + 1 1 1;", 1, 11);
        edge.fault("blight - 1;", 1, 7);
        edge.fault("seed - 1;", 1, 5);
        edge.terms("LAW: judge | grow | give.");
        edge.fine("law judge 1;law grow 1;law give 1;", 3);
        for (int i = 0; i < LANGUAGE.length; i++) {
            if (i < 6 || i > 8) {
                edge.fault("law " + LANGUAGE[i] + " 1;", 1, 4);
            }
        }
        edge.fault("law a 1;", 1, 4);
        edge.fault("law 1;", 1, 4);
        edge.fault("law judges 1;", 1, 4);
    }

    /** A line must be whole: cut behind each of its tokens, with another token in place of one, with one more. */
    private void pieces(String line) {
        String[] tokens = line.split(" ");
        String ahead = TWO;
        edge.fine(TWO + line + ";", 3);
        edge.fine(TWO + line.replace(" ", "\n") + "\n;", 3);
        for (int i = 0; i < tokens.length; i++) {
            String behind = " " + String.join(" ", java.util.Arrays.copyOfRange(tokens, i + 1, tokens.length)) + ";";
            if (i > 0) {
                edge.fault(ahead, 1, ahead.length());
                edge.fault(ahead + ";", 1, ahead.length());
            }
            edge.fault(ahead + "?" + behind, 1, ahead.length());
            edge.fault(ahead + "abcdefg" + behind, 1, ahead.length());
            edge.fault(ahead + ")" + behind, 1, ahead.length());
            edge.fault(ahead + "law" + (i == 0 ? ";" : behind), 1, ahead.length() + (i == 0 ? 3 : 0));
            ahead += tokens[i] + (i + 1 < tokens.length ? " " : "");
        }
        edge.fault(ahead, 1, ahead.length());
        edge.fault(ahead + " a;", 1, ahead.length() + 1);
        edge.fault(ahead + " 1;", 1, ahead.length() + 1);
        edge.fault(ahead + " " + line + ";", 1, ahead.length() + 1);
    }

    private void words() {
        edge.terms("Words: small letters in a row;");
        edge.fine("grower a 1 1 1 1;grower z 1 1 1 1;", 2);
        edge.fine("grower az1 1 1 1;", 1);
        edge.fault("grower ` 1 1 1 1;", 1, 7);
        edge.fault("grower { 1 1 1 1;", 1, 7);
        edge.fault("grower A 1 1 1 1;", 1, 7);
        edge.fault("grower Z 1 1 1 1;", 1, 7);
        edge.fault("grower aA 1 1 1 1;", 1, 8);
        edge.fault("grower a_b 1 1 1 1;", 1, 8);
        edge.fault("grower a b 1 1 1 1;", 1, 9);
        edge.fault("Seed 1;", 1, 0);
        edge.fault("growera 1 1 1 1;", 1, 0);
        edge.terms("W: one of 1 .. 6 letters, none of those of the language;");
        edge.fine("grower a 1 1 1 1;", 1);
        edge.fine("grower abcdef 1 1 1 1;ribbon abcdef;", 2);
        edge.fault("grower 1 1 1 1;", 1, 7);
        edge.fault("grower abcdefg 1 1 1 1;", 1, 7);
        edge.fault("grower abcdefghijklmnopqrstuvwxyz 1 1 1 1;", 1, 7);
        for (String word : LANGUAGE) {
            edge.fault("grower " + word + " 1 1 1 1;", 1, 7);
            edge.fault(TWO + "sees " + word + " a;", 1, 39);
            edge.fault(TWO + "sees a " + word + ";", 1, 41);
            edge.fault(TWO + "ribbon " + word + ";", 1, 41);
            if (!word.equals("grower")) {
                String shorter = word.substring(0, word.length() - 1);
                edge.fine("grower " + shorter + " 1 1 1 1;ribbon " + shorter + ";", 2);
            }
            if (word.length() < 6) {
                edge.fine("grower " + word + "x 1 1 1 1;ribbon " + word + "x;", 2);
            } else {
                edge.fault("grower " + word + "x 1 1 1 1;", 1, 7);
            }
        }
        edge.terms("N: digits.");
        edge.fine("seed 0;", 1);
        edge.fine("seed 9;", 1);
        edge.fine("seed 000000000000000000000000000000;", 1);
        edge.fine("grower a 0099 0009 0009 0099;law judge 0009999;blight 000100;seed 0000099999;", 4);
        edge.fault("seed /;", 1, 5);
        edge.fault("seed :;", 1, 5);
        edge.fault("seed 1:;", 1, 6);
        edge.fault("seed 1.5;", 1, 6);
        edge.fault("seed 1 1;", 1, 7);
        edge.fault("seed 1a;", 1, 6);
        edge.terms("Blanks 10, 32.");
        edge.fine("\n \n seed\n \n5\n;\n ", 1);
        edge.fine("seed5;", 1);
        edge.fine("grower a1-1 1 1;", 1);
        for (int no : new int[] {0, 1, 8, 9, 11, 12, 13, 31, 33, 127, 128, 133, 138, 160, 255}) {
            edge.fault("seed" + (char) no + "5;", 1, 4);
            edge.fault("seed 5;" + (char) no, 1, 7);
            edge.fault((char) no + "seed 5;", 1, 0);
        }
    }

    private void expressions() {
        edge.terms("E: A { or A }. A: B { and B }. B: not B | C. C: S [ ( < | <= | = | <> | >= | > ) S ]. "
            + "S: T { ( + | - ) T }. T: P { ( * | / ) P }. P: N | NAME | '(' E ')';");
        for (String e : new String[] {"1", "(1)", "((1))", "1 or 1", "1 or 1 or 1", "1 and 1", "1 and 1 and 1", "not 1",
            "not not not 1", "1 or not 1", "1 and not 1", "(not 1)", "not (1)", "1 < 2", "1 <= 2", "1 = 2", "1 <> 2", "1 >= 2",
            "1 > 2", "not 1 < 2", "(1 < 2) < 3", "1 < (2 < 3)", "1 < 2 and 2 < 3", "1 < 2 or 2 < 3", "not 1 < 2 and not 2 < 3",
            "1 + 1 - 1 * 1 / 1", "1 + 1 < 1 - 1", "(1 or 1) + 1", "1 * (not 1)", "(1)+(1)"}) {
            edge.fault("law grow " + e + ";", 0, -1);
        }
        String[] wrong = {";", "or 1;", "and 1;", "1 or;", "1 and;", "1 or or 1;", "1 and or 1;", "not;", "not or 1;", "1 not 1;",
            "1 < 2 < 3;", "1 = 2 <> 3;", "not 1 < 2 < 3;", "1 < not 2;", "1 + not 1;", "1 * not 1;", "(1 < 2 < 3);", "< 1;", "1 <;",
            "+ 1;", "- 1;", "1 + - 1;", "1 +;", "1 * / 1;", "1 1;", "1 (1);", "(1) 1;", "();", "(1;", "1);", ")(;", "(1));", "((1);",
            "1 worth;", "a;", "1 + a;", "1 law;"};
        int[] at = {0, 0, 0, 4, 5, 5, 6, 3, 4, 2, 6, 6, 10, 4, 4, 4, 7, 0, 3, 0, 0, 4, 3, 4, 2, 2, 4, 1, 2, 1, 0, 3, 4, 2, 0, 4, 2};
        for (int i = 0; i < wrong.length; i++) {
            edge.fault("law grow " + wrong[i], 1, 9 + at[i]);
        }
        edge.due("or binds least", value("1 or 1 and 0"), 1);
        edge.due("and binds less than not", value("not 0 and 0"), 0);
        edge.due("not binds less than =", value("not 1 = 0"), 1);
        edge.due("not binds less than +", value("not 1 + 1"), 0);
        edge.due("not binds less than *", value("not 2 * 0"), 1);
        edge.due("= binds less than +", value("2 + 1 = 3"), 1);
        edge.due("= binds less than -", value("3 = 4 - 1"), 1);
        edge.due("> binds less than +", value("2 + 1 > 2"), 1);
        edge.due("> binds less than -", value("2 > 4 - 3"), 1);
        edge.due("+ binds less than *", value("1 + 2 * 3"), 7);
        edge.due("- from the left", value("9 - 5 - 3"), 1);
        edge.due("/ from the left", value("64 / 8 / 2"), 4);
        edge.due("'(' binds most", value("(1 + 2) * 3"), 9);
        edge.due("'(' binds most", value("(1 or 0) + 1"), 2);
        edge.due("'(' binds most", value("not (1 and 0) + 1"), 0);
        edge.due("'(' binds most", value("(not 1 and 0) + (0 or 7 > 6) * 5"), 5);
        String[] signs = {"<", "<=", "=", "<>", ">=", ">"};
        for (String sign : signs) {
            for (String other : signs) {
                edge.fault("law grow 1 " + sign + " 2 " + other + " 3;", 1, 14 + sign.length());
                edge.fault("law grow 1 " + sign + " (2 " + other + " 3);", 0, -1);
            }
        }
        edge.terms("N of E 0 .. 9999.");
        edge.due("0", value("0"), 0);
        edge.due("9999", value("9999"), 9999);
        edge.fault("law grow 10000;", 2, 9);
        edge.fault("law grow 1 + 10000;", 2, 13);
        edge.fault("law grow 4294967296;", 2, 9);
        edge.fault("law grow 18446744073709551616;", 2, 9);
        edge.terms("NAME: worth own doubt far had since year.");
        for (int i = 0; i < LANGUAGE.length; i++) {
            boolean isName = i >= 12;
            edge.fault("law grow " + LANGUAGE[i] + ";", isName ? 0 : 1, isName ? -1 : LANGUAGE[i].equals("not") ? 12 : 9);
        }
        edge.fault("law grow wort;", 1, 9);
        edge.fault("law grow worths;", 1, 9);
        edge.terms("A = (or > behind <) right behind < or > belongs to it.");
        edge.due("<=", value("2 <= 2"), 1);
        edge.due(">=", value("2 >= 2"), 1);
        edge.due("<>", value("2 <> 2"), 0);
        edge.due("<=, no blanks", value("2<=2"), 1);
        String[] apart = {"1 < = 2", "1 > = 2", "1 < > 2", "1 = < 2", "1 =< 2", "1 => 2", "1 >< 2", "1 >> 2", "1 << 2", "1 == 2",
            "1 <=> 2", "1 <>= 2", "1 >== 2", "1 <\n= 2"};
        int[] second = {4, 4, 4, 4, 3, 3, 3, 3, 3, 3, 4, 4, 4, 4};
        for (int i = 0; i < apart.length; i++) {
            edge.fault("law grow " + apart[i] + ";", 1, 9 + second[i]);
        }
    }

    private static long value(String e) {
        return Check.of("grower a 7 1 3 10;law grow " + e + ";").law(1, 0, 0);
    }

    private void bounds() {
        edge.terms("GROWERS, at most 6: WORTH 0 .. 99, GROWS -9 .. 9, DOUBT 0 .. 9, PLACE 0 .. 99.");
        RibbonRun x = Check.of("grower a 0 - 9 0 0;grower b 99 9 9 99;grower c 1 -0 1 1;");
        int[][] due = {{0, -9, 0, 0}, {99, 9, 9, 99}, {1, 0, 1, 1}};
        for (int g = 0; g < 3; g++) {
            for (int what = 0; what < 4; what++) {
                edge.due("grower(" + g + ", " + what + ")", x.grower(g, what), due[g][what]);
            }
        }
        edge.fault("grower a 100 1 1 1;", 2, 9);
        edge.fault("grower a 1 10 1 1;", 2, 11);
        edge.fault("grower a 1 -10 1 1;", 2, 12);
        edge.fault("grower a 1 1 10 1;", 2, 13);
        edge.fault("grower a 1 1 1 100;", 2, 15);
        edge.due("six growers", Check.of(growers(6)).count(0), 6);
        edge.fault(growers(7), 2, 102);
        edge.terms("sees: one SEES another one (each two once in that order).");
        RibbonRun y = Check.of(TWO + "sees a b;");
        edge.due("a SEES b", y.grower(0, 5), 2);
        edge.due("b doesn't see a", y.grower(1, 5), 0);
        edge.fine(TWO + "sees a b;sees b a;", 4);
        edge.fault(TWO + "sees a b;sees b a;sees a b;", 3, 59);
        edge.fault(TWO + "sees a a;", 5, 41);
        edge.terms("RIBBONS, at most 2: who has it at first.");
        edge.due("none", Check.of(TWO).count(2), 0);
        edge.due("one", Check.of(TWO + "ribbon b;").ribbon(0, 0), 1);
        RibbonRun z = Check.of(TWO + "ribbon b;ribbon a;");
        edge.due("the first", z.ribbon(0, 0), 1);
        edge.due("the second", z.ribbon(1, 0), 0);
        edge.due("both with one", Check.of(TWO + "ribbon b;ribbon b;").grower(1, 6), 3);
        edge.fault(TWO + "ribbon b;ribbon a;ribbon b;", 2, 52);
        edge.terms("blight: of a hundred 0 .. 100 (0).");
        edge.fine("blight 0;", 1);
        edge.fine("blight 100;", 1);
        edge.fault("blight 101;", 2, 7);
        edge.due("without: none, by no number", worthBehind("", 40), 99);
        edge.due("0 is as without", worthBehind("blight 0;", 40), 99);
        edge.due("100: each year", worthBehind("blight 100;", 3), 84);
        edge.terms("seed: 0 .. 99999 (0).");
        edge.fine("seed 0;", 1);
        edge.fine("seed 99999;", 1);
        edge.fault("seed 100000;", 2, 5);
        edge.due("without is as 0", worthBehind("blight 50;", 9), worthBehind("blight 50;seed 0;", 9));
        edge.due("by 0", worthBehind("blight 50;", 5), 99 - 5 * below(0, 5, 50));
        edge.due("by 99999", worthBehind("blight 50;seed 99999;", 9), 99 - 5 * below(99999, 9, 50));
    }

    private static String growers(int n) {
        StringBuilder text = new StringBuilder();
        for (int i = 0; i < n; i++) {
            text.append("grower ").append((char) ('a' + i)).append(" 1 1 1 1;");
        }
        return text.toString();
    }

    private static int worthBehind(String lines, int years) {
        RibbonRun x = Check.of("grower a 99 0 0 0;" + lines);
        x.go(years);
        return x.grower(0, 0);
    }

    /** How many of n numbers from a seed on are, modulo 100, below a bound. */
    private static int below(long seed, int n, int bound) {
        int many = 0;
        for (int i = 0; i < n; i++) {
            seed = (seed * 1103515245L + 12345) % (1L << 31);
            many += seed / 65536 % 100 < bound ? 1 : 0;
        }
        return many;
    }

    private void told() {
        edge.terms("All numbered as they come; GROWERS have names.");
        RibbonRun x = Check.of("grower f 1 0 0 0;ribbon f;grower e 2 0 0 0;sees f e;grower d 3 0 0 0;grower c 4 0 0 0;ribbon c;"
            + "grower b 5 0 0 0;grower a 6 0 0 0;sees a f;");
        for (int g = 0; g < 6; g++) {
            edge.due("the name of " + g, x.named(Check.letters("fedcba".substring(g, g + 1))), g);
            edge.due("worth of " + g, x.grower(g, 0), g + 1);
        }
        edge.due("f sees e", x.grower(0, 5), 2);
        edge.due("a sees f", x.grower(5, 5), 1);
        edge.due("ribbon 0", x.ribbon(0, 0), 0);
        edge.due("ribbon 1", x.ribbon(1, 0), 3);
    }

    private void placesOfFaults() {
        edge.terms("FAULTS, the first along the text (of one place the least), with its place:");
        edge.fault("blight 101 ?", 2, 7);
        edge.fault("? blight 101;", 1, 0);
        edge.fault("seed 1;seed 100000;", 3, 7);
        edge.fault("sees x x;", 4, 5);
        edge.fault("grower a 1 1 1 1;grower a 100 10 10 100;", 3, 24);
        edge.fault("grower a 100 1 1 1;grower a 1 1 1 1;", 2, 9);
        edge.fault(TWO + "sees a a;sees a c;", 5, 41);
        edge.fault(TWO + "sees a c;sees a a;", 4, 41);
        edge.fault("law judge 1;law judge ?;", 3, 16);
        // What is too much or told already at a place where it can't stand is 1.
        edge.fault("blight 1 101;", 1, 9);
        edge.fault("blight 1 blight 1;", 1, 9);
        edge.fault("seed 1 seed 1;", 1, 7);
        edge.fault("law judge 1 10000;", 1, 12);
        edge.fault("law judge ((((((((1(1", 1, 19);
        edge.fault("law judge not " + sum(63) + " 1;", 1, 14 + 64);
        edge.fault("law judge not " + sum(63) + ";law grow < 1;", 1, 14 + 64 + 9);
        edge.fault(growers(6) + "seed 1 grower g 1 1 1 1;", 1, 109);
        edge.fault(TWO + "ribbon a;ribbon a ribbon a;", 1, 52);
        edge.fault(TWO + "sees a b;sees a b a;", 3, 50);
        edge.terms("1 a TOKEN that is none (a word of more than 6 letters that isn't of the language, too) "
            + "or can't stand there (the length, if more must come).");
        edge.fault("!", 1, 0);
        edge.fault("  ?", 1, 2);
        edge.fault("seed 1;,", 1, 7);
        edge.fault("growers a 1 1 1 1;", 1, 0);
        edge.fault("law judge abcdefg;", 1, 10);
        edge.fault("law judge 1 + worthworth;", 1, 14);
        edge.fault(TWO + "ribbon abcdefg;", 1, 41);
        edge.fault("abcdef 1;", 1, 0);
        edge.fault("judge 1;", 1, 0);
        edge.fault("5;", 1, 0);
        edge.fault("seed", 1, 4);
        edge.fault("seed ", 1, 5);
        edge.fault("seed\n\n\n", 1, 7);
        edge.fault("seed 1", 1, 6);
        edge.fault("seed 1 ", 1, 7);
        edge.fault("law judge (1", 1, 12);
        edge.fault("law judge 1 <", 1, 13);
        RibbonRun x = new RibbonRun();
        feed(x, "seed 1;blight 1;    ");
        edge.due("text(13)", x.text(13), -1);
        edge.due("the length is n, not what was fed", x.fault(1), 13);
        feed(x, "law judge 1<=2;     ");
        edge.due("text(12)", x.text(12), -1);
        edge.due("the = behind n isn't looked at", x.fault(1), 12);
    }

    /** A sum of so many KNOTS, an odd number. */
    private static String sum(int knots) {
        return "1" + "+1".repeat(knots / 2);
    }

    private void tooMuch() {
        edge.terms("2 too much (at it; of a number with - at the digits): a number beyond what is said, "
            + "a seventh grower, a third ribbon (at the word of the LINE), a ninth '(' open, "
            + "a 65th KNOT of all E (N, NAMES, signs, not, and, or: one each).");
        edge.fault("grower a 1 -9 1 1;", 0, -1);
        edge.fault("grower a 1 -10 1 1;", 2, 12);
        edge.fault("grower a 1 -  10 1 1;", 2, 14);
        edge.fault("grower a 1 10 1 1;", 2, 11);
        edge.fault("seed 99999999999999999999999;", 2, 5);
        edge.fault("blight 4294967297;", 2, 7);
        edge.fault(growers(6), 0, -1);
        edge.fault(growers(6) + "grower", 2, 102);
        edge.fault(growers(6) + " grower a 1 1 1 1;", 2, 103);
        edge.fault(TWO + "ribbon a;ribbon b;", 0, -1);
        edge.fault(TWO + "ribbon a;ribbon b;ribbon", 2, 52);
        edge.fault(TWO + "ribbon a;ribbon b; ribbon c;", 2, 53);
        String eight = "((((((((1))))))))";
        edge.fault("law judge " + eight + ";", 0, -1);
        edge.fault("law judge (" + eight + ");", 2, 18);
        edge.fault("law judge (((((((((", 2, 18);
        edge.fault("law judge " + eight + "+" + eight + "+(1);", 0, -1);
        edge.fault("law judge " + eight + ";law grow " + eight + ";", 0, -1);
        edge.fault("law judge (((((((1)+((1)))))))));", 1, 31);
        edge.fault("law judge ((((((((1)+((1)))))))));", 2, 22);
        edge.fault("law judge ((((((((1)+(1)))))))) + ((((((((1)+(1))))))));", 0, -1);
        // 64 KNOTS and 65 of each kind.
        edge.fault("law judge not " + sum(63) + ";", 0, -1);
        edge.due("64 KNOTS", Check.of("law judge not " + sum(63) + ";").count(3), 64);
        edge.fault("law judge " + sum(65) + ";", 2, 10 + 64);
        edge.fault("law judge not " + sum(63) + "+1;", 2, 14 + 63);
        edge.fault("law judge not " + sum(63) + " and 1;", 2, 14 + 64);
        edge.fault("law judge not " + sum(63) + " or 1;", 2, 14 + 64);
        for (String sign : new String[] {"+", "-", "*", "/", "<", "<=", "=", "<>", ">=", ">"}) {
            edge.fault("law judge not " + sum(63) + sign + "1;", 2, 14 + 63);
            edge.fault("law judge " + sum(63) + sign + "1;", 2, 10 + 63 + sign.length());
            edge.fault("law judge " + sum(61) + sign + "1;", 0, -1);
        }
        edge.fault("law judge " + "not ".repeat(63) + "1;", 0, -1);
        edge.fault("law judge " + "not ".repeat(64) + "1;", 2, 10 + 4 * 64);
        edge.due("63 not", value("not ".repeat(63) + "1"), 0);
        edge.due("62 not", value("not ".repeat(62) + "1"), 1);
        // As many that wait for what stands behind them as there can be: 63 not and eight '('.
        edge.due("63 not and eight '('", value(("not ".repeat(7) + "(").repeat(8) + "not ".repeat(7) + "1" + ")".repeat(8)), 0);
        edge.due("62 not and eight '('", value(("not ".repeat(7) + "(").repeat(8) + "not ".repeat(6) + "1" + ")".repeat(8)), 1);
        edge.due("eight '(' in a sum", value("1+(".repeat(8) + sum(47) + ")".repeat(8)), 32);
        edge.fault("law judge " + "not ".repeat(65) + "1;", 2, 10 + 4 * 64);
        edge.fault("law judge " + sum(63) + "+worth;", 2, 10 + 64);
        edge.fault("law judge " + sum(31) + ";law grow " + sum(31) + ";law give not 1;", 0, -1);
        edge.fault("law judge " + sum(31) + ";law grow " + sum(31) + ";law give not not 1;", 2, 42 + 41 + 17);
        edge.fault("law judge not " + sum(63) + ";law grow 1;", 2, 14 + 64 + 9);
        edge.fault("law judge not " + sum(63) + ";law grow worth;", 2, 14 + 64 + 9);
        edge.fault("law judge not " + sum(63) + ";law grow not 1;", 2, 14 + 64 + 9);
        edge.fault("law judge not " + sum(63) + ";law grow (1);", 2, 14 + 64 + 10);
        edge.fault("law judge not ((((((((" + sum(63) + "))))))));", 0, -1);
    }

    private void toldAlready() {
        edge.terms("3 told already: a name (at W), the same two in that order (at the second W), blight, seed (at the word), "
            + "a law of its LAW (at LAW).");
        edge.fault(TWO + "grower a 1 1 1 1;", 3, 41);
        edge.fault(TWO + "grower  b", 3, 42);
        edge.fine(TWO + "grower aa 1 1 1 1;grower ab 1 1 1 1;", 4);
        edge.fault(TWO + "sees a b;sees a b;", 3, 50);
        edge.fault(TWO + "sees a b;sees b a;sees b a;", 3, 59);
        edge.fine(TWO + "sees a b;sees b a;", 4);
        edge.fault("blight 0;blight 0;", 3, 9);
        edge.fault("blight 1;seed 1; blight", 3, 17);
        edge.fault("seed 0;seed 0;", 3, 7);
        edge.fault("seed 1;blight 1;seed", 3, 16);
        for (String law : new String[] {"judge", "grow", "give"}) {
            edge.fault("law " + law + " 0;law " + law + " 0;", 3, law.length() + 11);
            edge.fault("law judge 1;law grow 1;law give 1;law " + law, 3, 38);
        }
        edge.fine("law give 1;law grow 1;law judge 1;", 3);
    }

    private void untold() {
        edge.terms("4 a GROWER that isn't told ahead (at W).");
        edge.fault("sees a b;" + TWO, 4, 5);
        edge.fault("grower a 1 1 1 1;sees a b;grower b 1 1 1 1;", 4, 24);
        edge.fault("grower a 1 1 1 1;sees b a;", 4, 22);
        edge.fault("grower a 1 1 1 1;sees b b;", 4, 22);
        edge.fault("ribbon a;grower a 1 1 1 1;", 4, 7);
        edge.fault("grower ab 1 1 1 1;ribbon a;", 4, 25);
        edge.fault("grower ab 1 1 1 1;ribbon abc;", 4, 25);
        edge.fine("grower ab 1 1 1 1;ribbon ab;", 2);
        edge.terms("5 one that SEES itself (at the second W).");
        edge.fault("grower a 1 1 1 1;sees a a;", 5, 24);
        edge.fault(TWO + "sees a b;sees  b  b;", 5, 52);
        edge.fine(TWO + "sees b a;", 3);
    }
}
