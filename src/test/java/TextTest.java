/** Promises 1 to 5: a new object, feed, text, fault, named. */
final class TextTest {
    private static final Check CHECK = new Check("TextTest");
    private static final String TWO = "grower a 1 1 1 1;grower b 1 1 1 1;";

    public static void main(String[] args) {
        newObject();
        feeding();
        lines();
        wrongTokens();
        tooMuch();
        toldAlready();
        untold();
        firstFault();
        knots();
        expressions();
        allStays();
        naming();
        CHECK.end();
    }

    private static void newObject() {
        RibbonRun x = new RibbonRun();
        int[] due = {0, 0, 0, 0, 0, 0, 0, 0, 0, 0};
        for (int i = 0; i < due.length; i++) {
            CHECK.due("P1 count(" + i + ")", x.count(i), due[i]);
        }
        CHECK.due("P1 fault(0)", x.fault(0), 0);
        CHECK.due("P1 fault(1)", x.fault(1), -1);
        CHECK.due("P1 text(1): the tape is empty", x.text(1), -2);
        CHECK.due("P1 back", x.back(), -1);
        CHECK.due("P1 named", x.named(0), -1);
    }

    private static void feeding() {
        RibbonRun x = new RibbonRun();
        for (int i = 1; i <= 35; i++) {
            CHECK.due("P2 feed " + i, x.feed(0x3b3b3b3b, 0, -1, 7, 8), 20 * i);
        }
        CHECK.due("P2 beyond 700", x.feed(1, 2, 3, 4, 5), -1);
        CHECK.due("P2 beyond 700 again", x.feed(1, 2, 3, 4, 5), -1);
        CHECK.due("P3 701", x.text(701), -2);
        CHECK.due("P3 below 0", x.text(-1), -2);
        CHECK.due("P3 -2 leaves the tape", x.feed(1, 2, 3, 4, 5), -1);
        CHECK.due("P3 700 bytes", x.text(700), -1);
        CHECK.due("P3 a fault empties the tape", x.feed(0x73656564, 0x20353b00, 0, 0, 0), 20);
        CHECK.due("P2 the highest first, P3 the first n bytes", x.text(7), 1);
        CHECK.due("P3 the rest is gone", x.text(1), -2);
        CHECK.due("P3 nothing", x.text(0), 0);
        CHECK.due("P2 empty", x.feed(0, 0, 0, 0, 0), 20);
    }

    private static void lines() {
        fine("", 0);
        fine(" \n \n", 0);
        fine("blight 0;", 1);
        fine("blight 100;seed 99999;", 2);
        fine("seed 00000000000000000000099999;", 1);
        fine("grower abcdef 99 -9 9 99;", 1);
        fine("grower a 0 - 9 0 0;", 1);
        fine("grower a 0 -\n9 0 0;", 1);
        fine("grower a 1-9 0 0;", 1);
        fine("grower a 0 -0 0 0 ;", 1);
        fine("\ngrower\na\n0\n9\n0\n0\n;\n", 1);
        fine("grower z 0 9 0 0;ribbon z;ribbon z;", 3);
        fine(TWO + "sees a b;sees b a;ribbon b;ribbon a;blight5;seed7;law judge 1;law grow 2;law give 3;", 11);
        fine("law give 1;law judge 1;law grow 1;", 3);
        fine("grower a 1 1 1 1;grower b 1 1 1 1;grower c 1 1 1 1;grower d 1 1 1 1;grower e 1 1 1 1;grower f 1 1 1 1;", 6);
        RibbonRun x = Check.of("grower ab 12 -3 4 56;grower cd 99 9 0 0;sees cd ab;ribbon cd;");
        CHECK.due("P3 worth", x.grower(0, 0), 12);
        CHECK.due("P3 grows", x.grower(0, 1), -3);
        CHECK.due("P3 doubt", x.grower(0, 2), 4);
        CHECK.due("P3 place", x.grower(0, 3), 56);
        CHECK.due("P3 grows without -", x.grower(1, 1), 9);
        CHECK.due("P3 sees", x.grower(1, 5), 1);
        CHECK.due("P3 is not seen", x.grower(0, 5), 0);
        CHECK.due("P3 ribbon", x.ribbon(0, 0), 1);
    }

    private static void wrongTokens() {
        fault("?", 1, 0);
        fault("A", 1, 0);
        fault("\tblight 1;", 1, 0);
        fault("blight 1;\r", 1, 9);
        fault("blight 1;\u00ff", 1, 9);
        fault("blight 1;\u0000", 1, 9);
        fault("blight", 1, 6);
        fault("blight  ", 1, 8);
        fault("blight 1", 1, 8);
        fault("blight 1 1;", 1, 9);
        fault("blight -1;", 1, 7);
        fault("blight x;", 1, 7);
        fault("blight worth;", 1, 7);
        fault("blight;", 1, 6);
        fault(";", 1, 0);
        fault("blight 1;;", 1, 9);
        fault("5;", 1, 0);
        fault("judge 1;", 1, 0);
        fault("hello;", 1, 0);
        fault("grower;", 1, 6);
        fault("grower abcdefg 1 1 1 1;", 1, 7);
        fault("grower 5 1 1 1 1;", 1, 7);
        fault("grower aB 1 1 1 1;", 1, 8);
        for (String word : ("grower sees ribbon blight seed law judge grow give or and not worth own doubt far had since "
            + "year").split(" ")) {
            fault("grower " + word + " 1 1 1 1;", 1, 7);
        }
        fault("grower a -1 1 1 1;", 1, 9);
        fault("grower a 1 1 -1 1;", 1, 13);
        fault("grower a 1 1 1 -1;", 1, 15);
        fault("grower a 1 - - 1 1 1;", 1, 13);
        fault("grower a 1 1 1;", 1, 14);
        fault("grower a 1 1 1 1", 1, 16);
        fault("grower a 1 1 1 1 1;", 1, 17);
        fault(TWO + "sees a;", 1, 40);
        fault(TWO + "sees a b a;", 1, 43);
        fault(TWO + "sees a 5;", 1, 41);
        fault(TWO + "ribbon;", 1, 40);
        fault(TWO + "ribbon law;", 1, 41);
        fault(TWO + "ribbon abcdefg;", 1, 41);
        fault("law worth 1;", 1, 4);
        fault("law a 1;", 1, 4);
        fault("law 1;", 1, 4);
        fault("law judge;", 1, 9);
        fault("law judge", 1, 9);
        for (String word : ("grower sees ribbon blight seed law or and not worth own doubt far had since year").split(" ")) {
            fault("law " + word + " 1;", 1, 4);
        }
        cutShort();
    }

    /** What was fed behind the first n bytes is not looked at. */
    private static void cutShort() {
        String[] texts = {"law judge 1<=2;", "law judge 1<>2;", "law judge 1>=2;", "blight 5", "seed 12", "grower a 1 1 1 12;",
            "blight"};
        int[] n = {12, 12, 12, 7, 6, 16, 5};
        int[] place = {12, 12, 12, 7, 6, 16, 0};
        for (int i = 0; i < texts.length; i++) {
            RibbonRun x = new RibbonRun();
            Check.read(x, "");
            byte[] bytes = texts[i].getBytes(java.nio.charset.StandardCharsets.ISO_8859_1);
            x.feed(Check.four(bytes, 0), Check.four(bytes, 4), Check.four(bytes, 8), Check.four(bytes, 12), 0);
            CHECK.due("P3 the first bytes of " + texts[i], x.text(n[i]), -1);
            CHECK.due("P4 fault", x.fault(0), 1);
            CHECK.due("P4 place", x.fault(1), place[i]);
        }
    }

    private static void tooMuch() {
        fault("grower a 100 1 1 1;", 2, 9);
        fault("grower a 1 - 10 1 1;", 2, 13);
        fault("grower a 4294967297 1 1 1;", 2, 9);
        fault("grower a 18446744073709551617 1 1 1;", 2, 9);
        fault("grower a 1 10 1 1;", 2, 11);
        fault("grower a 1 1 10 1;", 2, 13);
        fault("grower a 1 1 1 100;", 2, 15);
        fault("blight 101;", 2, 7);
        fault("seed 100000;", 2, 5);
        fault(TWO + "ribbon a;ribbon b;ribbon", 2, 52);
        fault("grower a 1 1 1 1;grower b 1 1 1 1;grower c 1 1 1 1;grower d 1 1 1 1;grower e 1 1 1 1;grower f 1 1 1 1;"
            + "grower a", 2, 102);
        fault("law judge 9999;", 0, -1);
        fault("law judge 10000;", 2, 10);
        fault("law judge 1 + 99999999999999999999;", 2, 14);
        fault("law judge ((((((((1))))))));", 0, -1);
        fault("law judge (((((((((1)))))))));", 2, 18);
        fault("law judge (((((((1))))))) + (((((((((1;", 2, 36);
        fault("law judge ((((((((1)))))))) * ((((((((2))))))));", 0, -1);
        fault("law judge ((((((((1)+(1)))))))) * ((((((((2))))))));", 0, -1);
        fault("law judge ((((((((1)+(1))))))))) * 2;", 1, 31);
    }

    private static void toldAlready() {
        fault(TWO + "grower b 1 1 1 1;", 3, 41);
        fault(TWO + "sees a b;sees b a;sees a b;", 3, 59);
        fault("blight 1;seed 1;blight 200;", 3, 16);
        fault("seed 1;blight 1;seed 100000;", 3, 16);
        fault("law judge 1;law grow 1;law give 1;law grow 1;", 3, 38);
        fault("law judge 1;law judge", 3, 16);
        fault("blight 0;blight 0;", 3, 9);
        fault("seed 0;seed 0;", 3, 7);
    }

    private static void untold() {
        fault("sees a b;grower a 1 1 1 1;grower b 1 1 1 1;", 4, 5);
        fault("grower a 1 1 1 1;sees a b;", 4, 24);
        fault("grower a 1 1 1 1;sees b a;", 4, 22);
        fault("grower a 1 1 1 1;sees b b;", 4, 22);
        fault("grower a 1 1 1 1;ribbon b;", 4, 24);
        fault("grower a 1 1 1 1;ribbon aa;", 4, 24);
        fault(TWO + "sees b b;", 5, 41);
    }

    private static void firstFault() {
        fault("grower a 100 1 1 1 grower", 2, 9);
        fault("grower a 1 1 1 1 ?", 1, 17);
        fault("grower a 1 1 1 1;grower a 100 10", 3, 24);
        fault("blight 101 ?", 2, 7);
        fault("sees x y ?", 4, 5);
        fault("law judge 1 2", 1, 12);
        fault("law judge ?;blight 101;", 1, 10);
    }

    /** A law of so many knots: 1 + 1 + .. with an odd number. */
    private static String sum(int knots) {
        return "1" + "+1".repeat(knots / 2);
    }

    private static void knots() {
        fault("law judge " + sum(63) + ";law grow 1;", 0, -1);
        fault("law judge " + sum(63) + ";law grow 1;law give 1;", 2, 10 + 63 + 1 + 11 + 9);
        fault("law judge " + sum(65) + ";", 2, 10 + 64);
        fault("law judge " + sum(63) + "+;", 1, 10 + 64);
        fault("law judge not " + sum(63) + ";", 0, -1);
        fault("law judge not " + sum(63) + "+1;", 2, 14 + 63);
        fault("law judge " + sum(63) + "<)", 1, 10 + 64);
        fault("law judge " + sum(63) + ";law grow 1 1", 1, 10 + 63 + 1 + 11);
        fault("law judge " + sum(63) + ";law grow 1 and", 2, 10 + 63 + 1 + 11);
        fault("law judge " + sum(63) + ";law grow (1", 1, 10 + 63 + 1 + 11);
        fault("law judge not " + sum(63) + ";law grow not", 2, 14 + 63 + 1 + 9);
        fault("law judge not " + sum(63) + ";law grow )", 1, 14 + 63 + 1 + 9);
        fault("law judge not " + sum(63) + ";law grow 99999", 2, 14 + 63 + 1 + 9);
        CHECK.due("P44 knots of all", Check.of("law judge not 1 or (2 and worth);law grow 3 <= 4;").count(3), 9);
    }

    private static void expressions() {
        String law = "law judge ";
        for (String fine : new String[] {"1", "(1)", "not 1", "not not 1", "1 or not 1", "1 and not 1", "(not 1)", "1<=2",
            "1<>2", "1>=2", "1<2", "1>2", "1=2", "not 1<2", "(1<2)<(3<4)", "1<2 and 3<4", "1*2/3-4+5", "1 -2", "1or 2",
            "worth+own+doubt+far+had+since+year", "1 or 2 or 3 and 4 and 5", "1+(not 2)", "((1)+(2))*3",
            "not(1)and(2)", "1<2or 3<4"}) {
            fault(law + fine + ";", 0, -1);
        }
        fault(law + "1 < 2 < 3;", 1, 16);
        fault(law + "1 < 2 + 3 = 3;", 1, 20);
        fault(law + "not 1 < 2 < 3;", 1, 20);
        fault(law + "1 and 1 < 2 < 3;", 1, 22);
        fault(law + "1 + not 1;", 1, 14);
        fault(law + "1 * not 1;", 1, 14);
        fault(law + "1 < not 1;", 1, 14);
        fault(law + "-1;", 1, 10);
        fault(law + "1 + -1;", 1, 14);
        fault(law + "+ 1;", 1, 10);
        fault(law + "1 +;", 1, 13);
        fault(law + "1 +", 1, 13);
        fault(law + "not;", 1, 13);
        fault(law + "();", 1, 11);
        fault(law + "(1;", 1, 12);
        fault(law + "(1", 1, 12);
        fault(law + "1);", 1, 11);
        fault(law + "1 2;", 1, 12);
        fault(law + "1 (2);", 1, 12);
        fault(law + "1 worth;", 1, 12);
        fault(law + "1 not 2;", 1, 12);
        fault(law + "1 < = 2;", 1, 14);
        fault(law + "1 > = 2;", 1, 14);
        fault(law + "1 < > 2;", 1, 14);
        fault(law + "1 == 2;", 1, 13);
        fault(law + "1 => 2;", 1, 13);
        fault(law + "1 >> 2;", 1, 13);
        fault(law + "1 >< 2;", 1, 13);
        fault(law + "1 <>= 2;", 1, 14);
        fault(law + "1 <=> 2;", 1, 14);
        fault(law + "1 <== 2;", 1, 14);
        fault(law + "1 & 2;", 1, 12);
        fault(law + "grower;", 1, 10);
        fault(law + "judge;", 1, 10);
        fault(law + "a;", 1, 10);
        fault(law + "worths;", 1, 10);
        fault(law + "1 or or 2;", 1, 15);
        fault(law + "or 2;", 1, 10);
    }

    private static void allStays() {
        RibbonRun x = Check.of(TWO + "sees a b;ribbon a;blight 100;law judge 7;");
        x.go(2);
        x.raise(1, 9);
        x.note(0, 1);
        x.keep();
        CHECK.due("P3 fault", Check.read(x, "grower q 1 1 1 1;grower q"), -1);
        CHECK.due("P4 fault", x.fault(0), 3);
        CHECK.due("P4 place", x.fault(1), 24);
        CHECK.due("P4 no such what", x.fault(2), -1);
        CHECK.due("P4 no such what", x.fault(-1), -1);
        CHECK.due("P3 -2", x.text(1), -2);
        CHECK.due("P4 stays with -2", x.fault(0), 3);
        CHECK.due("P3 growers stay", x.count(0), 2);
        CHECK.due("P3 year stays", x.count(4), 2);
        CHECK.due("P3 laws stay", x.judged(0, 1), 7);
        CHECK.due("P3 names stay", x.named(Check.letters("a")), 0);
        CHECK.due("P3 told stays", x.count(7), 1);
        CHECK.due("P3 undo stays", x.count(9), 1);
        CHECK.due("P3 image stays", x.back(), 2);
        x.known(0);
        x.hand(0, 1);
        CHECK.due("P3 anew", Check.read(x, TWO + "sees b a;ribbon b;"), 4);
        int[] due = {2, 1, 1, 0, 0, 0, 2, 0, 0, 0};
        for (int i = 0; i < due.length; i++) {
            CHECK.due("P3 anew count(" + i + ")", x.count(i), due[i]);
        }
        CHECK.due("P3 anew fault", x.fault(0), 0);
        CHECK.due("P3 anew place", x.fault(1), -1);
        CHECK.due("P3 anew no image", x.back(), -1);
        CHECK.due("P3 anew nothing to undo", x.undo(), -1);
        CHECK.due("P3 anew sees", x.grower(0, 5), 0);
        CHECK.due("P3 anew had", x.grower(0, 4), 0);
        CHECK.due("P3 anew had", x.grower(1, 4), 1);
        CHECK.due("P3 anew law", x.law(0, 0, 1), Long.MIN_VALUE);
        x.note(0, 1);
        CHECK.due("P3 anew all known", x.count(8), 1);
        x.go(1);
        CHECK.due("P3 anew no blight", x.grower(0, 0), 2);
        CHECK.due("P3 anew since", x.ribbon(0, 1), 0);
        CHECK.due("P3 no lines", x.text(0), 0);
        CHECK.due("P3 no lines, no growers", x.count(0), 0);
        CHECK.due("P3 no lines, no ribbons", x.count(2), 0);
        CHECK.due("P3 no lines, year 0", x.count(4), 0);
        CHECK.due("P3 no lines, nothing told", x.count(7), 0);
    }

    private static void naming() {
        RibbonRun x = Check.of("grower a 1 1 1 1;grower ab 1 1 1 1;grower abcdef 1 1 1 1;grower zzzzzz 1 1 1 1;");
        CHECK.due("P5 a", x.named(1 << 25), 0);
        CHECK.due("P5 ab", x.named(1 << 25 | 2 << 20), 1);
        CHECK.due("P5 abcdef", x.named(1 << 25 | 2 << 20 | 3 << 15 | 4 << 10 | 5 << 5 | 6), 2);
        CHECK.due("P5 zzzzzz", x.named(Check.letters("zzzzzz")), 3);
        CHECK.due("P5 b", x.named(2 << 25), -1);
        CHECK.due("P5 a at the low end", x.named(1), -1);
        CHECK.due("P5 0", x.named(0), -1);
        CHECK.due("P5 a bit above", x.named(1 << 25 | 1 << 30), -1);
        CHECK.due("P5 negative", x.named(1 << 25 | 1 << 31), -1);
        CHECK.due("P5 -1", x.named(-1), -1);
    }

    private static void fine(String text, int lines) {
        RibbonRun x = new RibbonRun();
        CHECK.due("P3 " + text, Check.read(x, text), lines);
        CHECK.due("P4 fault of " + text, x.fault(0), 0);
        CHECK.due("P4 place of " + text, x.fault(1), -1);
    }

    /** Fault 0: there is none. */
    private static void fault(String text, int fault, int place) {
        RibbonRun x = new RibbonRun();
        int lines = Check.read(x, text);
        CHECK.due("P3 NONE for " + text, lines < 0, fault != 0);
        CHECK.due("P4 fault of " + text, x.fault(0), fault);
        CHECK.due("P4 place of " + text, x.fault(1), place);
    }
}
