import java.util.NoSuchElementException;

/** Promises 6 to 14, 22, 28, 31 to 33, 41 to 44: what is now, what is done by call, years. */
final class StateTest {
    private static final Check CHECK = new Check("StateTest");
    private static final int LOW = Integer.MIN_VALUE;
    private static final int HIGH = Integer.MAX_VALUE;
    private static final long ERROR = Long.MIN_VALUE;

    /** a sees b and c; b sees a and c; c sees nobody; a has both ribbons. */
    private static final String THREE = "grower a 10 2 1 0;grower b 20 -3 2 30;grower c 20 0 0 90;"
        + "sees a b;sees a c;sees b a;sees b c;ribbon a;ribbon a;";

    public static void main(String[] args) {
        growers();
        ribbons();
        judging();
        laws();
        values();
        showing();
        raising();
        handing();
        years();
        blight();
        numbers();
        givingAndLimits();
        ranks();
        seen();
        undoing();
        undoingTheLast();
        images();
        counts();
        CHECK.end();
    }

    private static int thrown(RibbonRun x, int grower, int what) {
        try {
            x.grower(grower, what);
        } catch (IndexOutOfBoundsException e) {
            return 1;
        } catch (NoSuchElementException e) {
            return 2;
        }
        return 0;
    }

    private static void growers() {
        RibbonRun x = Check.of(THREE);
        int[][] due = {{10, 2, 1, 0, 2, 6, 3}, {20, -3, 2, 30, 0, 5, 0}, {20, 0, 0, 90, 0, 0, 0}};
        for (int g = 0; g < 3; g++) {
            for (int what = 0; what < 7; what++) {
                CHECK.due("P6 grower " + g + " " + what, x.grower(g, what), due[g][what]);
            }
        }
        for (int g : new int[] {-1, 3, 6, LOW, HIGH}) {
            CHECK.due("P6 no grower " + g, thrown(x, g, 0), 1);
            CHECK.due("P6 no grower, no what " + g, thrown(x, g, 7), 1);
        }
        for (int what : new int[] {-1, 7, LOW, HIGH}) {
            CHECK.due("P6 no what " + what, thrown(x, 2, what), 2);
        }
        CHECK.due("P6 fine", thrown(x, 2, 6), 0);
    }

    private static void ribbons() {
        RibbonRun x = Check.of("grower a 1 0 0 0;grower b 1 0 0 0;grower c 1 0 0 0;sees a b;sees b c;ribbon a;ribbon b;");
        x.go(3);
        CHECK.due("P7 who", x.ribbon(0, 0), 2);
        CHECK.due("P7 since", x.ribbon(0, 1), 1);
        CHECK.due("P7 handed", x.ribbon(0, 2), 2);
        CHECK.due("P7 who", x.ribbon(1, 0), 2);
        CHECK.due("P7 since", x.ribbon(1, 1), 2);
        CHECK.due("P7 handed", x.ribbon(1, 2), 1);
        for (int no : new int[] {-1, 2, LOW, HIGH}) {
            CHECK.due("P7 no ribbon " + no, x.ribbon(no, 0), -1);
        }
        for (int no : new int[] {-1, 3, LOW, HIGH}) {
            CHECK.due("P7 no what " + no, x.ribbon(0, no), -1);
        }
        CHECK.due("P7 a second one that isn't", Check.of("grower a 1 0 0 0;ribbon a;").ribbon(1, 0), -1);
    }

    private static void judging() {
        RibbonRun x = Check.of(THREE);
        CHECK.due("P8 b of a: worth 10 less 2 * 2", x.judged(1, 0), 6);
        CHECK.due("P8 a of b", x.judged(0, 1), 20);
        CHECK.due("P8 who isn't seen is judged, too", x.judged(2, 0), 10);
        CHECK.due("P8 alike", x.judged(1, 1), -1);
        for (int no : new int[] {-1, 3, LOW, HIGH}) {
            CHECK.due("P8 no such " + no, x.judged(no, 0), -1);
            CHECK.due("P8 no such " + no, x.judged(0, no), -1);
            CHECK.due("P9 no such " + no, x.best(no), -1);
        }
        CHECK.due("P9 the first of several", x.best(0), 1);
        CHECK.due("P9 the most", x.best(1), 2);
        CHECK.due("P9 sees nobody", x.best(2), -2);
        RibbonRun y = Check.of("grower a 1 0 0 0;grower b 0 0 9 0;sees b a;ribbon a;");
        CHECK.due("P8 0 at least", y.judged(1, 0), 0);
        CHECK.due("P9 judged 0", y.best(1), 0);
        RibbonRun z = Check.of("grower a 7 0 3 0;grower b 8 0 0 9;ribbon b;law judge 9999 * worth;");
        CHECK.due("P8 9999 at most", z.judged(0, 1), 9999);
        CHECK.due("P10 without bounds", z.law(0, 0, 1), 79992);
        Check.read(z, "grower a 7 0 3 0;grower b 8 0 0 9;ribbon b;law judge 5 - worth;");
        CHECK.due("P8 0 at least by law", z.judged(0, 1), 0);
        CHECK.due("P10 below 0", z.law(0, 0, 1), -3);
        Check.read(z, "grower a 7 0 3 0;grower b 8 0 0 9;ribbon b;law judge 5 / (worth - 8);");
        CHECK.due("P8 with an ERROR", z.judged(0, 1), 5);
        CHECK.due("P8 without an ERROR", z.judged(1, 0), 0);
        CHECK.due("P10 ERROR", z.law(0, 0, 1), ERROR);
        CHECK.due("P10 -5", z.law(0, 1, 0), -5);
    }

    private static void laws() {
        String two = "grower a 7 1 3 10;grower b 8 2 4 31;ribbon b;";
        String[] names = {"worth", "own", "doubt", "far", "had", "since", "year"};
        long[] judge = {8, 7, 3, 21, 1, 0, 0};
        long[] own = {8, 8, 4, 0, 1, 0, 0};
        for (int i = 0; i < names.length; i++) {
            RibbonRun x = Check.of(two + "law judge " + names[i] + ";law grow " + names[i] + ";law give " + names[i] + ";");
            CHECK.due("P10 judge " + names[i], x.law(0, 0, 1), judge[i]);
            CHECK.due("P10 grow " + names[i], x.law(1, 1, 0), own[i]);
            CHECK.due("P10 give " + names[i], x.law(2, 1, 0), own[i]);
            CHECK.due("P10 grow, the second isn't looked at", x.law(1, 1, 77), own[i]);
            CHECK.due("P10 give, the second isn't looked at", x.law(2, 1, -5), own[i]);
            CHECK.due("P10 grow, alike", x.law(1, 1, 1), own[i]);
        }
        RibbonRun x = Check.of(two + "law judge year;law grow year * 0;law give since;");
        CHECK.due("P14 five years", x.go(5), 5);
        CHECK.due("P10 year", x.law(0, 0, 1), 5);
        CHECK.due("P10 since is 0", x.law(2, 1, 0), 0);
        CHECK.due("P10 alike", x.law(0, 1, 1), ERROR);
        for (int no : new int[] {-1, 2, LOW, HIGH}) {
            CHECK.due("P10 no such " + no, x.law(0, no, 1), ERROR);
            CHECK.due("P10 no such " + no, x.law(0, 0, no), ERROR);
            CHECK.due("P10 no such " + no, x.law(1, no, 1), ERROR);
            CHECK.due("P10 no such " + no, x.law(2, no, 1), ERROR);
        }
        for (int no : new int[] {-1, 3, LOW, HIGH}) {
            CHECK.due("P10 no such law " + no, x.law(no, 0, 1), ERROR);
        }
        RibbonRun y = Check.of(two);
        for (int what = 0; what < 3; what++) {
            CHECK.due("P10 no law told", y.law(what, 0, 1), ERROR);
        }
    }

    private static void value(String e, long due) {
        CHECK.due("P10 " + e, Check.of("grower a 7 1 3 10;law grow " + e + ";").law(1, 0, 0), due);
    }

    private static void values() {
        value("1 + 2 * 3", 7);
        value("(1 + 2) * 3", 9);
        value("9 - 3 - 2", 4);
        value("100 / 5 / 2", 10);
        value("100 / 5 * 2", 40);
        value("7 / 2", 3);
        value("(0 - 7) / 2", -3);
        value("7 / (0 - 2)", -3);
        value("1 < 2", 1);
        value("2 < 2", 0);
        value("2 <= 2", 1);
        value("3 <= 2", 0);
        value("2 = 2", 1);
        value("2 = 3", 0);
        value("2 <> 2", 0);
        value("2 <> 3", 1);
        value("2 >= 2", 1);
        value("1 >= 2", 0);
        value("3 > 2", 1);
        value("2 > 2", 0);
        value("1 + 1 < 3 - 0", 1);
        value("5 and 7", 1);
        value("5 and 0", 0);
        value("0 or 0", 0);
        value("0 or 7", 1);
        value("not 7", 0);
        value("not 0", 1);
        value("not not 7", 1);
        value("not 1 < 2", 0);
        value("not 0 and 0", 0);
        value("not (0 and 0)", 1);
        value("1 or 1 and 0", 1);
        value("(1 or 1) and 0", 0);
        value("1 or 1 / 0", ERROR);
        value("0 and 1 / 0", ERROR);
        value("0 * (1 / 0)", ERROR);
        value("1 / (worth - 7)", ERROR);
        value("9999 * 9999 * 9999", 999700029999L);
        value("9999 * 9999 * 9999 + 9999 * 9999 * 3", 999700029999L + 9999L * 9999 * 3);
        String million = "1000 * 1000 * 1000 * 1000";
        value(million, 1000000000000L);
        value(million + " + 1", ERROR);
        value(million + " + 1 - 1", ERROR);
        value("0 - " + million, -1000000000000L);
        value("0 - " + million + " - 1", ERROR);
        value("0 * (" + million + ")", 0);
        value("1 * (" + million + ")", 1000000000000L);
        value("2 * (" + million + ")", ERROR);
        value("(0 - 1) * (" + million + ")", -1000000000000L);
        value("(" + million + ") * (" + million + ")", ERROR);
        value("(0 - " + million + ") * (" + million + ") + 1 > 0", ERROR);
        value("1000 * 1000 * 1000 * 1001", ERROR);
        value("(" + million + ") = (" + million + ")", 1);
        value("((((((((worth + 1))))))))", 8);
        // 2 to the 32, whose product with itself a long can't tell from 0.
        String big = "(4096 * 4096 * 256)";
        String small = "(0 - 4096 * 4096 * 256)";
        value(big, 4294967296L);
        value(big + " * " + big, ERROR);
        value(small + " * " + big, ERROR);
        value(big + " * " + small, ERROR);
        value(small + " * " + small, ERROR);
        value(small + " * 0", 0);
        value("0 * " + small, 0);
        value("(0 - 3) * (0 - 4)", 12);
        value("not ".repeat(63) + "5", 0);
        value("not ".repeat(62) + "5", 1);
        value("not ".repeat(50) + "((((((((not not 0))))))))", 0);
        value("1+(1+(1+(1+(1+(1+(1+(1+(1))))))))".replaceFirst("\\(1\\)", "1"), 9);
    }

    private static void showing() {
        RibbonRun x = Check.of(THREE);
        CHECK.due("P11 is so", x.show(0, 1, true), false);
        CHECK.due("P11 isn't anyway", x.show(2, 1, false), false);
        CHECK.due("P11 alike", x.show(1, 1, true), false);
        CHECK.due("P11 alike", x.show(1, 1, false), false);
        for (int no : new int[] {-1, 3, LOW, HIGH}) {
            CHECK.due("P11 no such " + no, x.show(no, 1, true), false);
            CHECK.due("P11 no such " + no, x.show(1, no, true), false);
        }
        CHECK.due("P11 nothing to undo by these", x.count(9), 0);
        CHECK.due("P11 sees", x.show(2, 1, true), true);
        CHECK.due("P11 sees now", x.grower(2, 5), 2);
        CHECK.due("P11 the other one doesn't", x.grower(1, 5), 5);
        CHECK.due("P11 no more", x.show(0, 1, false), true);
        CHECK.due("P11 no more now", x.grower(0, 5), 4);
        CHECK.due("P11 best now", x.best(0), 2);
        CHECK.due("P11 count", x.count(1), 4);
    }

    private static void raising() {
        RibbonRun x = Check.of(THREE);
        CHECK.due("P12 by 0", x.raise(0, 0), -1);
        for (int no : new int[] {-100, 100, LOW, HIGH}) {
            CHECK.due("P12 by " + no, x.raise(0, no), -1);
        }
        for (int no : new int[] {-1, 3, LOW, HIGH}) {
            CHECK.due("P12 no such " + no, x.raise(no, 1), -1);
        }
        CHECK.due("P12 more", x.raise(0, 99), 109);
        CHECK.due("P12 less", x.raise(0, -99), 10);
        CHECK.due("P12 0 at least", x.raise(0, -99), 0);
        for (int i = 1; i <= 10; i++) {
            CHECK.due("P12 more", x.raise(0, 99), 99 * i);
        }
        CHECK.due("P12 999 at most", x.raise(0, 10), 999);
        CHECK.due("P12 999 stays", x.raise(0, 1), 999);
        CHECK.due("P6 worth", x.grower(0, 0), 999);
        CHECK.due("P12 others stay", x.grower(1, 0), 20);
    }

    private static void handing() {
        RibbonRun x = Check.of(THREE);
        CHECK.due("P13 has it", x.hand(0, 0), false);
        for (int no : new int[] {-1, 2, LOW, HIGH}) {
            CHECK.due("P13 no ribbon " + no, x.hand(no, 1), false);
        }
        for (int no : new int[] {-1, 3, LOW, HIGH}) {
            CHECK.due("P13 no grower " + no, x.hand(0, no), false);
        }
        RibbonRun y = Check.of("grower a 1 0 0 0;grower b 1 0 0 0;ribbon a;ribbon b;");
        y.go(4);
        CHECK.due("P13 to whom isn't seen", y.hand(0, 1), true);
        CHECK.due("P13 who", y.ribbon(0, 0), 1);
        CHECK.due("P13 since", y.ribbon(0, 1), 0);
        CHECK.due("P13 handed", y.ribbon(0, 2), 1);
        CHECK.due("P13 had", y.grower(1, 4), 2);
        CHECK.due("P13 had stays", y.grower(0, 4), 1);
        CHECK.due("P13 the other ribbon", y.ribbon(1, 1), 4);
        CHECK.due("P6 ribbons", y.grower(1, 6), 3);
        CHECK.due("P13 the year stays", y.count(4), 4);
    }

    private static void years() {
        RibbonRun x = Check.of(THREE);
        for (int no : new int[] {-1, 100, LOW, HIGH}) {
            CHECK.due("P14 no such " + no, x.go(no), -1);
        }
        CHECK.due("P14 none", x.go(0), 0);
        CHECK.due("P14 one", x.go(1), 1);
        CHECK.due("P14 grows", x.grower(0, 0), 12);
        CHECK.due("P14 grows less", x.grower(1, 0), 17);
        // By growing first c (20) is ahead of b (17); HAD of c and no DOUBT of b for it count for ribbon 1: 1 * 1.
        CHECK.due("P14 ribbon 0 goes to c", x.ribbon(0, 0), 2);
        CHECK.due("P14 ribbon 1 goes to c, judged 19", x.ribbon(1, 0), 2);
        CHECK.due("P14 had", x.grower(2, 4), 2);
        CHECK.due("P14 up to 99", x.go(99), 100);
        CHECK.due("P14 0 at least", x.grower(1, 0), 0);
        CHECK.due("P14 210", x.grower(0, 0), 210);
        CHECK.due("P14 since", x.ribbon(1, 1), 99);
        for (int i = 2; i <= 90; i++) {
            x.go(99);
        }
        CHECK.due("P14 8911", x.count(4), 1 + 99 * 90);
        CHECK.due("P14 behind 9000", x.go(90), -1);
        CHECK.due("P14 none went by", x.count(4), 8911);
        CHECK.due("P14 9000", x.go(89), 9000);
        CHECK.due("P14 behind 9000", x.go(1), -1);
        CHECK.due("P14 none", x.go(0), 9000);
        CHECK.due("P14 999 at most", x.grower(0, 0), 999);
        CHECK.due("P14 since 999 at most", x.ribbon(0, 1), 999);
        CHECK.due("P15 ahead behind 9000", x.ahead(99, 2, 0), 999);
        RibbonRun y = Check.of("grower a 5 1 0 0;grower b 5 1 0 0;law grow 20 - 40 * (year = 1);");
        y.go(1);
        CHECK.due("P14 grows 9 at most", y.grower(0, 0), 14);
        y.go(1);
        CHECK.due("P14 grows -9 at least", y.grower(0, 0), 5);
        Check.read(y, "grower a 5 1 0 0;grower b 6 -1 0 0;law grow 1 / (worth - 5);");
        y.go(1);
        CHECK.due("P14 an ERROR of grow", y.grower(0, 0), 6);
        CHECK.due("P14 no ERROR of grow", y.grower(1, 0), 7);
    }

    private static void blight() {
        String two = "grower a 12 0 0 0;grower b 3 0 0 0;";
        RibbonRun x = Check.of(two + "blight 100;");
        x.go(1);
        CHECK.due("P14 5 less", x.grower(0, 0), 7);
        CHECK.due("P14 0 at least", x.grower(1, 0), 0);
        Check.read(x, two + "blight 0;");
        x.go(9);
        CHECK.due("P14 no blight", x.grower(0, 0), 12);
        Check.read(x, two + "blight 50;");
        CHECK.due("P15 as it goes: 50", x.ahead(1, 2, 0), 7);
        Check.read(x, two + "blight 49;");
        CHECK.due("P15 as it goes: 49", x.ahead(1, 2, 0), 12);
        Check.read(x, "grower a 99 5 0 0;law grow worth;blight 100;");
        x.go(1);
        CHECK.due("P14 blight is behind growing", x.grower(0, 0), 103);
        x.go(1);
        CHECK.due("P14 and growing goes by the worth then", x.grower(0, 0), 107);
    }

    /** By seed 0 the numbers are 0, 21468, 9988, 22117, 3498, 16927, 16045, 19741, 12122, 8410. */
    private static void numbers() {
        RibbonRun x = Check.of("grower a 99 0 0 0;grower b 99 0 0 0;blight 50;");
        x.go(1);
        CHECK.due("P14 0 is below 50", x.grower(0, 0), 94);
        CHECK.due("P14 68 isn't", x.grower(1, 0), 99);
        x.go(1);
        CHECK.due("P14 88 isn't", x.grower(0, 0), 94);
        CHECK.due("P14 17 is", x.grower(1, 0), 94);
        x.go(3);
        CHECK.due("P14 98, 45, 22", x.grower(0, 0), 84);
        CHECK.due("P14 27, 41, 10", x.grower(1, 0), 79);
        Check.read(x, "grower a 99 0 0 0;grower b 99 0 0 0;blight 17;");
        x.go(2);
        CHECK.due("P14 17 isn't below 17", x.grower(1, 0), 99);
        Check.read(x, "grower a 99 0 0 0;grower b 99 0 0 0;blight 18;");
        x.go(2);
        CHECK.due("P14 17 is below 18", x.grower(1, 0), 94);
        Check.read(x, "grower a 99 0 0 0;blight 50;seed 12345;");
        long n = 12345;
        int worth = 99;
        for (int i = 0; i < 12; i++) {
            n = (n * 1103515245L + 12345) & 0x7fffffffL;
            worth -= n / 65536 % 100 < 50 ? 5 : 0;
        }
        x.go(12);
        CHECK.due("P14 by a seed", x.grower(0, 0), worth);
    }

    private static void givingAndLimits() {
        RibbonRun x = Check.of("grower a 5 0 0 0;grower b 6 0 0 0;sees a b;sees b a;ribbon a;law give since = 2;");
        x.go(2);
        CHECK.due("P14 keeps", x.ribbon(0, 0), 0);
        CHECK.due("P14 since", x.ribbon(0, 1), 2);
        x.go(1);
        CHECK.due("P14 gives", x.ribbon(0, 0), 1);
        CHECK.due("P14 since 0", x.ribbon(0, 1), 0);
        CHECK.due("P14 handed", x.ribbon(0, 2), 1);
        Check.read(x, "grower a 5 0 0 0;grower b 6 0 0 0;sees a b;sees b a;ribbon a;law give 0 - 5;");
        x.go(1);
        CHECK.due("P14 what isn't 0 gives", x.ribbon(0, 0), 1);
        Check.read(x, "grower a 5 0 0 0;grower b 6 0 0 0;sees a b;sees b a;ribbon a;law give 1 / 0;");
        x.go(1);
        CHECK.due("P14 an ERROR gives", x.ribbon(0, 0), 1);
        CHECK.due("P29 an ERROR gives", x.keepers(), 0);
        Check.read(x, "grower a 5 0 0 0;grower b 6 0 0 0;sees a b;sees b a;ribbon a;");
        for (int i = 0; i < 22; i++) {
            x.go(99);
        }
        CHECK.due("P14 handed", x.ribbon(0, 2), 2178);
        CHECK.due("P14 had 999 at most", x.grower(0, 4), 999);
        CHECK.due("P14 had 999 at most", x.grower(1, 4), 999);
        x.hand(0, 1);
        CHECK.due("P13 had 999 at most", x.grower(1, 4), 999);
        CHECK.due("P41 undo", x.undo(), 0);
        CHECK.due("P41 had stays 999", x.grower(1, 4), 999);
    }

    private static void ranks() {
        RibbonRun x = Check.of(THREE);
        CHECK.due("P22 the first of several", x.deserves(), 1);
        CHECK.due("P28 second", x.rank(2), 1);
        CHECK.due("P28 first", x.rank(1), 0);
        CHECK.due("P28 last", x.rank(0), 2);
        for (int no : new int[] {-1, 3, LOW, HIGH}) {
            CHECK.due("P28 no such " + no, x.rank(no), -1);
        }
        x.raise(2, 1);
        CHECK.due("P22 the most", x.deserves(), 2);
        CHECK.due("P28 first", x.rank(2), 0);
        CHECK.due("P22 nobody", new RibbonRun().deserves(), -1);
        CHECK.due("P22 worth 0", Check.of("grower a 0 0 0 0;").deserves(), 0);
    }

    private static void seen() {
        RibbonRun x = Check.of(THREE);
        CHECK.due("P31 seen by two", x.popular(), 2);
        CHECK.due("P32 one pair", x.mutual(), 1);
        CHECK.due("P33 c", x.lonely(), 4);
        x.show(2, 1, true);
        CHECK.due("P31 the first of several", x.popular(), 1);
        CHECK.due("P32 two pairs", x.mutual(), 2);
        CHECK.due("P33 nobody", x.lonely(), 0);
        RibbonRun y = Check.of("grower a 0 0 0 0;grower b 0 0 0 0;");
        CHECK.due("P31 nobody sees anybody", y.popular(), -2);
        CHECK.due("P32 no pair", y.mutual(), 0);
        CHECK.due("P33 both", y.lonely(), 3);
        y.show(1, 0, true);
        CHECK.due("P31 seen by one", y.popular(), 0);
        CHECK.due("P32 not each other", y.mutual(), 0);
    }

    private static void undoing() {
        RibbonRun x = Check.of(THREE + "law give 0;");
        CHECK.due("P41 none", x.undo(), -1);
        x.go(3);
        x.show(0, 1, false);
        x.raise(1, -99);
        x.hand(0, 2);
        x.hand(0, 1);
        CHECK.due("P41 left", x.undo(), 3);
        CHECK.due("P41 who", x.ribbon(0, 0), 2);
        CHECK.due("P41 handed", x.ribbon(0, 2), 1);
        CHECK.due("P41 had", x.grower(1, 4), 0);
        CHECK.due("P41 left", x.undo(), 2);
        CHECK.due("P41 who", x.ribbon(0, 0), 0);
        CHECK.due("P41 since", x.ribbon(0, 1), 3);
        CHECK.due("P41 handed", x.count(5), 0);
        CHECK.due("P41 had", x.grower(2, 4), 0);
        CHECK.due("P41 had", x.grower(0, 4), 2);
        CHECK.due("P12 worth", x.grower(1, 0), 0);
        CHECK.due("P41 left", x.undo(), 1);
        CHECK.due("P41 worth", x.grower(1, 0), 11);
        CHECK.due("P41 left", x.undo(), 0);
        CHECK.due("P41 sees", x.grower(0, 5), 6);
        CHECK.due("P41 none", x.undo(), -1);
        x.raise(0, 1);
        x.go(0);
        CHECK.due("P41 no year went by", x.count(9), 1);
        x.go(1);
        CHECK.due("P41 a year went by", x.undo(), -1);
        int worth = x.grower(0, 0);
        for (int i = 0; i < 23; i++) {
            x.raise(0, 1);
        }
        CHECK.due("P44 20 at most", x.count(9), 20);
        for (int i = 19; i >= 0; i--) {
            CHECK.due("P41 left", x.undo(), i);
        }
        CHECK.due("P41 the first three stay", x.grower(0, 0), worth + 3);
        CHECK.due("P41 none", x.undo(), -1);
        for (int i = 0; i < 11; i++) {
            x.hand(1, 1);
            x.hand(1, 2);
        }
        for (int i = 0; i < 20; i++) {
            x.undo();
        }
        CHECK.due("P41 handed twice", x.ribbon(1, 2), 2);
        CHECK.due("P41 who", x.ribbon(1, 0), 2);
    }

    /** What is handed last, when the first of twenty is forgotten, is undone as a whole. */
    private static void undoingTheLast() {
        RibbonRun x = Check.of(THREE + "law give 0;");
        x.go(3);
        for (int i = 0; i < 19; i++) {
            x.raise(0, 1);
        }
        int[] was = all(x);
        x.hand(1, 2);
        x.raise(0, 1);
        CHECK.due("P41 the raise", x.undo(), 19);
        CHECK.due("P41 the handing", x.undo(), 18);
        same("P41 the last", all(x), was);
    }

    private static void images() {
        RibbonRun x = Check.of(THREE + "blight 40;seed 9;");
        CHECK.due("P43 none", x.back(), -1);
        x.go(2);
        x.show(2, 0, true);
        CHECK.due("P42 the year", x.keep(), 2);
        CHECK.due("P42 undo stays", x.count(9), 1);
        int[] was = all(x);
        x.go(3);
        int[] then = all(x);
        x.raise(0, 5);
        x.hand(0, x.ribbon(0, 0) == 0 ? 1 : 0);
        x.show(1, 0, false);
        x.note(0, 1);
        CHECK.due("P43 the year", x.back(), 2);
        CHECK.due("P43 nothing to undo", x.count(9), 0);
        CHECK.due("P43 handings stay", x.count(7), 1);
        same("P43", all(x), was);
        x.go(3);
        same("P43 the numbers are as in the image", all(x), then);
        CHECK.due("P43 once more", x.back(), 2);
        same("P43 once more", all(x), was);
        x.go(1);
        CHECK.due("P42 in place of one ahead", x.keep(), 3);
        x.go(4);
        CHECK.due("P43 the later one", x.back(), 3);
    }

    private static int[] all(RibbonRun x) {
        int[] all = new int[40];
        int n = 0;
        for (int g = 0; g < x.count(0); g++) {
            for (int what = 0; what < 7; what++) {
                all[n++] = x.grower(g, what);
            }
        }
        for (int r = 0; r < 2; r++) {
            for (int what = 0; what < 3; what++) {
                all[n++] = x.ribbon(r, what);
            }
        }
        all[n] = x.count(4);
        return all;
    }

    private static void same(String what, int[] got, int[] due) {
        for (int i = 0; i < got.length; i++) {
            CHECK.due(what + " place " + i, got[i], due[i]);
        }
    }

    private static void counts() {
        RibbonRun x = Check.of(THREE + "law judge worth + 1;law give not 0;");
        x.go(2);
        x.raise(0, 6);
        x.note(0, 1);
        x.see(1, 0, 0, true);
        x.strike(0);
        int[] due = {3, 4, 2, 5, 2, 2, 54, 3, 3, 1};
        for (int i = 0; i < due.length; i++) {
            CHECK.due("P44 count " + i, x.count(i), due[i]);
        }
        x.known(2);
        CHECK.due("P44 known by two", x.count(8), 2);
        for (int no : new int[] {-1, 10, LOW, HIGH}) {
            CHECK.due("P44 no such " + no, x.count(no), -1);
        }
    }
}
