/** Promises 23 and 34 to 38: order, note, see, strike, known, doubts. */
final class ToldTest {
    private static final Check CHECK = new Check("ToldTest");
    private static final int LOW = Integer.MIN_VALUE;
    private static final int HIGH = Integer.MAX_VALUE;

    private static final String FOUR = "grower a 9 0 0 0;grower b 8 0 0 0;grower c 7 0 0 0;grower d 6 0 0 0;"
        + "sees a b;sees a c;sees a d;sees b a;sees b c;ribbon a;";

    /** a hands to b as long as b isn't doubted down below c, and gets it back at once. */
    private static final String DOUBT = "grower a 9 0 3 0;grower b 9 0 0 1;grower c 8 0 0 2;sees a b;sees a c;sees b a;"
        + "sees c a;ribbon a;";

    public static void main(String[] args) {
        telling();
        full();
        orders();
        strikes();
        knowing();
        doubting();
        CHECK.end();
    }

    private static void telling() {
        RibbonRun x = Check.of(FOUR);
        CHECK.due("P36 none yet", x.strike(0), -1);
        CHECK.due("P34 the first", x.note(0, 1), 0);
        CHECK.due("P34 whom it doesn't see", x.note(3, 0), 1);
        CHECK.due("P35 numbered on", x.see(1, 0, 3, false), 2);
        CHECK.due("P36 numbered on", x.strike(2), 3);
        CHECK.due("P36 of a strike", x.strike(3), 4);
        CHECK.due("P36 the same again", x.strike(3), 5);
        CHECK.due("P36 not itself", x.strike(6), -1);
        CHECK.due("P34 the same again", x.note(0, 1), 6);
        CHECK.due("P34 alike", x.note(1, 1), -1);
        for (int no : new int[] {-1, 4, LOW, HIGH}) {
            CHECK.due("P34 no such " + no, x.note(no, 1), -1);
            CHECK.due("P34 no such " + no, x.note(1, no), -1);
            CHECK.due("P35 no such grower " + no, x.see(1, 0, no, true), -1);
            CHECK.due("P38 no such grower " + no, x.doubts(no), -1);
        }
        for (int no : new int[] {-1, 1, 2, LOW, HIGH}) {
            CHECK.due("P35 no such ribbon " + no, x.see(1, no, 0, true), -1);
        }
        for (int no : new int[] {-1, 0, 61, LOW, HIGH}) {
            CHECK.due("P35 no such years " + no, x.see(no, 0, 0, true), -1);
        }
        for (int no : new int[] {-1, 7, LOW, HIGH}) {
            CHECK.due("P36 no such " + no, x.strike(no), -1);
        }
        CHECK.due("P35 sixty", x.see(60, 0, 0, true), 7);
        CHECK.due("P44 all", x.count(7), 8);
        x.go(9);
        x.back();
        CHECK.due("P44 stays by years", x.count(7), 8);
    }

    private static void full() {
        RibbonRun x = Check.of(FOUR);
        for (int i = 0; i < 24; i += 3) {
            CHECK.due("P34 number", x.note(0, 1), i);
            CHECK.due("P35 number", x.see(1, 0, 0, true), i + 1);
            CHECK.due("P36 number", x.strike(i + 1), i + 2);
        }
        CHECK.due("P34 24 in all", x.note(0, 1), -1);
        CHECK.due("P35 24 in all", x.see(1, 0, 0, true), -1);
        CHECK.due("P36 24 in all", x.strike(0), -1);
        CHECK.due("P44 24", x.count(7), 24);
        CHECK.due("P37 24", x.known(24), true);
        CHECK.due("P37 25", x.known(25), false);
        CHECK.due("P38 all struck", x.doubts(0), 1023);
        CHECK.due("P23 eight handings", x.order(6), 0);
        RibbonRun y = Check.of(DOUBT);
        for (int i = 0; i < 24; i++) {
            y.see(1 + i % 2, 0, 1 - i % 2, true);
        }
        CHECK.due("P38 24 sights that are so", y.doubts(0), 1023);
        RibbonRun z = Check.of("grower a 9 0 0 0;grower b 8 0 0 0;grower c 7 0 0 0;sees a b;sees a c;");
        for (int i = 0; i < 24; i++) {
            z.note(0, i < 11 ? 1 : 2);
        }
        order("24 handings, the fewer clash", z, 0, 2, 1, -2, -2, -2, 11);
    }

    private static void order(String told, RibbonRun x, int... due) {
        for (int i = 0; i < due.length; i++) {
            int what = i + 1 < due.length ? i : 6;
            CHECK.due("P23 " + told + " " + what, x.order(what), due[i]);
        }
    }

    private static void orders() {
        RibbonRun x = Check.of(FOUR);
        order("none", x, 0, 1, 2, 3, -2, -2, 0);
        x.note(0, 3);
        order("a to d: d ahead of b and c", x, 0, 3, 1, 2, -2, -2, 0);
        x.note(0, 3);
        x.note(0, 2);
        order("one must clash", x, 0, 3, 1, 2, -2, -2, 1);
        x.note(1, 2);
        order("b to c: c ahead of a; twice d ahead of b, c", x, 3, 1, 2, 0, -2, -2, 1);
        x.show(1, 0, false);
        order("b doesn't see a any more", x, 0, 3, 1, 2, -2, -2, 1);
        // b sees c alone, so a handing of b to a clashes if c is ahead of a, though b doesn't see a.
        RibbonRun y = Check.of(FOUR);
        y.show(1, 0, false);
        y.note(1, 0);
        y.note(1, 0);
        order("no clash", y, 0, 1, 2, 3, -2, -2, 0);
        y.note(0, 2);
        order("c ahead of b and d, a ahead of c", y, 0, 2, 1, 3, -2, -2, 0);
        y.note(3, 1);
        order("who sees nobody never clashes", y, 0, 2, 1, 3, -2, -2, 0);
        for (int no : new int[] {-1, 7, LOW, HIGH}) {
            CHECK.due("P23 no such " + no, y.order(no), -1);
        }
        RibbonRun z = new RibbonRun();
        order("nobody", z, -2, -2, -2, -2, -2, -2, 0);
        RibbonRun six = Check.of("grower a 9 0 0 0;grower b 8 0 0 0;grower c 7 0 0 0;grower d 6 0 0 0;grower e 6 0 0 0;"
            + "grower f 1 0 0 0;sees a b;sees a c;sees b c;sees b d;sees c d;sees c e;sees d e;sees d f;");
        six.note(0, 2);
        six.note(1, 3);
        six.note(2, 4);
        six.note(3, 5);
        order("all turned round", six, 0, 5, 4, 3, 2, 1, 0);
    }

    private static void strikes() {
        RibbonRun x = Check.of(FOUR);
        x.note(0, 3);
        CHECK.due("P23 d", x.order(1), 3);
        x.strike(0);
        CHECK.due("P36 struck", x.order(1), 1);
        x.strike(1);
        CHECK.due("P36 a strike that is struck", x.order(1), 3);
        x.strike(2);
        CHECK.due("P36 and again", x.order(1), 1);
        x.strike(1);
        CHECK.due("P36 the strike is struck once more", x.order(1), 3);
        x.strike(0);
        CHECK.due("P36 by another strike", x.order(1), 1);
    }

    private static void knowing() {
        RibbonRun x = Check.of(FOUR);
        CHECK.due("P37 none yet", x.known(1), false);
        CHECK.due("P37 by none", x.known(0), true);
        x.note(0, 3);
        CHECK.due("P37 not those to come", x.order(1), 1);
        CHECK.due("P44 by none", x.count(8), 0);
        CHECK.due("P37 by one", x.known(1), true);
        CHECK.due("P37 known", x.order(1), 3);
        x.strike(0);
        CHECK.due("P37 a strike beyond doesn't count", x.order(1), 3);
        CHECK.due("P37 by all", x.known(-1), true);
        CHECK.due("P37 struck", x.order(1), 1);
        CHECK.due("P44 by all", x.count(8), 2);
        x.strike(1);
        CHECK.due("P37 those to come, too", x.order(1), 3);
        CHECK.due("P37 by two", x.known(2), true);
        CHECK.due("P37 the second strike is beyond", x.order(1), 1);
        for (int no : new int[] {-2, 4, LOW, HIGH}) {
            CHECK.due("P37 no such " + no, x.known(no), false);
        }
        CHECK.due("P37 stays", x.count(8), 2);
        CHECK.due("P37 by three", x.known(3), true);
    }

    private static void doubting() {
        RibbonRun x = Check.of(DOUBT);
        CHECK.due("P38 no sights", x.doubts(0), 1023);
        // Behind one year it is with b in any case; behind three with c, if a doubts b's one time by 2 at least.
        x.see(3, 0, 2, true);
        CHECK.due("P38 2 .. 9", x.doubts(0), 1020);
        CHECK.due("P38 of b, who sees a alone", x.doubts(1), 1023);
        // Behind five years with c once more or with b again: 9 - d for b and 8 - d for c.
        x.see(5, 0, 1, true);
        CHECK.due("P38 b again, but by 9: 0 and 0", x.doubts(0), 1020);
        x.see(3, 0, 2, false);
        CHECK.due("P38 both can't be", x.doubts(0), 0);
        x.strike(0);
        // By 1 b and c are alike behind two years, and b, who had it twice, is behind c two years later.
        CHECK.due("P38 struck", x.doubts(0), 1);
        x.known(2);
        CHECK.due("P38 known", x.doubts(0), 1020);
        x.known(-1);
        // From the text on, nothing done by call, whatever has come since.
        x.go(5);
        x.raise(1, 99);
        x.show(0, 2, false);
        x.hand(0, x.ribbon(0, 0) == 2 ? 1 : 2);
        CHECK.due("P38 from the text on", x.doubts(0), 1);
        x.note(0, 1);
        CHECK.due("P38 a handing is no sight", x.doubts(0), 1);
        RibbonRun y = Check.of(DOUBT);
        y.see(1, 0, 1, false);
        CHECK.due("P38 by none", y.doubts(0), 0);
        CHECK.due("P38 by none of c", y.doubts(2), 0);
        // With blight for all of 50 at least.
        String blight = "grower a 0 0 0 0;grower b 7 0 0 0;grower c 6 3 0 0;sees a b;sees a c;ribbon a;blight ";
        RibbonRun z = Check.of(blight + "50;");
        z.see(1, 0, 2, true);
        CHECK.due("P38 9 - 5 is more than 7 - 5", z.doubts(0), 1023);
        z.see(60, 0, 2, true);
        CHECK.due("P38 sixty years", z.doubts(0), 1023);
        z.see(60, 0, 2, false);
        CHECK.due("P38 sixty years, not so", z.doubts(0), 0);
    }
}
