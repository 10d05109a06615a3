/** The edges of what is done by call and of the YEARS: promises 11 to 14 and 41 to 43. */
final class EdgeDeeds {
    private static final String THREE = "grower a 10 0 1 0;grower b 20 0 2 30;grower c 20 0 0 90;";
    private static final String PAIR = "grower a 5 0 0 0;grower b 6 0 0 0;sees a b;sees b a;ribbon a;";

    private final Edge edge;

    private EdgeDeeds(Edge edge) {
        this.edge = edge;
    }

    static void all(Edge edge) {
        EdgeDeeds test = new EdgeDeeds(edge);
        test.showing();
        test.raising();
        test.handing();
        test.years();
        test.lastYears();
        test.growing();
        test.blight();
        test.numbers();
        test.giving();
        test.limitsOfRibbons();
        test.undoing();
        test.undoingTwenty();
        test.undoingAllKinds();
        test.undoingNoYear();
        test.images();
        test.imagesOfAll();
    }

    private void showing() {
        edge.at(11, "One SEES another one from now on, or no more: true;");
        RibbonRun x = Check.of(THREE + "sees a b;");
        edge.due("show(1, 0, true)", x.show(1, 0, true), true);
        edge.due("b SEES a", x.grower(1, 5), 1);
        edge.due("a SEES as it did", x.grower(0, 5), 2);
        edge.due("show(0, 2, true)", x.show(0, 2, true), true);
        edge.due("a SEES b and c", x.grower(0, 5), 6);
        edge.due("show(0, 1, false)", x.show(0, 1, false), true);
        edge.due("a SEES c", x.grower(0, 5), 4);
        x.go(3);
        edge.due("from now on", x.grower(0, 5) * 10 + x.grower(1, 5), 41);
        edge.at(11, "false: no such ones, alike, it is so.");
        for (boolean is : new boolean[] {true, false}) {
            for (int no : Edge.beyond(0, 2)) {
                edge.leaves("show(" + no + ", 1, " + is + ")", Busy::full, y -> y.show(no, 1, is) ? 1 : 0, 0);
                edge.leaves("show(1, " + no + ", " + is + ")", Busy::full, y -> y.show(1, no, is) ? 1 : 0, 0);
            }
            for (int i = 0; i < 3; i++) {
                int g = i;
                edge.leaves("show(" + g + ", " + g + ", " + is + ")", Busy::full, y -> y.show(g, g, is) ? 1 : 0, 0);
            }
        }
        edge.leaves("show(0, 1, true), it is so", Busy::full, y -> y.show(0, 1, true) ? 1 : 0, 0);
        edge.leaves("show(2, 0, true), it is so by call", Busy::full, y -> y.show(2, 0, true) ? 1 : 0, 0);
        edge.leaves("show(2, 1, false), it is so", Busy::full, y -> y.show(2, 1, false) ? 1 : 0, 0);
        edge.due("no growers", new RibbonRun().show(0, 1, true), false);
    }

    private void raising() {
        edge.at(12, "WORTH of a GROWER is more by -99 .. 99, 0 .. 999 then: WORTH;");
        RibbonRun x = Check.of("grower a 99 0 0 0;grower b 50 0 0 0;");
        edge.due("by -99: 0", x.raise(0, -99), 0);
        edge.due("by -1: 0 at least", x.raise(0, -1), 0);
        edge.due("by 1", x.raise(0, 1), 1);
        edge.due("by -2: 0 at least", x.raise(0, -2), 0);
        for (int i = 1; i <= 10; i++) {
            edge.due("by 99", x.raise(0, 99), 99 * i);
        }
        edge.due("by 8", x.raise(0, 8), 998);
        edge.due("by 1: 999", x.raise(0, 1), 999);
        edge.due("by 1: 999 at most", x.raise(0, 1), 999);
        edge.due("by -1", x.raise(0, -1), 998);
        edge.due("by 99: 999 at most", x.raise(0, 99), 999);
        edge.due("WORTH", x.grower(0, 0), 999);
        edge.due("of the other one", x.grower(1, 0), 50);
        edge.due("in sum", x.count(6), 1049);
        edge.at(12, "NONE: no such ones, by 0.");
        for (int no : Edge.beyond(0, 2)) {
            edge.leaves("raise(" + no + ", 1)", Busy::full, y -> y.raise(no, 1), -1);
        }
        for (int no : Edge.beyond(-99, 99)) {
            edge.leaves("raise(1, " + no + ")", Busy::full, y -> y.raise(1, no), -1);
        }
        edge.leaves("raise(1, 0)", Busy::full, y -> y.raise(1, 0), -1);
        edge.due("no growers", new RibbonRun().raise(0, 1), -1);
    }

    private void handing() {
        edge.at(13, "A RIBBON is handed to a GROWER now (HAD once more, SINCE 0): true;");
        RibbonRun x = Check.of(THREE + "ribbon a;ribbon b;");
        x.go(4);
        edge.due("hand(0, 2), who is not seen", x.hand(0, 2), true);
        edge.due("who has it", x.ribbon(0, 0), 2);
        edge.due("SINCE", x.ribbon(0, 1), 0);
        edge.due("handed", x.ribbon(0, 2), 1);
        edge.due("HAD", x.grower(2, 4), 1);
        edge.due("HAD of who had it", x.grower(0, 4), 1);
        edge.due("the other RIBBON's SINCE", x.ribbon(1, 1), 4);
        edge.due("hand(1, 2): both with one", x.hand(1, 2), true);
        edge.due("HAD", x.grower(2, 4), 2);
        edge.due("RIBBONS", x.grower(2, 6), 3);
        edge.due("the YEAR", x.count(4), 4);
        edge.at(13, "false: no such ones, it has it.");
        for (int no : Edge.beyond(0, 1)) {
            edge.leaves("hand(" + no + ", 1)", Busy::full, y -> y.hand(no, 1) ? 1 : 0, 0);
        }
        for (int no : Edge.beyond(0, 2)) {
            edge.leaves("hand(0, " + no + ")", Busy::full, y -> y.hand(0, no) ? 1 : 0, 0);
        }
        edge.leaves("to who has it by call", Busy::full, y -> y.hand(0, y.ribbon(0, 0)) ? 1 : 0, 0);
        edge.leaves("to who has it", Busy::full, y -> y.hand(1, y.ribbon(1, 0)) ? 1 : 0, 0);
        edge.due("one RIBBON, the second", Check.of(THREE + "ribbon a;").hand(1, 1), false);
        edge.due("no RIBBON", Check.of(THREE).hand(0, 1), false);
        edge.due("no growers", new RibbonRun().hand(0, 0), false);
    }

    private void years() {
        edge.at(14, "So many YEARS (0 .. 99) go by: which one it is;");
        RibbonRun x = Check.of("grower a 0 1 0 0;ribbon a;");
        edge.due("go(0)", x.go(0), 0);
        edge.due("nothing grew", x.grower(0, 0), 0);
        edge.due("go(1)", x.go(1), 1);
        edge.due("it grew once", x.grower(0, 0), 1);
        edge.due("go(99)", x.go(99), 100);
        edge.due("it grew a hundred times", x.grower(0, 0), 100);
        edge.due("SINCE", x.ribbon(0, 1), 100);
        edge.due("no growers", new RibbonRun().go(99), 99);
        edge.terms("Then it is the next YEAR.");
        RibbonRun y = Check.of("grower a 0 0 0 0;law grow year;");
        int worth = 0;
        for (int i = 0; i < 12; i++) {
            worth += Math.min(9, i);
            edge.due("go(1)", y.go(1), i + 1);
            edge.due("grown by YEAR " + i, y.grower(0, 0), worth);
        }
        edge.at(14, "NONE, and none does: no such number, behind 9000.");
        for (int no : Edge.beyond(0, 99)) {
            edge.leaves("go(" + no + ")", Busy::full, z -> z.go(no), -1);
        }
        for (int no : new int[] {51, 52, 99}) {
            edge.leaves("go(" + no + ") from 8950 on", EdgeDeeds::late, z -> z.go(no), -1);
        }
        edge.due("go(49) from 8950 on", late().go(49), 8999);
        edge.due("go(50) from 8950 on", late().go(50), 9000);
    }

    /** It is YEAR 8950, and one has been raised. */
    private static RibbonRun late() {
        RibbonRun x = Check.of(THREE + "sees a b;sees b a;ribbon a;ribbon c;blight 30;law grow (year > 8940) * 9 - 1;");
        for (int i = 0; i < 90; i++) {
            x.go(99);
        }
        x.go(40);
        x.raise(1, 50);
        return x;
    }

    private void lastYears() {
        RibbonRun x = late();
        edge.due("undone as no YEAR went by", x.undo(), 0);
        edge.due("go(50)", x.go(50), 9000);
        edge.due("go(1) in 9000", x.go(1), -1);
        edge.due("go(99) in 9000", x.go(99), -1);
        edge.due("go(HIGH) in 9000", x.go(Edge.HIGH), -1);
        edge.due("go(0) in 9000", x.go(0), 9000);
        edge.due("the YEAR", x.count(4), 9000);
        x.raise(0, 1);
        edge.due("a refused YEAR", x.go(1), -1);
        edge.due("nothing goes by: it can be undone", x.count(9), 1);
        edge.due("go(0) leaves it, too", x.go(0), 9000);
        edge.due("undo()", x.undo(), 0);
    }

    private void growing() {
        edge.terms("A YEAR: (1) WORTH of each GROWER, by numbers, is more by E of grow (-9 .. 9; GROWS without, with an ERROR), 0 .. 999.");
        String[] e = {"0 - 9999 * 9999", "0 - 10", "0 - 9", "0 - 8", "0", "8", "9", "10", "9999 * 9999"};
        int[] by = {-9, -9, -9, -8, 0, 8, 9, 9, 9};
        for (int i = 0; i < e.length; i++) {
            RibbonRun x = Check.of("grower a 50 3 0 0;grower b 50 -3 0 0;law grow " + e[i] + ";");
            x.go(1);
            edge.due("a by " + e[i], x.grower(0, 0), 50 + by[i]);
            edge.due("b by " + e[i], x.grower(1, 0), 50 + by[i]);
        }
        RibbonRun x = Check.of("grower a 50 9 0 0;grower b 50 -9 0 0;grower c 9 -9 0 0;grower d 8 -9 0 0;");
        x.go(1);
        edge.due("GROWS 9", x.grower(0, 0), 59);
        edge.due("GROWS -9", x.grower(1, 0), 41);
        edge.due("9 - 9", x.grower(2, 0), 0);
        edge.due("8 - 9: 0 at least", x.grower(3, 0), 0);
        x.go(99);
        edge.due("59 + 891", x.grower(0, 0), 950);
        x.go(5);
        edge.due("995", x.grower(0, 0), 995);
        edge.due("0 stays", x.grower(1, 0), 0);
        x.raise(0, -5);
        x.go(1);
        edge.due("990 + 9", x.grower(0, 0), 999);
        x.go(1);
        edge.due("999 at most", x.grower(0, 0), 999);
        x.raise(0, -8);
        x.go(1);
        edge.due("991 + 9: 999 at most", x.grower(0, 0), 999);
        RibbonRun y = Check.of("grower a 7 3 0 0;grower b 8 -3 0 0;law grow 1 / (worth - 7);");
        y.go(1);
        edge.due("with an ERROR", y.grower(0, 0), 10);
        edge.due("without an ERROR", y.grower(1, 0), 9);
        RibbonRun z = Check.of("grower a 7 3 0 0;law grow 9999 * 9999 * 9999 * 9999;");
        z.go(1);
        edge.due("with an ERROR of too much", z.grower(0, 0), 10);
    }

    private static long next(long number) {
        return (number * 1103515245L + 12345) % (1L << 31);
    }

    /** A seed whose first number is so, modulo 100. */
    private static int seedOf(int rest) {
        for (int seed = 0; seed < 100000; seed++) {
            if (next(seed) / 65536 % 100 == rest) {
                return seed;
            }
        }
        return -1;
    }

    private static int worthBehind(int worth, int blight, int seed) {
        RibbonRun x = Check.of("grower a " + worth + " 0 0 0;blight " + blight + ";seed " + seed + ";");
        x.go(1);
        return x.grower(0, 0);
    }

    private void blight() {
        edge.terms("(2) by numbers each GROWER: a number modulo 100 (no number, if blight is 0 or 100): below blight WORTH is 5 less, "
            + "0 at least.");
        for (int rest : new int[] {0, 1, 17, 49, 50, 51, 98, 99}) {
            int seed = seedOf(rest);
            edge.due("blight " + rest + ", a number of " + rest, worthBehind(50, rest, seed), 50);
            edge.due("blight " + (rest + 1) + ", a number of " + rest, worthBehind(50, rest + 1, seed), 45);
            edge.due("blight 0, a number of " + rest, worthBehind(50, 0, seed), 50);
            edge.due("blight 100, a number of " + rest, worthBehind(50, 100, seed), 45);
        }
        int[] worth = {0, 1, 4, 5, 6};
        int[] due = {0, 0, 0, 0, 1};
        for (int i = 0; i < worth.length; i++) {
            edge.due(worth[i] + " less 5 for all", worthBehind(worth[i], 100, 0), due[i]);
            edge.due(worth[i] + " less 5 by a number", worthBehind(worth[i], 99, seedOf(0)), due[i]);
        }
        RibbonRun x = Check.of("grower a 3 4 0 0;grower b 99 0 0 0;blight 100;law grow 9 * (worth > 90) + 4 * (worth < 9);");
        x.go(1);
        edge.due("3 + 4 - 5: blight is behind growing", x.grower(0, 0), 2);
        edge.due("99 + 9 - 5", x.grower(1, 0), 103);
        RibbonRun y = Check.of("grower a 9 0 0 0;grower b 8 0 0 0;grower c 0 0 0 0;sees c a;sees c b;ribbon c;blight 99;seed " + twoSeed() + ";");
        y.go(1);
        edge.due("a has 4, b 8", y.grower(0, 0) * 10 + y.grower(1, 0), 48);
        edge.due("handing is behind blight", y.ribbon(0, 0), 1);
    }

    /** A seed by which with blight 99 the first is blighted and the second isn't. */
    private static int twoSeed() {
        for (int seed = 0; seed < 100000; seed++) {
            long first = next(seed);
            if (first / 65536 % 100 < 99 && next(first) / 65536 % 100 == 99) {
                return seed;
            }
        }
        return -1;
    }

    private void numbers() {
        edge.terms("Numbers are the last one (at first the seed) times 1103515245 and 12345, without what is above 31 bits, by 65536.");
        for (int seed : new int[] {0, 1, 9, 12345, 99998, 99999}) {
            RibbonRun x = Check.of("grower a 99 0 0 0;grower b 99 0 0 0;grower c 99 0 0 0;blight 37;seed " + seed + ";");
            long number = seed;
            int[] worth = {99, 99, 99};
            for (int i = 0; i < 18; i++) {
                number = next(number);
                worth[i % 3] -= number / 65536 % 100 < 37 ? 5 : 0;
                if (i % 3 == 2) {
                    x.go(1);
                    edge.due("seed " + seed + " a", x.grower(0, 0), worth[0]);
                    edge.due("seed " + seed + " b", x.grower(1, 0), worth[1]);
                    edge.due("seed " + seed + " c", x.grower(2, 0), worth[2]);
                }
            }
        }
        edge.terms("AS IT GOES: without numbers: blight for all, if blight is 50 at least.");
        String two = "grower a 50 0 0 0;grower b 50 0 0 0;ribbon a;seed 3;blight ";
        int[] blight = {0, 1, 49, 50, 51, 99, 100};
        for (int one : blight) {
            RibbonRun x = Check.of(two + one + ";");
            edge.due("blight " + one + " of a", x.ahead(2, 2, 0), one < 50 ? 50 : 40);
            edge.due("blight " + one + " of b", x.ahead(2, 2, 1), one < 50 ? 50 : 40);
        }
        edge.leaves("ahead: no number is taken", () -> Check.of(two + "49;"), x -> x.ahead(99, 2, 0), 50);
        edge.leaves("chance: none of its own is taken", () -> Check.of(two + "49;"), x -> x.chance(5, 9, 0, 0), 10);
    }

    private void giving() {
        edge.terms("(3) by numbers each RIBBON: who has it hands it to BEST, if there is one and E of give isn't 0 "
            + "(it gives without, with an ERROR):");
        String[] give = {"", "law give 0;", "law give 1;", "law give 0 - 1;", "law give 9999 * 9999;", "law give 1 / 0;",
            "law give 0 * (1 / 0);", "law give 9999 * 9999 * 9999 * 9999;", "law give 1 < 0;"};
        int[] who = {1, 0, 1, 1, 1, 1, 1, 1, 0};
        for (int i = 0; i < give.length; i++) {
            RibbonRun x = Check.of(PAIR + give[i]);
            x.go(1);
            edge.due(give[i], x.ribbon(0, 0), who[i]);
        }
        RibbonRun alone = Check.of("grower a 5 0 0 0;grower b 6 0 0 0;sees b a;ribbon a;law give 1;");
        alone.go(1);
        edge.due("there is no BEST", alone.ribbon(0, 0), 0);
        edge.due("SINCE", alone.ribbon(0, 1), 1);
        // Ribbon 0 goes to b first; b HAD one then, which c, who doubts, minds for ribbon 1.
        RibbonRun x = Check.of("grower a 1 0 0 0;grower b 9 0 0 0;grower c 1 0 5 0;grower d 8 0 0 0;sees a b;sees c b;sees c d;"
            + "ribbon a;ribbon c;");
        edge.due("c would hand it to b", x.best(2), 1);
        x.go(1);
        edge.due("RIBBON 0", x.ribbon(0, 0), 1);
        edge.due("RIBBON 1 by what HAD is then", x.ribbon(1, 0), 3);
    }

    private void limitsOfRibbons() {
        edge.terms("that one HAD it once more (999 at most), SINCE is 0;");
        RibbonRun x = Check.of(PAIR);
        for (int i = 0; i < 20; i++) {
            x.go(99);
        }
        x.go(15);
        edge.due("HAD of b in 1995", x.grower(1, 4), 998);
        edge.due("HAD of a in 1995", x.grower(0, 4), 998);
        x.go(1);
        edge.due("HAD of a in 1996", x.grower(0, 4), 999);
        edge.due("SINCE", x.ribbon(0, 1), 0);
        x.go(1);
        edge.due("HAD of b in 1997", x.grower(1, 4), 999);
        x.go(2);
        edge.due("HAD of b in 1999", x.grower(1, 4), 999);
        edge.due("HAD of a in 1999", x.grower(0, 4), 999);
        edge.due("handed", x.ribbon(0, 2), 1999);
        edge.due("by call, too", x.hand(0, 0), true);
        edge.due("HAD of a by call", x.grower(0, 4), 999);
        edge.due("undone", x.undo(), 0);
        edge.due("HAD of a is as it was", x.grower(0, 4), 999);
        edge.due("handed is as it was", x.ribbon(0, 2), 1999);
        edge.due("as it goes, too", x.ahead(9, 3, 0), 999);
        edge.terms("else it KEEPS it: SINCE is 1 more (999 at most).");
        RibbonRun y = Check.of(PAIR + "ribbon b;law give year = 0 and worth = 5 or since = 999 and year > 1010;");
        y.go(1);
        edge.due("b keeps its own", y.ribbon(1, 1), 1);
        edge.due("and has the other one", y.ribbon(0, 0) * 10 + y.ribbon(0, 1), 10);
        for (int i = 0; i < 10; i++) {
            y.go(99);
        }
        y.go(7);
        edge.due("SINCE in 998", y.ribbon(1, 1), 998);
        edge.due("SINCE in 998", y.ribbon(0, 1), 997);
        y.go(1);
        edge.due("SINCE in 999", y.ribbon(1, 1), 999);
        edge.due("SINCE in 999", y.ribbon(0, 1), 998);
        y.go(1);
        edge.due("SINCE in 1000", y.ribbon(1, 1), 999);
        edge.due("SINCE in 1000", y.ribbon(0, 1), 999);
        y.go(11);
        edge.due("SINCE in 1011", y.ribbon(1, 1), 999);
        y.go(1);
        edge.due("handed by SINCE 999", y.ribbon(1, 0) * 10 + y.ribbon(1, 1), 0);
    }

    private void undoing() {
        edge.terms("Showing, raising, handing by call can be undone, the latest first (20 at most),");
        RibbonRun x = Check.of(THREE + "sees a b;ribbon a;ribbon b;law give 0;");
        x.go(3);
        String was = now(x);
        x.show(0, 1, false);
        String shown = now(x);
        x.raise(1, 99);
        String raised = now(x);
        x.hand(0, 1);
        edge.due("undo the handing", x.undo(), 2);
        edge.due("as ahead of it", now(x).equals(raised), true);
        edge.due("undo the raising", x.undo(), 1);
        edge.due("as ahead of it", now(x).equals(shown), true);
        edge.due("undo the showing", x.undo(), 0);
        edge.due("as ahead of it", now(x).equals(was), true);
        edge.due("undo nothing", x.undo(), -1);
        x.raise(2, 99);
        edge.due("by bounds: 20 + 99", x.grower(2, 0), 119);
        x.raise(0, -99);
        edge.due("10 - 99", x.grower(0, 0), 0);
        x.undo();
        edge.due("10 again, not 99", x.grower(0, 0), 10);
        edge.at(41, "The latest is undone: how many are left;");
        edge.due("one is left", x.count(9), 1);
        edge.due("undo()", x.undo(), 0);
        edge.due("WORTH", x.grower(2, 0), 20);
        x.hand(1, 2);
        x.hand(1, 0);
        edge.due("undo()", x.undo(), 1);
        edge.due("who has it", x.ribbon(1, 0), 2);
        edge.due("what is undone isn't done again", x.undo(), 0);
        edge.due("who has it", x.ribbon(1, 0), 1);
        edge.due("SINCE", x.ribbon(1, 1), 3);
        edge.at(41, "NONE: none.");
        edge.leaves("undo()", () -> Check.of(Busy.TEXT), RibbonRun::undo, -1);
        edge.leaves("undo() of a new object", RibbonRun::new, RibbonRun::undo, -1);
        edge.leaves("undo() behind as many as there were", EdgeDeeds::undone, RibbonRun::undo, -1);
        RibbonRun y = Busy.full();
        y.text(0);
        edge.due("behind a TEXT", y.undo(), -1);
    }

    private static RibbonRun undone() {
        RibbonRun x = Busy.full();
        for (int i = 0; i < 3; i++) {
            x.undo();
        }
        return x;
    }

    private static String now(RibbonRun x) {
        StringBuilder told = new StringBuilder();
        for (int g = 0; g < x.count(0); g++) {
            for (int what = 0; what < 7; what++) {
                told.append(x.grower(g, what)).append(' ');
            }
        }
        for (int i = 0; i < 6; i++) {
            told.append(x.ribbon(i / 3, i % 3)).append(' ');
        }
        return told.append(x.count(4)).toString();
    }

    private void undoingTwenty() {
        edge.terms("the latest first (20 at most),");
        for (int many : new int[] {19, 20, 21, 40}) {
            RibbonRun x = Check.of(THREE + "ribbon a;");
            for (int i = 0; i < many; i++) {
                x.raise(0, 1);
            }
            int left = Math.min(many, 20);
            edge.due(many + " raised", x.count(9), left);
            for (int i = left - 1; i >= 0; i--) {
                edge.due(many + " raised, undo()", x.undo(), i);
            }
            edge.due(many + " raised, the first stay", x.grower(0, 0), 10 + many - left);
            edge.due(many + " raised, nothing is left", x.undo(), -1);
        }
        RibbonRun x = Check.of(THREE + "ribbon a;");
        x.show(0, 1, true);
        for (int i = 0; i < 10; i++) {
            x.hand(0, 1);
            x.hand(0, 0);
        }
        for (int i = 19; i >= 0; i--) {
            edge.due("undo()", x.undo(), i);
        }
        edge.due("all handings are undone", x.count(5), 0);
        edge.due("the showing ahead of them isn't", x.grower(0, 5), 2);
        edge.due("nothing is left", x.undo(), -1);
        RibbonRun y = Check.of(THREE + "ribbon a;");
        for (int i = 0; i < 20; i++) {
            y.raise(0, 1);
        }
        y.undo();
        y.raise(1, 1);
        edge.due("19 and one more", y.count(9), 20);
        edge.due("a refused one is none", y.raise(1, 0), -1);
        edge.due("20", y.count(9), 20);
        for (int i = 0; i < 20; i++) {
            y.undo();
        }
        edge.due("all are undone", y.grower(0, 0) * 100 + y.grower(1, 0), 1020);
    }

    /** An object on which so many deeds of all kinds were done. */
    private static RibbonRun done(int many) {
        RibbonRun x = Check.of(THREE + "ribbon a;ribbon b;law give 0;");
        x.go(3);
        for (int i = 0; i < many; i++) {
            int one = (i * 2 + i / 5) % 3;
            int other = (one + 1 + i % 2) % 3;
            if (i % 3 == 0) {
                x.show(one, other, (x.grower(one, 5) >> other & 1) == 0);
            } else if (i % 3 == 1) {
                x.raise(one, 7 * i - 95);
            } else {
                int ribbon = i < 19 ? 0 : 1;
                x.hand(ribbon, (x.ribbon(ribbon, 0) + 1 + i % 2) % 3);
            }
        }
        return x;
    }

    /** 25 of all kinds: each undoing leads to what was there, up to the first five. */
    private void undoingAllKinds() {
        edge.terms("the latest first (20 at most),");
        for (int i = 25; i >= 0; i--) {
            RibbonRun x = done(25);
            edge.due("20 can be undone", x.count(9), 20);
            for (int j = 24; j >= i && j >= 5; j--) {
                edge.due("undo() of " + j, x.undo(), j - 5);
            }
            edge.due("nothing is left", i > 5 ? -1 : x.undo(), -1);
            edge.due("as behind " + Math.max(i, 5), deeds(x).equals(deeds(done(Math.max(i, 5)))), true);
        }
    }

    /** What deeds can change, asked by few calls. */
    private static String deeds(RibbonRun x) {
        StringBuilder told = new StringBuilder();
        for (int g = 0; g < 3; g++) {
            told.append(x.grower(g, 0)).append(' ').append(x.grower(g, 4)).append(' ').append(x.grower(g, 5)).append(' ');
        }
        return told.append(x.ribbon(0, 0)).append(x.ribbon(0, 1)).append(x.ribbon(1, 0)).append(x.ribbon(1, 1)).append(x.count(5)).toString();
    }

    private void undoingNoYear() {
        edge.terms("if no YEAR went by since.");
        RibbonRun x = Check.of(THREE + "ribbon a;");
        x.raise(0, 1);
        x.go(0);
        edge.due("no YEAR", x.count(9), 1);
        x.go(100);
        edge.due("a refused YEAR", x.count(9), 1);
        x.ahead(99, 0, 0);
        edge.due("YEARS ahead", x.count(9), 1);
        edge.due("undo()", x.undo(), 0);
        x.raise(0, 1);
        x.go(1);
        edge.due("one YEAR", x.count(9), 0);
        edge.due("undo()", x.undo(), -1);
        edge.due("it stays", x.grower(0, 0), 11);
        x.raise(0, 2);
        edge.due("one done since", x.undo(), 0);
        edge.due("WORTH", x.grower(0, 0), 11);
        edge.due("not what was ahead of the YEAR", x.undo(), -1);
    }

    private void images() {
        edge.at(42, "An IMAGE is kept (in place of one ahead): which YEAR it is.");
        RibbonRun x = Check.of(THREE + "ribbon a;");
        edge.due("keep()", x.keep(), 0);
        x.go(7);
        edge.due("keep()", x.keep(), 7);
        x.go(2);
        edge.due("back() to the later one", x.back(), 7);
        edge.due("not to the one ahead", x.back(), 7);
        edge.due("keep() of a new object", new RibbonRun().keep(), 0);
        edge.due("what can be undone stays", Busy.full().count(9), 3);
        RibbonRun kept = Busy.full();
        kept.keep();
        edge.due("what can be undone stays with an IMAGE", kept.count(9), 3);
        edge.due("it is undone", kept.undo(), 2);
        edge.at(43, "All (but HANDINGS and SIGHTS) is as in the IMAGE (nothing to undo then): which YEAR it is;");
        RibbonRun y = Check.of(Busy.TEXT);
        y.go(4);
        y.show(2, 1, true);
        y.raise(0, 3);
        String was = now(y);
        y.keep();
        y.hand(0, (y.ribbon(0, 0) + 1) % 3);
        y.show(0, 1, false);
        y.raise(2, -9);
        y.note(0, 1);
        y.see(1, 0, 0, true);
        y.go(9);
        y.raise(2, 1);
        edge.due("back()", y.back(), 4);
        edge.due("all is as it was", now(y).equals(was), true);
        edge.due("nothing to undo", y.undo(), -1);
        edge.due("HANDINGS and SIGHTS stay", y.count(7), 2);
        y.go(1);
        edge.due("back() once more", y.back(), 4);
        edge.due("all is as it was", now(y).equals(was), true);
        y.raise(0, 1);
        edge.due("undo() of what was done since", y.undo(), 0);
        edge.at(43, "NONE: there is none.");
        edge.leaves("back()", () -> Check.of(Busy.TEXT), RibbonRun::back, -1);
        edge.leaves("back() with some to undo", EdgeDeeds::withoutImage, RibbonRun::back, -1);
        edge.leaves("back() of a new object", RibbonRun::new, RibbonRun::back, -1);
        RibbonRun z = Busy.full();
        edge.due("a TEXT", z.text(0), 0);
        edge.due("back() behind a TEXT", z.back(), -1);
        RibbonRun w = Busy.withoutTape();
        edge.due("a TEXT with a FAULT", Check.read(w, "?"), -1);
        edge.due("back() behind it", w.back(), 2);
    }

    private static RibbonRun withoutImage() {
        RibbonRun x = Check.of(Busy.TEXT);
        x.go(2);
        x.raise(0, 4);
        x.note(0, 1);
        return x;
    }

    private void imagesOfAll() {
        edge.terms("An IMAGE keeps all but HANDINGS and SIGHTS.");
        // By the same numbers all comes as it came.
        RibbonRun x = Check.of(Busy.TEXT);
        x.go(2);
        x.keep();
        x.go(8);
        String then = now(x);
        edge.due("back()", x.back(), 2);
        x.go(8);
        edge.due("all comes as it came", now(x).equals(then), true);
        x.back();
        for (int i = 0; i < 8; i++) {
            x.go(1);
        }
        edge.due("all comes as it came", now(x).equals(then), true);
        RibbonRun y = Check.of(Busy.TEXT);
        y.note(0, 1);
        y.keep();
        y.note(1, 2);
        y.see(1, 0, 0, true);
        y.strike(0);
        y.known(2);
        y.back();
        edge.due("HANDINGS and SIGHTS are as they are", y.count(7), 4);
        edge.due("by how many they are KNOWN, too", y.count(8), 2);
        edge.due("the next number", y.note(0, 1), 4);
    }
}
