import java.util.NoSuchElementException;

/** The edges of what is now and what is asked of it: promises 6 to 10, 22, 28, 29, 31 to 33 and 44. */
final class EdgeState {
    private static final String THREE = "grower a 10 2 1 0;grower b 20 -3 2 30;grower c 20 0 0 90;";

    private final Edge edge;

    private EdgeState(Edge edge) {
        this.edge = edge;
    }

    static void all(Edge edge) {
        EdgeState test = new EdgeState(edge);
        test.growers();
        test.noGrowers();
        test.ribbons();
        test.judging();
        test.boundsOfJudging();
        test.best();
        test.laws();
        test.names();
        test.values();
        test.errors();
        test.worths();
        test.seen();
        test.keepers();
        test.counts();
    }

    /** 1 IndexOutOfBoundsException, 2 NoSuchElementException, 0 nothing is thrown. */
    private static int thrown(RibbonRun x, int grower, int what) {
        try {
            x.grower(grower, what);
        } catch (IndexOutOfBoundsException e) {
            return 1;
        } catch (NoSuchElementException e) {
            return 2;
        }
        return 0;
    }

    private void growers() {
        edge.at(6, "Of a GROWER now, what 0 WORTH, 1 GROWS, 2 DOUBT, 3 PLACE, 4 HAD, 5 GROWERS (bits) that it SEES, "
            + "6 RIBBONS (bits) that it has.");
        RibbonRun x = Check.of(THREE + "sees a b;sees a c;sees c b;ribbon a;ribbon a;");
        int[][] first = {{10, 2, 1, 0, 2, 6, 3}, {20, -3, 2, 30, 0, 0, 0}, {20, 0, 0, 90, 0, 2, 0}};
        allOf("at first", x, first);
        x.raise(0, 5);
        x.hand(1, 2);
        x.show(1, 0, true);
        x.show(0, 2, false);
        allOf("then", x, new int[][] {{15, 2, 1, 0, 2, 2, 1}, {20, -3, 2, 30, 0, 1, 0}, {20, 0, 0, 90, 1, 2, 2}});
        x.go(1);
        // Both come to b: a and c see b alone.
        allOf("a YEAR later", x, new int[][] {{17, 2, 1, 0, 2, 2, 0}, {17, -3, 2, 30, 2, 1, 3}, {20, 0, 0, 90, 1, 2, 0}});
    }

    private void allOf(String told, RibbonRun x, int[][] due) {
        for (int g = 0; g < due.length; g++) {
            for (int what = 0; what < 7; what++) {
                edge.due(told + " grower(" + g + ", " + what + ")", x.grower(g, what), due[g][what]);
            }
        }
    }

    private void noGrowers() {
        edge.at(6, "IndexOutOfBoundsException: no such GROWER.");
        for (int no : Edge.beyond(0, 2)) {
            for (int what = -1; what < 8; what++) {
                int w = what;
                edge.leaves("grower(" + no + ", " + what + ")", Busy::full, x -> thrown(x, no, w), 1);
            }
        }
        edge.due("the first one", thrown(Busy.full(), 0, 0), 0);
        edge.due("the last one", thrown(Busy.full(), 2, 0), 0);
        edge.due("no growers at all", thrown(new RibbonRun(), 0, 0), 1);
        RibbonRun six = Check.of("grower a 1 1 1 1;grower b 1 1 1 1;grower c 1 1 1 1;grower d 1 1 1 1;grower e 1 1 1 1;"
            + "grower f 1 1 1 1;");
        edge.due("the sixth", thrown(six, 5, 6), 0);
        edge.due("a seventh", thrown(six, 6, 6), 1);
        edge.at(6, "NoSuchElementException: no such what.");
        for (int no : Edge.beyond(0, 6)) {
            edge.leaves("grower(2, " + no + ")", Busy::full, x -> thrown(x, 2, no), 2);
        }
        edge.due("the first what", thrown(Busy.full(), 0, 0), 0);
        edge.due("the last what", thrown(Busy.full(), 0, 6), 0);
    }

    private void ribbons() {
        edge.at(7, "Of a RIBBON now, what 0 who has it, 1 SINCE, 2 how often it was handed.");
        RibbonRun x = Check.of(THREE + "sees a b;ribbon a;ribbon c;");
        ribbonsAre("at first", x, 0, 0, 0, 2, 0, 0);
        x.go(1);
        ribbonsAre("a YEAR later", x, 1, 0, 1, 2, 1, 0);
        x.go(2);
        ribbonsAre("three YEARS later", x, 1, 2, 1, 2, 3, 0);
        x.hand(1, 0);
        ribbonsAre("handed by call", x, 1, 2, 1, 0, 0, 1);
        edge.at(7, "NONE: no such ones.");
        for (int no : Edge.beyond(0, 1)) {
            edge.leaves("ribbon(" + no + ", 0)", Busy::full, y -> y.ribbon(no, 0), -1);
        }
        for (int no : Edge.beyond(0, 2)) {
            edge.leaves("ribbon(1, " + no + ")", Busy::full, y -> y.ribbon(1, no), -1);
        }
        edge.due("one ribbon, the second", Check.of(THREE + "ribbon a;").ribbon(1, 0), -1);
        edge.due("one ribbon, the first", Check.of(THREE + "ribbon a;").ribbon(0, 0), 0);
        edge.due("no ribbon", Check.of(THREE).ribbon(0, 0), -1);
    }

    private void ribbonsAre(String told, RibbonRun x, int... due) {
        for (int i = 0; i < 6; i++) {
            edge.due(told + " ribbon(" + i / 3 + ", " + i % 3 + ")", x.ribbon(i / 3, i % 3), due[i]);
        }
    }

    private void judging() {
        edge.at(8, "JUDGED now of one (the second) by another one;");
        RibbonRun x = Check.of(THREE + "sees a b;ribbon a;ribbon a;");
        edge.due("a by b: 10 - 2 * 2", x.judged(1, 0), 6);
        edge.due("b by a: 20 - 1 * 0", x.judged(0, 1), 20);
        edge.due("a by c, who doesn't see it", x.judged(2, 0), 10);
        x.raise(0, 9);
        edge.due("a by b now", x.judged(1, 0), 15);
        x.hand(0, 1);
        edge.due("b by a now", x.judged(0, 1), 19);
        edge.at(8, "NONE: no such ones, alike.");
        for (int no : Edge.beyond(0, 2)) {
            edge.leaves("judged(" + no + ", 0)", Busy::full, y -> y.judged(no, 0), -1);
            edge.leaves("judged(0, " + no + ")", Busy::full, y -> y.judged(0, no), -1);
            edge.leaves("judged(" + no + ", " + no + ")", Busy::full, y -> y.judged(no, no), -1);
        }
        for (int i = 0; i < 3; i++) {
            int g = i;
            edge.leaves("judged(" + g + ", " + g + ")", Busy::full, y -> y.judged(g, g), -1);
        }
    }

    private static int judgedBy(String e) {
        return Check.of("grower a 7 0 3 0;grower b 8 0 0 9;ribbon b;law judge " + e + ";").judged(0, 1);
    }

    private void boundsOfJudging() {
        edge.terms("JUDGED of one by another one: E of judge (0 .. 9999; WORTH less DOUBT of who judges times HAD, 0 at least, "
            + "without, with an ERROR).");
        String[] e = {"0 - 9999 * 9999", "0 - 1", "0", "1", "9998", "9999", "9999 + 1", "9999 * 9999"};
        int[] due = {0, 0, 0, 1, 9998, 9999, 9999, 9999};
        for (int i = 0; i < e.length; i++) {
            edge.due("judged by " + e[i], judgedBy(e[i]), due[i]);
        }
        edge.due("with an ERROR: 8 - 3 * 1", judgedBy("1 / 0"), 5);
        edge.due("with an ERROR of too much", judgedBy("9999 * 9999 * 9999 * 9999"), 5);
        String two = "grower b 0 0 9 0;ribbon a;sees b a;";
        edge.due("10 - 9", Check.of("grower a 10 0 0 0;" + two).judged(1, 0), 1);
        edge.due("9 - 9", Check.of("grower a 9 0 0 0;" + two).judged(1, 0), 0);
        edge.due("8 - 9: 0 at least", Check.of("grower a 8 0 0 0;" + two).judged(1, 0), 0);
        edge.due("HAD twice: 19 - 18", Check.of("grower a 19 0 0 0;" + two + "ribbon a;").judged(1, 0), 1);
        edge.due("it is BEST with 0", Check.of("grower a 8 0 0 0;" + two).best(1), 0);
        edge.due("0 at least with an ERROR", Check.of("grower a 8 0 0 0;" + two + "law judge 1 / 0;").judged(1, 0), 0);
    }

    private void best() {
        edge.terms("BEST for one: of those it SEES the one JUDGED most, the first of several.");
        String sees = "sees a b;sees a c;sees a d;";
        edge.due("the most", best("10", "11", "9", sees), 2);
        edge.due("one more", best("10", "9", "11", sees), 3);
        edge.due("the first of two", best("10", "9", "10", sees), 1);
        edge.due("the first of three", best("7", "7", "7", sees), 1);
        edge.due("the first of those seen", best("7", "7", "7", "sees a d;sees a c;"), 2);
        edge.due("only those seen", best("99", "99", "0", "sees a d;"), 3);
        edge.due("with 0", best("0", "0", "0", "sees a d;sees a c;"), 2);
        edge.due("9999 and what is cut to it", best("10", "50", "99", sees + "law judge 9989 + worth;"), 1);
        edge.due("9998 and 9999", best("9", "10", "10", sees + "law judge 9989 + worth;"), 2);
        edge.due("below 0 all are 0", best("10", "5", "0", sees + "law judge 0 - worth;"), 1);
        edge.due("1 is more than what is cut to 0", best("10", "5", "0", sees + "law judge 1 - worth;"), 3);
        edge.at(9, "BEST now for one;");
        RibbonRun x = Check.of("grower a 5 0 0 0;grower b 5 0 0 0;grower c 5 0 0 0;sees a b;sees a c;");
        edge.due("best(0)", x.best(0), 1);
        x.raise(2, 1);
        edge.due("best(0) now", x.best(0), 2);
        x.show(0, 2, false);
        edge.due("best(0) now", x.best(0), 1);
        edge.at(9, "-2: it SEES nobody;");
        edge.leaves("best(2)", () -> Check.of(THREE + "sees a b;sees a c;sees b c;ribbon c;"), y -> y.best(2), -2);
        x.show(0, 1, false);
        edge.due("the last one is hidden", x.best(0), -2);
        x.show(0, 1, true);
        edge.due("one is seen", x.best(0), 1);
        edge.at(9, "NONE: no such GROWER.");
        for (int no : Edge.beyond(0, 2)) {
            edge.leaves("best(" + no + ")", Busy::full, y -> y.best(no), -1);
        }
        edge.due("no growers", new RibbonRun().best(0), -1);
    }

    private static int best(String b, String c, String d, String more) {
        return Check.of("grower a 0 0 0 0;grower b " + b + " 0 0 0;grower c " + c + " 0 0 0;grower d " + d + " 0 0 0;" + more).best(0);
    }

    private void laws() {
        edge.at(10, "A law's E now (what 0 judge of the second by the first one; 1 grow, 2 give of the first one: SINCE 0, "
            + "the second one isn't looked at).");
        RibbonRun x = Check.of(THREE + "ribbon c;law judge 1000 * own + worth - 5000;law grow 5000 - worth;law give since;");
        edge.due("judge of b by a", x.law(0, 0, 1), 5020);
        edge.due("judge of a by b, beyond 9999", x.law(0, 1, 0), 15010);
        edge.due("grow of b, beyond 9", x.law(1, 1, 0), 4980);
        x.raise(1, 80);
        edge.due("grow of b now", x.law(1, 1, 0), 4900);
        x.go(3);
        edge.due("SINCE is 3", x.ribbon(0, 1), 3);
        edge.due("but since of law is 0", x.law(2, 2, 0), 0);
        for (int other : new int[] {-1, 0, 1, 2, 3, Edge.LOW, Edge.HIGH}) {
            edge.due("grow, the second is " + other, x.law(1, 1, other), 5000 - x.grower(1, 0));
            edge.due("give, the second is " + other, x.law(2, 1, other), 0);
        }
        edge.at(10, "Long.MIN_VALUE: an ERROR, no such law, no such ones, alike.");
        for (int no : Edge.beyond(0, 2)) {
            edge.leaves("law(" + no + ", 0, 1)", Busy::full, y -> y.law(no, 0, 1), Edge.ERROR);
            edge.leaves("law(0, " + no + ", 1)", Busy::full, y -> y.law(0, no, 1), Edge.ERROR);
            edge.leaves("law(0, 1, " + no + ")", Busy::full, y -> y.law(0, 1, no), Edge.ERROR);
            edge.leaves("law(2, " + no + ", 1)", Busy::full, y -> y.law(2, no, 1), Edge.ERROR);
            edge.due("grow of nobody", x.law(1, no, 1), Edge.ERROR);
        }
        edge.leaves("law(1, 0, 0), which isn't told", Busy::full, y -> y.law(1, 0, 0), Edge.ERROR);
        edge.leaves("law(0, 1, 1)", Busy::full, y -> y.law(0, 1, 1), Edge.ERROR);
        edge.due("laws 0 and 2 aren't told", Check.of(THREE + "law grow 1;").law(0, 0, 1), Edge.ERROR);
        edge.due("laws 0 and 2 aren't told", Check.of(THREE + "law grow 1;").law(2, 0, 1), Edge.ERROR);
        RibbonRun y = Check.of(THREE + "law judge 1 / (worth - 10);law grow 1 / (worth - 10);law give 1 / (worth - 10);");
        edge.due("an ERROR of judge", y.law(0, 1, 0), Edge.ERROR);
        edge.due("no ERROR of judge", y.law(0, 0, 1), 0);
        for (int what = 1; what < 3; what++) {
            edge.due("an ERROR of law " + what, y.law(what, 0, 0), Edge.ERROR);
            edge.due("no ERROR of law " + what, y.law(what, 1, 0), 0);
        }
    }

    /** The VALUES of a name by judge of b by a, by grow and by give of b. */
    private void name(String name, int judge, int own) {
        RibbonRun x = Check.of("grower a 7 1 3 10;grower b 8 2 4 31;ribbon b;ribbon b;law judge " + name + ";law grow " + name
            + ";law give " + name + ";");
        edge.due("judge " + name, x.law(0, 0, 1), judge);
        edge.due("grow " + name, x.law(1, 1, 0), own);
        edge.due("give " + name, x.law(2, 1, 0), own);
    }

    private void names() {
        edge.terms("NAMES: worth: WORTH of who is judged (of grow, give: the GROWER's);");
        name("worth", 8, 8);
        edge.terms("own: WORTH of who judges (else the GROWER's);");
        name("own", 7, 8);
        edge.terms("doubt: DOUBT of who judges (else the GROWER's);");
        name("doubt", 3, 4);
        edge.terms("far: how far apart their PLACES are (else 0);");
        name("far", 21, 0);
        RibbonRun far = Check.of("grower a 1 0 0 0;grower b 1 0 0 99;grower c 1 0 0 99;law judge far;");
        edge.due("99 apart", far.law(0, 0, 1), 99);
        edge.due("99 apart the other way", far.law(0, 1, 0), 99);
        edge.due("at one place", far.law(0, 1, 2), 0);
        edge.terms("had: how often who is judged HAD one (else the GROWER);");
        name("had", 2, 2);
        edge.terms("HAD at first: how many RIBBONS one has at first.");
        for (int many = 0; many < 3; many++) {
            RibbonRun x = Check.of("grower a 1 0 0 0;grower b 1 0 0 0;" + "ribbon b;".repeat(many));
            edge.due("HAD of b with " + many, x.grower(1, 4), many);
            edge.due("HAD of a", x.grower(0, 4), 0);
        }
        RibbonRun each = Check.of("grower a 1 0 0 0;grower b 1 0 0 0;ribbon b;ribbon a;");
        edge.due("HAD of one each", each.grower(0, 4) * 10 + each.grower(1, 4), 11);
        edge.terms("since: SINCE of the RIBBON (of judge, grow 0);");
        name("since", 0, 0);
        String two = "grower a 5 0 0 0;grower b 6 0 0 0;sees a b;ribbon a;";
        RibbonRun x = Check.of(two + "law give since = 2;law grow since;law judge since;");
        x.go(2);
        edge.due("SINCE 2 isn't yet asked", x.ribbon(0, 0), 0);
        edge.due("of judge 0", x.law(0, 0, 1), 0);
        edge.due("JUDGED by 0", x.judged(0, 1), 0);
        x.go(1);
        edge.due("SINCE 2 was asked", x.ribbon(0, 0), 1);
        edge.due("of grow 0", x.grower(0, 0), 5);
        edge.terms("year: the YEAR.");
        name("year", 0, 0);
        RibbonRun y = Check.of(two + "law grow year;law judge year;law give year;");
        y.go(1);
        edge.due("in YEAR 0 nothing grows by 0", y.grower(0, 0), 5);
        edge.due("in YEAR 0 it keeps", y.ribbon(0, 0), 0);
        edge.due("YEAR 1", y.law(0, 0, 1), 1);
        y.go(1);
        edge.due("in YEAR 1 it grows by 1", y.grower(0, 0), 6);
        edge.due("in YEAR 1 it gives", y.ribbon(0, 0), 1);
    }

    private void value(String e, long due) {
        edge.due(e, Check.of("grower a 7 1 3 10;law grow " + e + ";").law(1, 0, 0), due);
    }

    private void values() {
        edge.terms("VALUES are longs; comparisons, and, or, not are 1 or 0 (what isn't 0 is as 1, both sides are worked out), "
            + "/ is cut towards 0;");
        value("9999 * 9999 * 999", 9999L * 9999 * 999);
        value("0 - 9999 * 9999 * 999", -9999L * 9999 * 999);
        value("9999 * 9999 * 999 / 9999 / 9999", 999);
        String[] signs = {"<", "<=", "=", "<>", ">=", ">"};
        int[][] due = {{1, 0, 0}, {1, 1, 0}, {0, 1, 0}, {1, 0, 1}, {0, 1, 1}, {0, 0, 1}};
        for (int i = 0; i < 6; i++) {
            for (int a = 4; a <= 6; a++) {
                value(a + signs[i] + "5", due[i][a - 4]);
                value("(0-" + (10 - a) + ")" + signs[i] + "(0-5)", due[i][a - 4]);
            }
        }
        String[] sides = {"(0-2)", "0", "1", "5"};
        for (int i = 0; i < 4; i++) {
            value("not " + sides[i], i == 1 ? 1 : 0);
            for (int j = 0; j < 4; j++) {
                value(sides[i] + " and " + sides[j], i != 1 && j != 1 ? 1 : 0);
                value(sides[i] + " or " + sides[j], i != 1 || j != 1 ? 1 : 0);
            }
        }
        value("0 and 1 / 0", Edge.ERROR);
        value("1 / 0 and 0", Edge.ERROR);
        value("1 or 1 / 0", Edge.ERROR);
        value("1 / 0 or 1", Edge.ERROR);
        value("9 / 5", 1);
        value("9 / (0 - 5)", -1);
        value("(0 - 9) / 5", -1);
        value("(0 - 9) / (0 - 5)", 1);
        value("4 / 5", 0);
        value("(0 - 4) / 5", 0);
        value("(0 - 5) / 5", -1);
    }

    private void errors() {
        edge.terms("ERROR: / by 0, a value above 10 to the 12 or below 0 by more than that.");
        value("1 / 0", Edge.ERROR);
        value("0 / 0", Edge.ERROR);
        value("1 / (worth - 7)", Edge.ERROR);
        value("1 / (worth - 8)", -1);
        value("1 / (worth - 6)", 1);
        String most = "1000 * 1000 * 1000 * 1000";
        value(most + " - 1", 999999999999L);
        value(most, 1000000000000L);
        value(most + " + 1", Edge.ERROR);
        value(most + " + 1 - 1", Edge.ERROR);
        value("0 - " + most + " + 1", -999999999999L);
        value("0 - " + most, -1000000000000L);
        value("0 - " + most + " - 1", Edge.ERROR);
        value("0 - " + most + " - 1 + 1", Edge.ERROR);
        value("1000 * 1000 * 1000 * 1001", Edge.ERROR);
        value("(" + most + ") * 1", 1000000000000L);
        value("1 * (" + most + ")", 1000000000000L);
        value("(0 - 1) * (" + most + ")", -1000000000000L);
        value("(" + most + ") * 2", Edge.ERROR);
        value("2 * (0 - " + most + ")", Edge.ERROR);
        value("(" + most + ") * 0", 0);
        value("(" + most + ") / (0 - 1)", -1000000000000L);
        value("(" + most + ") * (" + most + ")", Edge.ERROR);
        value("(" + most + ") * (0 - " + most + ")", Edge.ERROR);
        value("1000 * 1000 * (1000 * 1000)", 1000000000000L);
        value("1000 * 1000 * (1000 * 1000 + 1)", Edge.ERROR);
        value("(1000 * 1000 - 1) * (1000 * 1000 + 1)", 999999999999L);
        value("(0 - 1000 * 1000) * (1000 * 1000)", -1000000000000L);
        value("(0 - 1000 * 1000) * (1000 * 1000 + 1)", Edge.ERROR);
        // 2 to the 32 by itself is 0 in a long, 2 to the 31 by 2 to the 33 too.
        value("(4096 * 4096 * 256) * (4096 * 4096 * 256)", Edge.ERROR);
        value("(4096 * 4096 * 128) * (4096 * 4096 * 512)", Edge.ERROR);
        value("0 * (1 / 0)", Edge.ERROR);
        value("(1 / 0) < 1", Edge.ERROR);
        value("not (1 / 0)", Edge.ERROR);
        value("(" + most + " + 1) > 0", Edge.ERROR);
    }

    private void worths() {
        edge.terms("DESERVES: the GROWER with most WORTH, the first of several.");
        edge.due("the most", deserves(5, 7, 6), 1);
        edge.due("the last", deserves(5, 6, 7), 2);
        edge.due("the first of two", deserves(5, 7, 7), 1);
        edge.due("the first of three", deserves(7, 7, 7), 0);
        edge.due("with 0", deserves(0, 0, 0), 0);
        edge.at(22, "DESERVES;");
        RibbonRun x = Check.of("grower a 5 0 0 0;grower b 4 0 0 0;");
        edge.due("deserves()", x.deserves(), 0);
        x.raise(1, 1);
        edge.due("as much now", x.deserves(), 0);
        x.raise(1, 1);
        edge.due("more now", x.deserves(), 1);
        edge.at(22, "NONE: there are no GROWERS.");
        edge.leaves("deserves()", RibbonRun::new, RibbonRun::deserves, -1);
        edge.due("one grower", Check.of("grower a 0 0 0 0;").deserves(), 0);
        edge.at(28, "How many GROWERS have more WORTH than one, or as much and a lesser number;");
        RibbonRun y = Check.of("grower a 5 0 0 0;grower b 7 0 0 0;grower c 5 0 0 0;grower d 0 0 0 0;grower e 7 0 0 0;grower f 5 0 0 0;");
        int[] due = {2, 0, 3, 5, 1, 4};
        for (int g = 0; g < 6; g++) {
            edge.due("rank(" + g + ")", y.rank(g), due[g]);
        }
        y.raise(3, 7);
        edge.due("as much as b, a greater number", y.rank(3), 1);
        y.raise(3, 1);
        edge.due("one more", y.rank(3), 0);
        edge.due("one alone", Check.of("grower a 5 0 0 0;").rank(0), 0);
        edge.at(28, "NONE: no such GROWER.");
        for (int no : Edge.beyond(0, 2)) {
            edge.leaves("rank(" + no + ")", Busy::full, z -> z.rank(no), -1);
        }
        edge.due("no growers", new RibbonRun().rank(0), -1);
    }

    private static int deserves(int a, int b, int c) {
        return Check.of("grower a " + a + " 0 0 0;grower b " + b + " 0 0 0;grower c " + c + " 0 0 0;").deserves();
    }

    private void seen() {
        edge.at(31, "The GROWER whom most SEE, the first of several;");
        edge.due("c by two", Check.of(THREE + "sees a c;sees b c;sees c a;").popular(), 2);
        edge.due("a and c by two", Check.of(THREE + "sees a c;sees b c;sees c a;sees b a;").popular(), 0);
        edge.due("b by one", Check.of(THREE + "sees a b;").popular(), 1);
        edge.due("all by five", Check.of(everySees(6)).popular(), 0);
        RibbonRun six = Check.of(everySees(6));
        six.show(0, 5, false);
        six.show(5, 0, false);
        edge.due("b to e by five", six.popular(), 1);
        edge.due("all by two", Check.of(THREE + "sees c a;sees b a;sees c b;sees a b;sees a c;sees b c;").popular(), 0);
        RibbonRun x = Check.of(THREE + "sees a c;sees b c;sees c a;sees b a;");
        x.show(2, 0, false);
        edge.due("now c", x.popular(), 2);
        edge.at(31, "-2: nobody SEES anybody.");
        edge.leaves("popular()", () -> Check.of(THREE + "ribbon a;"), RibbonRun::popular, -2);
        edge.due("no growers", new RibbonRun().popular(), -2);
        RibbonRun y = Check.of(THREE + "sees c b;");
        edge.due("one sees", y.popular(), 1);
        y.show(2, 1, false);
        edge.due("and no more", y.popular(), -2);
        edge.at(32, "How many pairs SEE each other.");
        edge.due("no growers", new RibbonRun().mutual(), 0);
        edge.due("one way", Check.of(THREE + "sees a b;sees b c;sees c a;").mutual(), 0);
        edge.due("one pair", Check.of(THREE + "sees a b;sees b c;sees c a;sees a c;").mutual(), 1);
        edge.due("all pairs of six", Check.of(everySees(6)).mutual(), 15);
        y.show(2, 1, true);
        y.show(1, 2, true);
        edge.due("now", y.mutual(), 1);
        edge.at(33, "GROWERS (bits) who SEE nobody.");
        edge.due("no growers", new RibbonRun().lonely(), 0);
        edge.due("all of three", Check.of(THREE).lonely(), 7);
        edge.due("all but c", Check.of(THREE + "sees c a;").lonely(), 3);
        edge.due("none of six", Check.of(everySees(6)).lonely(), 0);
        edge.due("who is seen is lonely, too", Check.of(THREE + "sees a c;sees b c;").lonely(), 4);
        y.show(0, 1, true);
        edge.due("now", y.lonely(), 0);
        y.show(0, 1, false);
        edge.due("now", y.lonely(), 1);
    }

    /** So many growers of worth 5, and all see all. */
    static String everySees(int n) {
        StringBuilder text = new StringBuilder();
        for (int i = 0; i < n; i++) {
            text.append("grower ").append((char) ('a' + i)).append(" 5 0 0 0;");
        }
        for (int i = 0; i < n; i++) {
            for (int j = 0; j < n; j++) {
                text.append(i == j ? "" : "sees " + (char) ('a' + i) + " " + (char) ('a' + j) + ";");
            }
        }
        return text.toString();
    }

    private void keepers() {
        edge.at(29, "GROWERS (bits) who would KEEP a RIBBON now (SINCE 0).");
        edge.due("no growers", new RibbonRun().keepers(), 0);
        String sees = "sees a b;sees b a;";
        edge.due("who sees nobody", Check.of(THREE + sees).keepers(), 4);
        edge.due("all", Check.of(THREE).keepers(), 7);
        edge.due("give is 0", Check.of(THREE + sees + "law give 0;").keepers(), 7);
        edge.due("give isn't 0", Check.of(THREE + sees + "law give 0 - 1;").keepers(), 4);
        edge.due("an ERROR gives", Check.of(THREE + sees + "law give 1 / 0;").keepers(), 4);
        edge.due("give by worth", Check.of(THREE + sees + "sees c a;law give worth > 19;").keepers(), 1);
        RibbonRun x = Check.of(THREE + sees + "sees c a;ribbon c;law give since + (worth > 19 and year = 0);");
        edge.due("in YEAR 0", x.keepers(), 1);
        x.go(1);
        edge.due("c gave it", x.ribbon(0, 0), 0);
        x.go(1);
        edge.due("a has kept it", x.ribbon(0, 1), 1);
        edge.due("SINCE is 0 of all, though it is 1", x.keepers(), 7);
        RibbonRun y = Check.of(THREE + "sees a b;");
        y.show(0, 1, false);
        edge.due("now", y.keepers(), 7);
    }

    private void counts() {
        edge.at(44, "0 GROWERS, 1 SEES now, 2 RIBBONS, 3 KNOTS, 4 the YEAR, 5 how often RIBBONS were handed in all, 6 WORTH in sum, "
            + "7 HANDINGS, SIGHTS and STRIKES, 8 by how many it is KNOWN, 9 what can be undone.");
        RibbonRun x = Check.of(THREE + "sees a b;sees a c;ribbon a;ribbon a;law judge worth + 1;law give not (0 or 0);");
        countsAre("at first", x, 3, 2, 2, 7, 0, 0, 50, 0, 0, 0);
        x.go(1);
        countsAre("a YEAR later", x, 3, 2, 2, 7, 1, 2, 49, 0, 0, 0);
        x.show(0, 1, false);
        x.raise(1, -99);
        x.hand(0, 0);
        x.note(0, 1);
        x.see(1, 0, 0, true);
        x.strike(0);
        countsAre("calls later", x, 3, 1, 2, 7, 1, 3, 32, 3, 3, 3);
        x.known(0);
        edge.due("known by none", x.count(8), 0);
        x.known(2);
        x.note(1, 0);
        edge.due("known by two of four", x.count(8), 2);
        edge.due("of four", x.count(7), 4);
        x.known(-1);
        edge.due("known by all", x.count(8), 4);
        x.note(1, 0);
        edge.due("also those to come", x.count(8), 5);
        x.undo();
        edge.due("two can be undone", x.count(9), 2);
        edge.due("handed twice", x.count(5), 2);
        edge.due("no growers", new RibbonRun().count(6), 0);
        edge.due("most SEES", Check.of(everySees(6)).count(1), 30);
        edge.at(44, "NONE for another what.");
        for (int no : Edge.beyond(0, 9)) {
            edge.leaves("count(" + no + ")", Busy::full, y -> y.count(no), -1);
        }
    }

    private void countsAre(String told, RibbonRun x, int... due) {
        for (int what = 0; what < 10; what++) {
            edge.due(told + " count(" + what + ")", x.count(what), due[what]);
        }
    }
}
