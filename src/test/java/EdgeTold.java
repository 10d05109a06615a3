/** The edges of what is noted, seen and struck: promises 23 and 34 to 38. */
final class EdgeTold {
    private static final String FOUR = "grower a 9 0 0 0;grower b 8 0 0 0;grower c 7 0 0 0;grower d 6 0 0 0;"
        + "sees a b;sees a c;sees a d;sees b a;sees b c;ribbon a;";

    /** a hands to b, who hands back; from then on to c, if a doubts by 2 at least. */
    private static final String DOUBT = "grower a 9 0 3 0;grower b 9 0 0 1;grower c 8 0 0 2;sees a b;sees a c;sees b a;sees c a;ribbon a;";

    private final Edge edge;

    private EdgeTold(Edge edge) {
        this.edge = edge;
    }

    static void all(Edge edge) {
        EdgeTold test = new EdgeTold(edge);
        test.handings();
        test.sights();
        test.strikes();
        test.room();
        test.knowing();
        test.knownOnes();
        test.orders();
        test.ordersOfMany();
        test.doubts();
        test.doubtsFromTheText();
    }

    private void handings() {
        edge.at(34, "A HANDING: its number;");
        RibbonRun x = Check.of(FOUR);
        edge.due("the first", x.note(0, 1), 0);
        edge.due("the second", x.note(3, 0), 1);
        edge.due("the same once more", x.note(0, 1), 2);
        edge.due("a refused one takes no number", x.note(0, 0), -1);
        edge.due("the next", x.note(1, 2), 3);
        edge.at(34, "NONE: no such ones, alike, or there are 24 in all.");
        edge.refused("note one", Busy::full, Edge.beyond(0, 2), no -> y -> y.note(no, 0));
        edge.refused("note other", Busy::full, Edge.beyond(0, 2), no -> y -> y.note(0, no));
        edge.refused("note alike", Busy::full, new int[] {0, 1, 2}, no -> y -> y.note(no, no));
        edge.leaves("note(0, 1) with 24", Busy::told, y -> y.note(0, 1), -1);
        edge.due("no growers", new RibbonRun().note(0, 1), -1);
    }

    private void sights() {
        edge.at(35, "A SIGHT: its number;");
        RibbonRun x = Check.of(FOUR + "ribbon b;");
        edge.due("behind 1", x.see(1, 0, 0, true), 0);
        edge.due("behind 60", x.see(60, 1, 3, false), 1);
        edge.due("a refused one takes no number", x.see(61, 1, 3, false), -1);
        edge.due("the next", x.see(60, 1, 3, false), 2);
        edge.at(35, "NONE: no such ones, or there are 24 in all.");
        for (boolean is : new boolean[] {true, false}) {
            edge.refused("see behind", Busy::full, Edge.beyond(1, 60), no -> y -> y.see(no, 0, 0, is));
            edge.refused("see of", Busy::full, Edge.beyond(0, 1), no -> y -> y.see(1, no, 0, is));
            edge.refused("see with", Busy::full, Edge.beyond(0, 2), no -> y -> y.see(1, 0, no, is));
            edge.leaves("see(1, 0, 0, " + is + ") with 24", Busy::told, y -> y.see(1, 0, 0, is), -1);
        }
        edge.due("one RIBBON, the second", Check.of(FOUR).see(1, 1, 0, true), -1);
        edge.due("no RIBBON", Check.of("grower a 1 1 1 1;").see(1, 0, 0, true), -1);
        edge.due("no growers", new RibbonRun().see(1, 0, 0, true), -1);
    }

    private void strikes() {
        edge.at(36, "A STRIKE: its number;");
        RibbonRun x = Check.of(FOUR);
        edge.due("nothing to strike", x.strike(0), -1);
        x.note(0, 1);
        edge.due("of a HANDING", x.strike(0), 1);
        edge.due("of a STRIKE", x.strike(1), 2);
        edge.due("once more", x.strike(0), 3);
        edge.due("of itself", x.strike(4), -1);
        edge.due("a SIGHT", x.see(1, 0, 0, true), 4);
        edge.due("of a SIGHT", x.strike(4), 5);
        edge.at(36, "NONE: no such one, or there are 24 in all.");
        edge.refused("strike of four", Busy::full, Edge.beyond(0, 3), no -> y -> y.strike(no));
        edge.due("the last of four", Busy.full().strike(3), 4);
        edge.refused("strike with 24", Busy::told, new int[] {-1, 0, 1, 22, 23, 24, Edge.LOW, Edge.HIGH}, no -> y -> y.strike(no));
        edge.due("none", new RibbonRun().strike(0), -1);
    }

    private void room() {
        edge.terms("A HANDING, at most 24 with all, numbered from 0 on: one handed to another one.");
        for (int kind = 0; kind < 4; kind++) {
            RibbonRun x = Check.of(FOUR);
            x.note(0, 1);
            for (int i = 1; i < 24; i++) {
                int which = kind < 3 ? kind : i % 3;
                edge.due("number " + i + " of kind " + which, add(x, which, i), i);
            }
            edge.due("24", x.count(7), 24);
            for (int which = 0; which < 3; which++) {
                edge.due("a 25th of kind " + which, add(x, which, 9), -1);
            }
            edge.due("24 still", x.count(7), 24);
            edge.due("known by all of them", x.count(8), 24);
        }
        edge.terms("A SIGHT: behind so many YEARS 1 .. 60 (as it goes from the TEXT on, nothing done by call) "
            + "a RIBBON was with a GROWER, or wasn't; numbered on with HANDINGS.");
        RibbonRun x = Check.of(FOUR);
        edge.due("a HANDING", x.note(0, 1), 0);
        edge.due("a SIGHT", x.see(1, 0, 1, true), 1);
        edge.due("a HANDING", x.note(0, 1), 2);
        edge.due("a SIGHT", x.see(60, 0, 1, true), 3);
        String late = "grower a 1 0 0 0;grower b 9 0 0 0;sees a b;ribbon a;law give year >= ";
        edge.due("with b behind 60, it gives in YEAR 59", sixty(late + "59;", 60, 1, true), 1023);
        edge.due("wasn't with b behind 60", sixty(late + "59;", 60, 1, false), 0);
        edge.due("with b behind 59", sixty(late + "59;", 59, 1, true), 0);
        edge.due("wasn't with b behind 59", sixty(late + "59;", 59, 1, false), 1023);
        edge.due("with b behind 60, it gives in YEAR 60", sixty(late + "60;", 60, 1, true), 0);
        edge.due("with b behind 1, it gives in YEAR 0", sixty(late + "0;", 1, 1, true), 1023);
        edge.due("with a behind 1, it gives in YEAR 0", sixty(late + "0;", 1, 0, true), 0);
        edge.due("with a behind 1, it gives in YEAR 1", sixty(late + "1;", 1, 0, true), 1023);
        edge.terms("A STRIKE of one of these.");
        RibbonRun y = Check.of(late + "0;");
        y.see(1, 0, 0, true);
        edge.due("a SIGHT that isn't so", y.doubts(0), 0);
        y.strike(0);
        edge.due("is STRUCK", y.doubts(0), 1023);
    }

    private static int add(RibbonRun x, int kind, int i) {
        return kind == 0 ? x.note(i % 4, (i + 1) % 4) : kind == 1 ? x.see(i, 0, i % 4, i % 2 == 0) : x.strike(i - 1);
    }

    private static int sixty(String text, int years, int grower, boolean is) {
        RibbonRun x = Check.of(text);
        x.see(years, 0, grower, is);
        return x.doubts(0);
    }

    private void knowing() {
        edge.at(37, "KNOWN by n from now on (-1: by all, also those to come): true;");
        RibbonRun x = Check.of(FOUR);
        edge.due("known(0) of none", x.known(0), true);
        edge.due("by none", x.count(8), 0);
        x.note(0, 3);
        edge.due("not those to come", x.count(8), 0);
        edge.due("it isn't KNOWN", x.order(1), 1);
        edge.due("known(1) of one", x.known(1), true);
        edge.due("it is KNOWN", x.order(1), 3);
        x.strike(0);
        edge.due("by one of two", x.count(8), 1);
        edge.due("the STRIKE isn't KNOWN", x.order(1), 3);
        edge.due("known(2) of two", x.known(2), true);
        edge.due("the STRIKE is KNOWN", x.order(1), 1);
        edge.due("known(0) of two", x.known(0), true);
        edge.due("known(-1)", x.known(-1), true);
        edge.due("by all", x.count(8), 2);
        x.strike(1);
        edge.due("those to come, too", x.count(8), 3);
        edge.due("they are KNOWN", x.order(1), 3);
        edge.due("known(24) of 24", Busy.told().known(24), true);
        edge.due("known(-1) of none", new RibbonRun().known(-1), true);
        edge.at(37, "false: no such n.");
        for (int no : Edge.beyond(-1, 4)) {
            edge.leaves("known(" + no + ") of four", Busy::full, y -> y.known(no) ? 1 : 0, 0);
        }
        edge.due("known(4) of four", Busy.full().known(4), true);
        edge.leaves("known(25) of 24", Busy::told, y -> y.known(25) ? 1 : 0, 0);
        edge.leaves("known(1) of none", RibbonRun::new, y -> y.known(1) ? 1 : 0, 0);
    }

    private void knownOnes() {
        edge.terms("KNOWN by n (all at first): the first n that aren't STRUCK by one of these (a STRIKE may be STRUCK: then it doesn't count; "
            + "asked from the last one on).");
        RibbonRun x = Check.of(FOUR);
        x.note(0, 3);
        edge.due("all at first", x.order(1), 3);
        // A row of STRIKES, each of the one ahead of it: every second one counts.
        for (int i = 1; i < 24; i++) {
            edge.due("a STRIKE of " + (i - 1), x.strike(i - 1), i);
            edge.due("by " + i + " STRIKES", x.order(1), i % 2 == 1 ? 1 : 3);
        }
        for (int n = 0; n <= 24; n++) {
            x.known(n);
            edge.due("KNOWN by " + n, x.order(1), n % 2 == 0 ? 1 : 3);
        }
        RibbonRun two = Check.of(FOUR);
        two.note(0, 3);
        two.strike(0);
        two.strike(0);
        two.strike(1);
        edge.due("one of two STRIKES is STRUCK, the other one counts", two.order(1), 1);
        two.strike(2);
        edge.due("both are STRUCK", two.order(1), 3);
        two.strike(3);
        edge.due("a STRIKE of one of these counts no more", two.order(1), 1);
        two.known(5);
        edge.due("KNOWN by five", two.order(1), 3);
        two.known(3);
        edge.due("KNOWN by three", two.order(1), 1);
        two.known(1);
        edge.due("KNOWN by one", two.order(1), 3);
    }

    private void order(String told, RibbonRun x, int... due) {
        for (int what = 0; what < 7; what++) {
            edge.due(told + " order(" + what + ")", x.order(what), due[what]);
        }
    }

    private void orders() {
        edge.terms("ORDER: a row of all GROWERS, best first, by which fewest of the KNOWN HANDINGS CLASH, of several the first by GROWERS: "
            + "one CLASHES, if another one that the first one of it SEES now is ahead of the second one.");
        RibbonRun x = Check.of(FOUR);
        order("no HANDINGS", x, 0, 1, 2, 3, -2, -2, 0);
        x.note(0, 3);
        order("d ahead of b and c", x, 0, 3, 1, 2, -2, -2, 0);
        x.note(0, 2);
        order("d or c ahead of all, the first by GROWERS", x, 0, 2, 1, 3, -2, -2, 1);
        x.note(0, 3);
        order("d twice, c once", x, 0, 3, 1, 2, -2, -2, 1);
        x.show(0, 2, false);
        x.show(0, 3, false);
        order("a SEES b alone now: c and d ahead of b", x, 0, 2, 3, 1, -2, -2, 0);
        x.show(0, 1, false);
        order("a SEES nobody now", x, 0, 1, 2, 3, -2, -2, 0);
        RibbonRun y = Check.of(FOUR);
        y.note(3, 2);
        y.note(2, 3);
        order("who SEES nobody never CLASHES", y, 0, 1, 2, 3, -2, -2, 0);
        y.note(1, 3);
        // b SEES a and c, not d: d must be ahead of both.
        order("to one it doesn't SEE", y, 1, 3, 0, 2, -2, -2, 0);
        y.note(1, 0);
        order("to a, who is behind d, whom b doesn't SEE", y, 1, 3, 0, 2, -2, -2, 0);
        y.note(1, 2);
        order("a ahead of c, or c ahead of a", y, 1, 3, 0, 2, -2, -2, 1);
        y.strike(2);
        order("the KNOWN alone", y, 0, 1, 2, 3, -2, -2, 1);
        y.strike(3);
        order("c ahead of a", y, 1, 2, 0, 3, -2, -2, 0);
        edge.at(23, "ORDER, what 0 .. 5: the GROWER that is the how-manieth (-2: not so many), 6: how many HANDINGS CLASH.");
        order("nobody", new RibbonRun(), -2, -2, -2, -2, -2, -2, 0);
        order("one alone", Check.of("grower a 1 1 1 1;"), 0, -2, -2, -2, -2, -2, 0);
        order("six", Check.of(EdgeState.everySees(6)), 0, 1, 2, 3, 4, 5, 0);
        edge.leaves("order(0)", Busy::full, z -> z.order(0), 0);
    }

    private void ordersOfMany() {
        RibbonRun six = Check.of(EdgeState.everySees(6));
        for (int i = 0; i < 5; i++) {
            six.note(i, 5);
        }
        order("f ahead of all", six, 5, 0, 1, 2, 3, 4, 0);
        // f ahead of e, e of d, d of c, c of b, b of a: the last row of all.
        RibbonRun last = Check.of("grower a 1 0 0 0;grower b 1 0 0 0;grower c 1 0 0 0;grower d 1 0 0 0;grower e 1 0 0 0;grower f 1 0 0 0;"
            + "sees a e;sees a f;sees b d;sees b e;sees e c;sees e d;sees f b;sees f c;sees d a;sees d b;");
        last.note(0, 5);
        last.note(1, 4);
        last.note(4, 3);
        last.note(5, 2);
        last.note(3, 1);
        order("all turned round", last, 5, 4, 3, 2, 1, 0, 0);
        RibbonRun sight = Check.of(FOUR);
        sight.see(1, 0, 3, true);
        order("a SIGHT is no HANDING", sight, 0, 1, 2, 3, -2, -2, 0);
        sight.note(0, 2);
        sight.strike(0);
        order("a STRIKE is none either", sight, 0, 2, 1, 3, -2, -2, 0);
        RibbonRun most = Check.of(EdgeState.everySees(3));
        for (int i = 0; i < 24; i++) {
            most.note(2, i < 12 ? 0 : 1);
        }
        order("12 of 24 CLASH", most, 0, 1, 2, -2, -2, -2, 12);
        RibbonRun all = Check.of("grower a 1 0 0 0;grower b 1 0 0 0;grower c 1 0 0 0;sees a b;sees a c;sees b a;sees b c;sees c a;sees c b;");
        for (int i = 0; i < 24; i++) {
            all.note(0, i % 2 == 0 && i < 22 ? 2 : 1);
        }
        order("11 of 24 CLASH", all, 0, 1, 2, -2, -2, -2, 11);
        edge.at(23, "NONE for another what.");
        edge.refused("order", Busy::full, Edge.beyond(0, 6), no -> y -> y.order(no));
        edge.due("of nobody", new RibbonRun().order(7), -1);
    }

    private void doubts() {
        edge.terms("DOUBTS of a GROWER: 0 .. 9 (bits) in place of its own, by which all KNOWN SIGHTS are so.");
        RibbonRun x = Check.of(DOUBT);
        edge.due("no SIGHTS", x.doubts(0), 1023);
        x.see(3, 0, 2, true);
        edge.due("with c behind 3: 2 .. 9", x.doubts(0), 1020);
        edge.due("b's DOUBT is as it likes", x.doubts(1), 1023);
        RibbonRun back = Check.of(DOUBT);
        back.see(3, 0, 2, true);
        back.see(1, 0, 1, true);
        back.note(0, 1);
        edge.due("with b behind 1, told later", back.doubts(0), 1020);
        x.strike(0);
        x.see(3, 0, 1, true);
        edge.due("with b behind 3: 0 and 1", x.doubts(0), 3);
        edge.due("a DOUBTS by 3: of b by none", x.doubts(1), 0);
        x.see(3, 0, 2, false);
        edge.due("not with c", x.doubts(0), 3);
        x.see(3, 0, 2, true);
        edge.due("not all can be", x.doubts(0), 0);
        // By a DOUBT of 9 alone: b HAD it once, 9 - 9 is as much as 0 of c.
        String nine = "grower a 9 0 0 0;grower b 9 0 0 0;grower c 1 0 0 0;sees a b;sees a c;ribbon a;ribbon b;";
        RibbonRun most = Check.of(nine);
        most.see(1, 0, 2, true);
        edge.due("9 alone", most.doubts(0), 512);
        RibbonRun least = Check.of(nine.replace("c 1", "c 8"));
        least.see(1, 0, 1, true);
        edge.due("0 and 1: 9 - 1 is as much as 8, and b is first", least.doubts(0), 3);
        RibbonRun none = Check.of(nine.replace("c 1", "c 9"));
        none.see(1, 0, 1, true);
        edge.due("0 alone", none.doubts(0), 1);
        edge.at(38, "DOUBTS (bits);");
        RibbonRun noted = Check.of(DOUBT);
        noted.see(1, 0, 2, true);
        edge.due("a SIGHT that isn't so", noted.doubts(0), 0);
        Check.read(noted, DOUBT);
        noted.note(0, 2);
        edge.due("a HANDING is no SIGHT", noted.doubts(0), 1023);
        x.known(3);
        edge.due("KNOWN by three", x.doubts(0), 3);
        x.known(1);
        edge.due("KNOWN by one", x.doubts(0), 1020);
        x.known(0);
        edge.due("KNOWN by none", x.doubts(0), 1023);
        edge.leaves("doubts(0)", Busy::full, y -> y.doubts(0), Busy.full().doubts(0));
        edge.at(38, "NONE: no such GROWER.");
        edge.refused("doubts of", Busy::full, Edge.beyond(0, 2), no -> y -> y.doubts(no));
        edge.due("no growers", new RibbonRun().doubts(0), -1);
    }

    private void doubtsFromTheText() {
        edge.terms("(as it goes from the TEXT on, nothing done by call)");
        RibbonRun x = Check.of(DOUBT);
        x.see(3, 0, 2, true);
        x.raise(1, 99);
        x.show(0, 2, false);
        x.hand(0, 1);
        edge.due("nothing done by call", x.doubts(0), 1020);
        x.go(7);
        edge.due("from the TEXT on", x.doubts(0), 1020);
        x.keep();
        x.go(1);
        x.back();
        edge.due("not from the IMAGE on", x.doubts(0), 1020);
        String blight = "grower a 0 0 0 0;grower b 7 0 0 0;grower c 6 3 0 0;sees a b;sees a c;ribbon a;law grow 3 * (own = 6);"
            + "law judge worth - 9 * (worth = 4 and own = 0);blight ";
        edge.due("blight for all of 50", sixty(blight + "50;", 1, 1, true), 1023);
        edge.due("no blight of 49", sixty(blight + "49;", 1, 2, true), 1023);
        edge.due("no numbers", sixty(blight + "49;seed 77;", 1, 2, true), 1023);
        // By law, too: a DOUBT by which it gives.
        String law = "grower a 5 0 4 0;grower b 5 0 0 0;sees a b;ribbon a;law give doubt > 6;";
        edge.due("by law: 7, 8, 9", sixty(law, 5, 1, true), 896);
        edge.due("by law: 0 .. 6", sixty(law, 5, 0, true), 127);
    }
}
