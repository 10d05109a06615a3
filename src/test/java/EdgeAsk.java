import java.util.function.Supplier;

/** The edges of what comes, of ways and of games: promises 15 to 21, 24 to 27, 30, 39 and 40. */
final class EdgeAsk {
    /** a hands to b from YEAR 98 on, who keeps it; RIBBON 1 is b's, so they meet in 99 YEARS. */
    private static final String LATE = "grower a 1 0 0 5;grower b 1 0 0 5;sees a b;ribbon a;ribbon b;law give year >= ";

    /** a, b, c and d stand in a row and see z alone, whom they judge 1, a neighbour 2, all others 0; z keeps. */
    private static final String ROW = "grower a 1 0 0 0;grower b 1 0 0 1;grower c 1 0 0 2;grower d 1 0 0 3;grower z 99 0 0 50;"
        + "sees a z;sees b z;sees c z;sees d z;ribbon a;ribbon z;law judge (far = 1) * 2 + (worth = 99);law give worth < 99;";

    private final Edge edge;

    private EdgeAsk(Edge edge) {
        this.edge = edge;
    }

    static void all(Edge edge) {
        EdgeAsk test = new EdgeAsk(edge);
        test.ahead();
        test.rings();
        test.ringsAsItIsNow();
        test.free();
        test.freeOfTwo();
        test.lead();
        test.leadLimits();
        test.walks();
        test.meets();
        test.reach();
        test.games();
        test.gamesRefused();
        test.visits();
        test.visitLimits();
        test.hosts();
        test.comes();
        test.chances();
        test.chanceLimits();
        test.tried();
        test.triedLimits();
    }

    private void ahead() {
        edge.terms("AHEAD for n YEARS as it goes: who has a RIBBON then, how often more it was handed, WORTH, HAD of a GROWER then.");
        RibbonRun x = Check.of("grower a 10 1 0 0;grower b 20 -5 0 0;grower c 5 0 0 0;sees a b;sees b c;ribbon a;ribbon a;law give since = 0;");
        int[][] due = {{0, 0, 10, 2}, {1, 1, 11, 2}, {2, 2, 12, 2}, {2, 2, 13, 2}};
        for (int n = 0; n < 4; n++) {
            for (int what = 0; what < 4; what++) {
                edge.due("ahead(" + n + ", " + what + ", 0)", x.ahead(n, what, 0), due[n][what]);
            }
        }
        edge.due("HAD of b then", x.ahead(1, 3, 1), 2);
        edge.due("HAD of c then", x.ahead(1, 3, 2), 0);
        edge.due("WORTH of b, 0 at least", x.ahead(5, 2, 1), 0);
        x.go(1);
        edge.due("one more", x.ahead(9, 1, 0), 1);
        edge.due("HAD in all", x.ahead(9, 3, 2), 2);
        edge.at(15, "AHEAD (n 0 .. 99), what 0 who has RIBBON i, 1 how often more it was handed, 2 WORTH, 3 HAD of GROWER i.");
        RibbonRun y = Check.of("grower a 0 1 0 0;grower b 3 0 0 0;sees a b;sees b a;ribbon a;ribbon b;");
        int[] last = {1, 99, 99, 100};
        for (int what = 0; what < 4; what++) {
            edge.due("ahead(99, " + what + ", 0)", y.ahead(99, what, 0), last[what]);
            edge.due("ahead(0, " + what + ", 0)", y.ahead(0, what, 0), what == 3 ? 1 : 0);
        }
        edge.due("RIBBON 1", y.ahead(99, 0, 1), 0);
        edge.leaves("ahead(99, 0, 0)", Busy::full, z -> z.ahead(99, 0, 0) < 0 ? -1 : 0, 0);
        RibbonRun end = Check.of("grower a 0 0 0 0;ribbon a;law grow (year > 8999) * 9;");
        for (int i = 0; i < 91; i++) {
            end.go(i < 90 ? 99 : 90);
        }
        edge.due("it is 9000", end.count(4), 9000);
        edge.due("what comes behind 9000 can be asked", end.ahead(2, 2, 0), 18);
        edge.at(15, "NONE: no such ones.");
        for (int what = 0; what < 4; what++) {
            int w = what;
            for (int no : Edge.beyond(0, 99)) {
                edge.leaves("ahead(" + no + ", " + w + ", 0)", Busy::full, z -> z.ahead(no, w, 0), -1);
            }
            for (int no : Edge.beyond(0, what < 2 ? 1 : 2)) {
                edge.leaves("ahead(1, " + w + ", " + no + ")", Busy::full, z -> z.ahead(1, w, no), -1);
            }
        }
        for (int no : Edge.beyond(0, 3)) {
            edge.leaves("ahead(1, " + no + ", 0)", Busy::full, z -> z.ahead(1, no, 0), -1);
        }
        RibbonRun one = Check.of("grower a 0 1 0 0;grower b 3 0 0 0;ribbon a;");
        edge.due("one RIBBON, the second", one.ahead(1, 0, 1), -1);
        edge.due("one RIBBON, the second", one.ahead(1, 1, 1), -1);
        edge.due("the second GROWER", one.ahead(1, 2, 1), 3);
        edge.due("the second GROWER", one.ahead(1, 3, 1), 0);
    }

    private void ring(String told, RibbonRun x, int ribbon, int... due) {
        for (int what = 0; what < 3; what++) {
            edge.due(told + " ring(" + ribbon + ", " + what + ")", x.ring(ribbon, what), due[what]);
        }
    }

    private void rings() {
        edge.terms("it comes to rest with one who wouldn't (0), or to one it was with (1): behind how many steps the first one of the "
            + "RING (or who KEEPS) has it first, GROWERS (bits) of the RING (or that one).");
        String six = "grower a 1 0 0 0;grower b 1 0 0 0;grower c 1 0 0 0;grower d 1 0 0 0;grower e 1 0 0 0;grower f 1 0 0 0;"
            + "sees a b;sees b c;sees c d;sees d e;sees e f;ribbon a;ribbon f;";
        ring("at once", Check.of(six), 1, 0, 0, 32);
        ring("behind five steps", Check.of(six), 0, 0, 5, 32);
        ring("all six", Check.of(six + "sees f a;"), 0, 1, 0, 63);
        ring("all six from f on", Check.of(six + "sees f a;"), 1, 1, 0, 63);
        ring("e and f behind four steps", Check.of(six + "sees f e;"), 0, 1, 4, 48);
        ring("f and e at once", Check.of(six + "sees f e;"), 1, 1, 0, 48);
        ring("c to f behind two steps", Check.of(six + "sees f c;"), 0, 1, 2, 60);
        ring("one alone", Check.of("grower a 1 0 0 0;ribbon a;"), 0, 0, 0, 1);
        ring("give is 0 of c", Check.of(six.replace("c 1", "c 9") + "sees f a;law give worth < 9;"), 0, 0, 2, 4);
        edge.at(16, "RING, what 0: 0 or 1, 1: behind how many steps, 2: GROWERS (bits).");
        edge.leaves("ring(0, 2)", () -> Check.of(six + "sees f c;"), x -> x.ring(0, 2), 60);
        ring("of two", Check.of("grower a 1 0 0 0;grower b 1 0 0 0;sees a b;sees b a;ribbon b;"), 0, 1, 0, 3);
        edge.at(16, "NONE: no such ones.");
        edge.refused("ring", Busy::full, Edge.beyond(0, 1), no -> x -> x.ring(no, 0));
        edge.refused("ring what", Busy::full, Edge.beyond(0, 2), no -> x -> x.ring(0, no));
        edge.due("one RIBBON, the second", Check.of("grower a 1 0 0 0;ribbon a;").ring(1, 0), -1);
    }

    private void ringsAsItIsNow() {
        edge.terms("RING of a RIBBON: with WORTHS, HAD, SINCE, the YEAR as they are now it is led from who has it to BEST, "
            + "from that one to its BEST and so on, as long as one would hand it:");
        // c doubts whom it hands to, but HAD stays as it is.
        RibbonRun had = Check.of("grower a 9 0 0 0;grower b 8 0 0 0;grower c 1 0 9 0;sees c a;sees c b;sees a c;ribbon c;");
        ring("HAD", had, 0, 1, 0, 5);
        edge.due("it will go otherwise", had.ahead(3, 0, 0), 1);
        String row = "grower a 9 -9 0 0;grower b 8 0 0 0;grower c 1 9 9 0;sees a b;sees b a;sees b c;ribbon a;";
        RibbonRun worth = Check.of(row);
        ring("WORTHS", worth, 0, 1, 0, 3);
        edge.due("it will go otherwise", worth.ahead(2, 0, 0), 2);
        RibbonRun since = Check.of(row + "law give since = 2;");
        ring("SINCE 0", since, 0, 0, 0, 1);
        since.go(2);
        ring("SINCE 2 all the way", since, 0, 0, 2, 4);
        RibbonRun year = Check.of(row + "law give year = 0;");
        ring("YEAR 0 all the way", year, 0, 1, 0, 3);
        year.go(1);
        ring("YEAR 1", year, 0, 0, 0, 2);
        RibbonRun two = Check.of(row + "ribbon a;law give since = 1;");
        two.go(1);
        two.hand(1, 1);
        ring("SINCE of RIBBON 0", two, 0, 0, 2, 4);
        ring("SINCE of RIBBON 1", two, 1, 0, 0, 2);
    }

    private void pick(String told, int[] got, int... due) {
        for (int what = 0; what < 3; what++) {
            edge.due(told + " what " + what, got[what], due[what]);
        }
    }

    private static int[] free(RibbonRun x, int ribbon) {
        return new int[] {x.free(ribbon, 0), x.free(ribbon, 1), x.free(ribbon, 2)};
    }

    private void free() {
        edge.terms("FREE of a RIBBON: the fewest SEES, two at most, that must not be, so that RING of it isn't 1 "
            + "(of several the first by numbers of one that SEES and one that is SEEN, then of the second two).");
        String two = "grower a 9 0 0 0;grower b 8 0 0 0;grower c 7 0 0 0;grower d 6 0 0 0;ribbon ";
        pick("it comes to rest", free(Check.of(two + "a;sees a b;"), 0), 0, -2, -2);
        pick("a b and b a, the first", free(Check.of(two + "b;sees b a;sees a b;"), 0), 1, 1, -2);
        pick("a b is no use, a has c as well", free(Check.of(two + "a;sees a b;sees a c;sees b a;sees c a;"), 0), 1, 10, -2);
        pick("the way to the ring", free(Check.of(two + "d;sees d c;sees a b;sees b c;sees c a;sees c b;sees a c;sees b a;"), 0), 1, 32, -2);
        pick("the first of the second two", free(Check.of(EdgeState.everySees(3) + "ribbon c;"), 0), 2, 1, 2);
        edge.due("RING stays 1 with one of these", ringWithout(3, 0, 1), 1);
        edge.due("RING stays 1 with the other one", ringWithout(3, 0, 2), 1);
        edge.due("RING is 0 with both", ringWithout(3, 0, 1, 0, 2), 0);
        pick("two of three aren't enough", free(Check.of(EdgeState.everySees(4) + "ribbon c;"), 0), -2, -2, -2);
        edge.due("three would be", ringWithout(4, 0, 1, 0, 2, 0, 3), 0);
        RibbonRun x = Check.of(EdgeState.everySees(4) + "ribbon c;");
        x.show(1, 3, false);
        pick("two of b's are left", free(x, 0), 2, 10, 12);
        x.show(1, 3, true);
        pick("by none again", free(x, 0), -2, -2, -2);
    }

    private static int ringWithout(int growers, int... pairs) {
        RibbonRun x = Check.of(EdgeState.everySees(growers) + "ribbon c;");
        for (int i = 0; i < pairs.length; i += 2) {
            x.show(pairs[i], pairs[i + 1], false);
        }
        return x.ring(0, 0);
    }

    private void freeOfTwo() {
        edge.at(17, "FREE, what 0: how many SEES, 1, 2: the first, the second one (ten times one that SEES and one that is SEEN; "
            + "-2: not so many).");
        String six = "grower a 1 0 0 0;grower b 1 0 0 0;grower c 1 0 0 0;grower d 1 0 0 0;grower e 9 0 0 0;grower f 9 0 0 0;";
        pick("f e is the second by numbers", free(Check.of(six + "sees f e;sees e f;ribbon f;"), 0), 1, 45, -2);
        pick("f's alone matter", free(Check.of(six + "sees f e;sees f d;sees e f;sees e d;sees e c;sees d f;sees d e;sees d c;sees c f;"
            + "sees c e;sees c d;ribbon f;"), 0), 2, 53, 54);
        pick("0: not so many", free(Check.of(six + "ribbon f;"), 0), 0, -2, -2);
        RibbonRun x = Check.of(six + "sees a b;sees b a;ribbon c;ribbon a;");
        pick("RIBBON 0 keeps", free(x, 0), 0, -2, -2);
        pick("RIBBON 1 goes round", free(x, 1), 1, 1, -2);
        edge.leaves("free(1, 0)", () -> Check.of(six + "sees a b;sees b a;ribbon c;ribbon a;"), y -> y.free(1, 0), 1);
        edge.at(17, "-2: by none;");
        for (int what = 0; what < 3; what++) {
            int w = what;
            edge.leaves("free(0, " + w + ")", () -> Check.of(EdgeState.everySees(4) + "ribbon a;"), y -> y.free(0, w), -2);
        }
        edge.at(17, "NONE: no such ones.");
        edge.refused("free of", Busy::full, Edge.beyond(0, 1), no -> y -> y.free(no, 0));
        edge.refused("free what", Busy::full, Edge.beyond(0, 2), no -> y -> y.free(0, no));
        edge.due("one RIBBON, the second", Check.of("grower a 1 0 0 0;ribbon a;").free(1, 0), -1);
    }

    private static int[] lead(RibbonRun x, int ribbon, int grower, int n) {
        return new int[] {x.lead(ribbon, grower, n, 0), x.lead(ribbon, grower, n, 1), x.lead(ribbon, grower, n, 2)};
    }

    private void lead() {
        edge.terms("LEAD a RIBBON to a GROWER for n YEARS: the fewest SEES that aren't, two at most, that must be from now on, "
            + "so that it has it behind these as it goes, of several the first likewise.");
        RibbonRun row = Check.of(ROW);
        pick("as it goes", lead(row, 0, 4, 1), 0, -2, -2);
        pick("a b", lead(row, 0, 1, 1), 1, 1, -2);
        pick("a b, b c", lead(row, 0, 2, 2), 2, 1, 12);
        pick("by three alone", lead(row, 0, 3, 3), -2, -2, -2);
        row.show(2, 3, true);
        pick("c d is there, a b and b c aren't", lead(row, 0, 3, 3), 2, 1, 12);
        row.show(0, 1, true);
        pick("b c isn't", lead(row, 0, 3, 3), 1, 12, -2);
        row.show(1, 2, true);
        pick("all three are there", lead(row, 0, 3, 3), 0, -2, -2);
        pick("not a YEAR less", lead(row, 0, 3, 2), -2, -2, -2);
        // Behind n YEARS, not by then: it comes to b and goes on.
        RibbonRun on = Check.of("grower a 1 0 0 0;grower b 9 0 0 0;grower c 8 0 0 0;sees a b;sees b c;ribbon a;");
        pick("it is there behind one", lead(on, 0, 1, 1), 0, -2, -2);
        pick("it is gone behind two", lead(on, 0, 1, 2), -2, -2, -2);
        pick("it comes again by c b", lead(on, 0, 1, 3), 1, 21, -2);
        pick("c keeps it", lead(on, 0, 2, 4), 0, -2, -2);
        RibbonRun several = Check.of("grower a 1 0 0 0;grower b 9 0 0 0;grower c 8 0 0 0;ribbon a;");
        pick("a c alone is less than a b and b c", lead(several, 0, 2, 2), 1, 2, -2);
        pick("the first of the second two", lead(several, 0, 0, 2), 0, -2, -2);
        several.show(0, 1, true);
        pick("of b a, b c and c a, b c and c b", lead(several, 0, 0, 3), 2, 12, 20);
        // a hands to b first, whom it doubts then: both SEES of a must be, for c alone would hand it on to d.
        RibbonRun both = Check.of("grower a 1 0 9 0;grower b 9 0 0 0;grower c 8 0 0 0;grower d 7 0 0 0;sees b a;sees c d;ribbon a;");
        pick("a b and a c", lead(both, 0, 2, 3), 2, 1, 2);
        pick("a c alone", lead(both, 0, 2, 1), 1, 2, -2);
        pick("a d alone", lead(both, 0, 3, 1), 1, 3, -2);
        edge.leaves("lead(0, 2, 2, 0)", () -> Check.of(ROW), x -> x.lead(0, 2, 2, 0), 2);
    }

    private void leadLimits() {
        edge.at(18, "LEAD (n 1 .. 20), what as of FREE.");
        String late = "grower a 1 0 0 0;grower b 9 0 0 0;ribbon a;law give year >= ";
        pick("in YEAR 19 of 20", lead(Check.of(late + "19;"), 0, 1, 20), 1, 1, -2);
        pick("in YEAR 20 of 20", lead(Check.of(late + "20;"), 0, 1, 20), -2, -2, -2);
        pick("in YEAR 0 of 1", lead(Check.of(late + "0;"), 0, 1, 1), 1, 1, -2);
        pick("in YEAR 1 of 1", lead(Check.of(late + "1;"), 0, 1, 1), -2, -2, -2);
        pick("who has it", lead(Check.of(late + "0;"), 0, 0, 20), 0, -2, -2);
        RibbonRun two = Check.of(ROW);
        pick("RIBBON 1 keeps", lead(two, 1, 4, 20), 0, -2, -2);
        pick("RIBBON 1 is kept", lead(two, 1, 0, 20), -2, -2, -2);
        edge.at(18, "-2: by none;");
        for (int what = 0; what < 3; what++) {
            int w = what;
            edge.leaves("lead(0, 3, 3, " + w + ")", () -> Check.of(ROW), y -> y.lead(0, 3, 3, w), -2);
        }
        edge.at(18, "NONE: no such ones.");
        edge.refused("lead of", Busy::full, Edge.beyond(0, 1), no -> y -> y.lead(no, 0, 1, 0));
        edge.refused("lead to", Busy::full, Edge.beyond(0, 2), no -> y -> y.lead(0, no, 1, 0));
        edge.refused("lead for", Busy::full, Edge.beyond(1, 20), no -> y -> y.lead(0, 0, no, 0));
        edge.refused("lead what", Busy::full, Edge.beyond(0, 2), no -> y -> y.lead(0, 0, 1, no));
        edge.due("one RIBBON, the second", Check.of(late + "0;").lead(1, 0, 1, 0), -1);
    }

    private void walk(String told, RibbonRun x, int ribbon, int... due) {
        for (int what = 0; what < 6; what++) {
            edge.due(told + " walk(" + ribbon + ", " + what + ")", x.walk(ribbon, what), due[what]);
        }
    }

    private static String places(int... places) {
        StringBuilder text = new StringBuilder();
        for (int i = 0; i < places.length; i++) {
            text.append("grower ").append((char) ('a' + i)).append(" 5 0 0 ").append(places[i]).append(';');
        }
        return text.toString();
    }

    private void walks() {
        edge.terms("WALK from who has a RIBBON by all other GROWERS once each: the shortest way by PLACES, of several the first by GROWERS.");
        walk("to the nearer end first", Check.of(places(50, 90, 40, 20) + "ribbon a;"), 0, 2, 3, 1, -2, -2, 100);
        walk("both ends as near, the first", Check.of(places(50, 60, 40) + "ribbon a;"), 0, 1, 2, -2, -2, -2, 30);
        walk("both ends as near, the first", Check.of(places(50, 40, 60) + "ribbon a;"), 0, 1, 2, -2, -2, -2, 30);
        walk("all at one place", Check.of(places(7, 7, 7, 7, 7, 7) + "ribbon c;"), 0, 0, 1, 3, 4, 5, 0);
        walk("two at each place", Check.of(places(5, 9, 1, 5, 9, 1) + "ribbon d;"), 0, 0, 1, 4, 2, 5, 12);
        walk("from end to end", Check.of(places(0, 99) + "ribbon b;"), 0, 0, -2, -2, -2, -2, 99);
        // b lies on the way to c and on the way back.
        walk("what lies on both ways", Check.of(places(50, 55, 60, 0) + "ribbon a;"), 0, 1, 2, 3, -2, -2, 70);
        edge.at(19, "WALK, what 0 .. 4: the GROWER come to as the how-manieth (-2: not so many), 5: how long.");
        walk("one alone", Check.of(places(5) + "ribbon a;"), 0, -2, -2, -2, -2, -2, 0);
        walk("six", Check.of(places(0, 1, 2, 3, 4, 5) + "ribbon a;"), 0, 1, 2, 3, 4, 5, 5);
        walk("five", Check.of(places(0, 1, 2, 3, 4) + "ribbon a;ribbon e;"), 1, 3, 2, 1, 0, -2, 4);
        RibbonRun x = Check.of(places(0, 1, 2) + "ribbon a;");
        x.hand(0, 2);
        walk("from who has it now", x, 0, 1, 0, -2, -2, -2, 2);
        edge.leaves("walk(0, 5)", Busy::full, y -> y.walk(0, 5) < 0 ? -1 : 0, 0);
        edge.at(19, "NONE: no such ones.");
        edge.refused("walk of", Busy::full, Edge.beyond(0, 1), no -> y -> y.walk(no, 0));
        edge.refused("walk what", Busy::full, Edge.beyond(0, 5), no -> y -> y.walk(0, no));
        edge.due("one RIBBON, the second", x.walk(1, 0), -1);
    }

    private void meets() {
        edge.terms("MEET: in how many YEARS as it goes, 99 at most (0: now), both RIBBONS are with one.");
        edge.due("in 99", Check.of(LATE + "98;").meet(), 99);
        edge.due("in 98", Check.of(LATE + "97;").meet(), 98);
        edge.due("in 1", Check.of(LATE + "0;").meet(), 1);
        RibbonRun x = Check.of(LATE + "98;");
        x.hand(0, 1);
        edge.due("now", x.meet(), 0);
        edge.at(20, "MEET;");
        RibbonRun y = Check.of(LATE + "99;");
        edge.due("in 100", y.meet(), -2);
        y.go(1);
        edge.due("a YEAR later", y.meet(), 99);
        edge.leaves("meet()", () -> Check.of(LATE + "98;"), RibbonRun::meet, 99);
        edge.at(20, "-2: not by then;");
        edge.leaves("meet()", () -> Check.of(LATE + "99;"), RibbonRun::meet, -2);
        edge.due("one behind the other for ever",
            Check.of("grower a 1 0 0 5;grower b 1 0 0 5;sees a b;sees b a;ribbon a;ribbon b;").meet(), -2);
        edge.at(20, "NONE: there aren't two RIBBONS.");
        edge.leaves("meet() of one", () -> Check.of("grower a 1 0 0 5;ribbon a;"), RibbonRun::meet, -1);
        edge.leaves("meet() of none", () -> Check.of("grower a 1 0 0 5;"), RibbonRun::meet, -1);
        edge.due("two", Check.of("grower a 1 0 0 5;ribbon a;ribbon a;").meet(), 0);
    }

    private void reach() {
        edge.terms("REACH of a GROWER: GROWERS (bits) it SEES, those that they SEE and so on (it, too).");
        RibbonRun x = Check.of(places(1, 1, 1, 1, 1, 1) + "sees f e;sees e d;sees d c;sees c b;sees b a;");
        for (int g = 0; g < 6; g++) {
            edge.due("reach(" + g + ") down the row", x.reach(g), (2 << g) - 1);
        }
        RibbonRun y = Check.of(places(1, 1, 1, 1, 1, 1) + "sees a b;sees b c;sees c d;sees d e;sees e f;");
        for (int g = 0; g < 6; g++) {
            edge.due("reach(" + g + ") up the row", y.reach(g), 63 & ~((1 << g) - 1));
        }
        edge.at(21, "REACH (bits);");
        edge.due("it alone", x.reach(0), 1);
        x.show(0, 5, true);
        edge.due("all now", x.reach(0), 63);
        x.show(5, 4, false);
        edge.due("two now", x.reach(0), 33);
        edge.at(21, "NONE: no such GROWER.");
        edge.refused("reach of", Busy::full, Edge.beyond(0, 2), no -> z -> z.reach(no));
        edge.due("no growers", new RibbonRun().reach(0), -1);
    }

    private void game(int worthA, int doubtA, int worthB, int doubtB, int... rests) {
        RibbonRun x = Check.of("grower a " + worthA + " 0 " + doubtA + " 0;grower b " + worthB + " 0 " + doubtB + " 0;");
        String told = "worth " + worthA + ", doubt " + doubtA + " and worth " + worthB + ", doubt " + doubtB;
        edge.due(told + " rests", x.rests(0, 1), rests.length);
        for (int k = 0; k < rests.length; k++) {
            edge.due(told + " rest " + k, x.rest(0, 1, k), rests[k]);
        }
        edge.due(told + " rest " + rests.length, x.rest(0, 1, rests.length), -2);
    }

    private void games() {
        edge.terms("GAME of two GROWERS that SEE each other or not: each KEEPS (0) or HANDS (1): both HAND: each has the other one's WORTH "
            + "by 2, cut; one KEEPS alone: it has its own WORTH, less 5 for each DOUBT of the other one, the other one 0; "
            + "both KEEP: each has its own WORTH by 4, cut.");
        // Both KEEP: 4 by 4 is 1, 3 by 4 is 0, which handing has as well.
        game(4, 0, 4, 0, 0);
        game(3, 0, 3, 0, 0, 1, 10);
        game(3, 0, 4, 0, 0, 10);
        // Both HAND: 35 by 2 is 17; one KEEPS alone: 35 - 20 is less, 35 - 15 is more.
        game(35, 4, 35, 4, 0, 11);
        game(35, 3, 35, 3, 0);
        // a minds b's DOUBT and b minds a's: 35 - 25 is less than 41 by 2, 41 - 15 is more than 35 by 2.
        game(35, 3, 41, 5, 0);
        game(35, 5, 41, 3, 0, 11);
        // b KEEPS alone: 37 - 20 is as much as 35 by 2, 38 - 20 is more; 36 by 2 is as much as that.
        game(35, 4, 37, 4, 0, 11);
        game(35, 4, 38, 4, 0);
        game(36, 4, 38, 4, 0, 11);
        // Who KEEPS alone has less than 0 here, which is less than nothing.
        game(3, 9, 3, 9, 0, 11);
        game(0, 9, 0, 9, 0, 11);
        game(0, 0, 0, 9, 0, 10, 11);
        RibbonRun seen = Check.of("grower a 35 0 4 0;grower b 37 0 4 0;sees a b;sees b a;");
        edge.due("they SEE each other", seen.rests(0, 1), 2);
        edge.terms("A REST: neither would have more otherwise.");
        game(40, 4, 40, 4, 0, 11);
        game(41, 4, 41, 4, 0);
        game(40, 3, 40, 4, 0);
        game(0, 0, 0, 0, 0, 1, 10, 11);
        edge.terms("RESTS: by the first one's, then the second one's.");
        game(3, 0, 40, 9, 0, 10);
        game(40, 9, 3, 0, 0, 1);
        RibbonRun x = Check.of("grower a 3 0 0 0;grower b 40 0 9 0;");
        edge.due("the other way round", x.rest(1, 0, 1), 1);
        edge.due("this way", x.rest(0, 1, 1), 10);
    }

    private void gamesRefused() {
        edge.at(24, "How many RESTS the GAME has;");
        RibbonRun x = Check.of("grower a 0 0 0 0;grower b 0 0 0 0;");
        edge.due("four", x.rests(0, 1), 4);
        x.raise(0, 40);
        x.raise(1, 40);
        edge.due("one now", x.rests(0, 1), 1);
        edge.at(24, "NONE: no such GROWERS, alike.");
        edge.refused("rests one", Busy::full, Edge.beyond(0, 2), no -> y -> y.rests(no, 0));
        edge.refused("rests other", Busy::full, Edge.beyond(0, 2), no -> y -> y.rests(0, no));
        edge.refused("rests alike", Busy::full, new int[] {0, 1, 2}, no -> y -> y.rests(no, no));
        edge.at(25, "The k-th: ten times the first one's and the second one's;");
        RibbonRun four = Check.of("grower a 0 0 0 0;grower b 0 0 0 0;");
        int[] due = {0, 1, 10, 11};
        for (int k = 0; k < 4; k++) {
            edge.due("rest " + k, four.rest(0, 1, k), due[k]);
        }
        edge.at(25, "-2: there are no so many;");
        for (int no : new int[] {4, 5, Edge.HIGH}) {
            edge.leaves("rest " + no, () -> Check.of("grower a 0 0 0 0;grower b 0 0 0 0;"), y -> y.rest(0, 1, no), -2);
        }
        edge.due("one alone", x.rest(0, 1, 1), -2);
        edge.at(25, "NONE likewise, k is below 0.");
        edge.refused("rest k", Busy::full, new int[] {-1, -2, Edge.LOW}, no -> y -> y.rest(0, 1, no));
        edge.refused("rest one", Busy::full, Edge.beyond(0, 2), no -> y -> y.rest(no, 0, 0));
        edge.refused("rest other", Busy::full, Edge.beyond(0, 2), no -> y -> y.rest(0, no, 9));
        edge.refused("rest alike", Busy::full, new int[] {0, 1, 2}, no -> y -> y.rest(no, no, 9));
    }

    private void visit(RibbonRun x, int grower, int way, int bits, int worth) {
        edge.due("visit(" + grower + ", " + way + ", 0)", x.visit(grower, way, 0), bits);
        edge.due("visit(" + grower + ", " + way + ", 1)", x.visit(grower, way, 1), worth);
    }

    private void visits() {
        edge.terms("VISIT from a GROWER with a way: it goes from its PLACE to other GROWERS' one behind another, each once at most, "
            + "its way in sum no longer than that: those GROWERS (in whatever order) whose WORTH in sum is most, of several the least bits.");
        RibbonRun x = Check.of("grower a 50 0 0 40;grower b 10 0 0 30;grower c 20 0 0 45;grower d 20 0 0 60;grower e 0 0 0 40;");
        visit(x, 0, 4, 0, 0);
        visit(x, 0, 5, 4, 20);
        visit(x, 0, 19, 4, 20);
        visit(x, 0, 20, 12, 40);
        // To b and back to d: 10 + 30; to d and back to b: 20 + 30.
        visit(x, 0, 39, 12, 40);
        visit(x, 0, 40, 14, 50);
        visit(x, 0, 999, 14, 50);
        // e at the same PLACE as a: a is there without a step.
        visit(x, 4, 0, 1, 50);
        // As much WORTH: b alone, or c alone; both by 15.
        RibbonRun y = Check.of("grower a 5 0 0 10;grower b 7 0 0 5;grower c 7 0 0 15;grower d 7 0 0 20;");
        visit(y, 0, 4, 0, 0);
        visit(y, 0, 5, 2, 7);
        visit(y, 0, 10, 12, 14);
        visit(y, 0, 14, 12, 14);
        visit(y, 0, 15, 6, 14);
        visit(y, 0, 20, 14, 21);
        visit(y, 3, 5, 4, 7);
        visit(y, 3, 15, 7, 19);
        RibbonRun none = Check.of("grower a 5 0 0 10;grower b 0 0 0 10;grower c 0 0 0 10;");
        visit(none, 0, 0, 0, 0);
        visit(none, 0, 999, 0, 0);
        visit(none, 1, 0, 1, 5);
    }

    private void visitLimits() {
        edge.at(26, "VISIT (a way 0 .. 999), what 0: GROWERS (bits), 1: WORTH in sum.");
        RibbonRun x = Check.of("grower a 9 0 0 0;grower b 9 0 0 99;grower c 9 0 0 0;");
        visit(x, 0, 0, 4, 9);
        visit(x, 0, 98, 4, 9);
        visit(x, 0, 99, 6, 18);
        visit(x, 0, 999, 6, 18);
        x.raise(1, 90);
        visit(x, 0, 999, 6, 108);
        RibbonRun most = Check.of("grower a 99 0 0 0;grower b 99 0 0 99;grower c 99 0 0 50;grower d 99 0 0 1;grower e 99 0 0 98;grower f 99 0 0 0;");
        visit(most, 2, 999, 59, 495);
        visit(most, 2, 148, 59, 495);
        // The nearer end is 49 off, the way 49 + 99.
        visit(most, 2, 147, 57, 396);
        edge.leaves("visit(0, 999, 0)", Busy::full, y -> y.visit(0, 999, 0), 6);
        edge.at(26, "NONE: no such ones.");
        edge.refused("visit from", Busy::full, Edge.beyond(0, 2), no -> y -> y.visit(no, 5, 0));
        edge.refused("visit way", Busy::full, Edge.beyond(0, 999), no -> y -> y.visit(0, no, 0));
        edge.refused("visit what", Busy::full, Edge.beyond(0, 1), no -> y -> y.visit(0, 5, no));
        edge.due("no growers", new RibbonRun().visit(0, 0, 0), -1);
    }

    private void hosts() {
        edge.at(27, "GROWERS (bits) who have a RIBBON at some time in n YEARS 0 .. 99 as it goes (now, too);");
        RibbonRun x = Check.of(LATE + "98;");
        edge.due("hosts(0, 0)", x.hosts(0, 0), 1);
        edge.due("hosts(1, 0)", x.hosts(1, 0), 2);
        edge.due("hosts(0, 98)", x.hosts(0, 98), 1);
        edge.due("hosts(0, 99)", x.hosts(0, 99), 3);
        RibbonRun y = Check.of(places(0, 0, 0) + "sees a b;sees b c;sees c a;ribbon a;");
        int[] due = {1, 3, 7, 7};
        for (int n = 0; n < 4; n++) {
            edge.due("hosts(0, " + n + ")", y.hosts(0, n), due[n]);
        }
        edge.leaves("hosts(0, 99)", () -> Check.of(LATE + "98;"), z -> z.hosts(0, 99), 3);
        edge.at(27, "NONE: no such ones.");
        edge.refused("hosts of", Busy::full, Edge.beyond(0, 1), no -> z -> z.hosts(no, 1));
        edge.refused("hosts in", Busy::full, Edge.beyond(0, 99), no -> z -> z.hosts(0, no));
        edge.due("one RIBBON, the second", y.hosts(1, 1), -1);
    }

    private void comes() {
        edge.at(30, "In how many YEARS as it goes, 99 at most (0: now), a GROWER has a RIBBON;");
        edge.due("now", Check.of(LATE + "98;").comesTo(0, 0), 0);
        edge.due("in 1", Check.of(LATE + "0;").comesTo(0, 1), 1);
        edge.due("in 98", Check.of(LATE + "97;").comesTo(0, 1), 98);
        edge.due("in 99", Check.of(LATE + "98;").comesTo(0, 1), 99);
        RibbonRun x = Check.of(LATE + "99;");
        edge.due("in 100", x.comesTo(0, 1), -2);
        x.go(1);
        edge.due("a YEAR later", x.comesTo(0, 1), 99);
        edge.due("the first of several times",
            Check.of(places(0, 0) + "sees a b;sees b a;ribbon a;").comesTo(0, 1), 1);
        edge.at(30, "-2: not by then;");
        edge.leaves("comesTo(0, 1)", () -> Check.of(LATE + "99;"), y -> y.comesTo(0, 1), -2);
        edge.leaves("comesTo(1, 0)", () -> Check.of(LATE + "0;"), y -> y.comesTo(1, 0), -2);
        edge.at(30, "NONE: no such ones.");
        edge.refused("comesTo of", Busy::full, Edge.beyond(0, 1), no -> y -> y.comesTo(no, 0));
        edge.refused("comesTo whom", Busy::full, Edge.beyond(0, 2), no -> y -> y.comesTo(0, no));
        edge.due("one RIBBON, the second", Check.of(places(0) + "ribbon a;").comesTo(1, 0), -1);
    }

    /** c hands once: to b, unless b is blighted and a isn't. */
    private static final String DRAWN = "grower a 8 0 0 0;grower b 10 0 0 0;grower c 99 0 0 0;sees c a;sees c b;ribbon c;";

    /** How often of ten times a has it behind so many YEARS, by numbers from a seed on. */
    private static int drawn(long seed, int blight, int years) {
        int many = 0;
        long number = seed;
        for (int time = 0; time < 10; time++) {
            boolean isA = false;
            for (int year = 0; year < years; year++) {
                boolean[] isBlighted = new boolean[3];
                for (int g = 0; g < 3; g++) {
                    number = (number * 1103515245L + 12345) & ((1L << 31) - 1);
                    isBlighted[g] = number / 65536 % 100 < blight;
                }
                isA = year == 0 ? isBlighted[1] && !isBlighted[0] : isA;
            }
            many += isA ? 1 : 0;
        }
        return many;
    }

    private void chances() {
        edge.at(39, "In how many of ten times drawn (numbers from a seed 0 .. 2147483647 on, one behind another; n 1 .. 99 YEARS from now) "
            + "a GROWER has a RIBBON then;");
        for (int blight : new int[] {1, 30, 49, 50, 51, 99}) {
            RibbonRun x = Check.of(DRAWN + "blight " + blight + ";");
            for (int seed : new int[] {0, 1, 7, 99999, 100000, Edge.HIGH - 1, Edge.HIGH}) {
                for (int n : new int[] {1, 2, 99}) {
                    int due = drawn(seed, blight, n);
                    String told = "blight " + blight + " chance(" + seed + ", " + n;
                    edge.due(told + ", 0, 0)", x.chance(seed, n, 0, 0), due);
                    edge.due(told + ", 0, 1)", x.chance(seed, n, 0, 1), 10 - due);
                }
            }
        }
        RibbonRun none = Check.of(DRAWN + "blight 0;");
        edge.due("blight 0: b each time", none.chance(5, 1, 0, 1), 10);
        edge.due("blight 0: never a", none.chance(5, 1, 0, 0), 0);
        RibbonRun each = Check.of(DRAWN + "blight 100;");
        edge.due("blight 100: b each time", each.chance(5, 99, 0, 1), 10);
        RibbonRun now = Check.of(DRAWN + "blight 0;");
        now.raise(0, 3);
        edge.due("from now", now.chance(5, 1, 0, 0), 10);
        edge.leaves("chance(7, 9, 0, 0)", () -> Check.of(DRAWN + "blight 50;"), y -> y.chance(7, 9, 0, 0), drawn(7, 50, 9));
    }

    private void chanceLimits() {
        edge.at(39, "NONE: no such ones.");
        edge.refused("chance from", Busy::full, new int[] {-1, -2, Edge.LOW}, no -> y -> y.chance(no, 1, 0, 0));
        edge.refused("chance in", Busy::full, Edge.beyond(1, 99), no -> y -> y.chance(0, no, 0, 0));
        edge.refused("chance of", Busy::full, Edge.beyond(0, 1), no -> y -> y.chance(0, 1, no, 0));
        edge.refused("chance whom", Busy::full, Edge.beyond(0, 2), no -> y -> y.chance(0, 1, 0, no));
        edge.due("one RIBBON, the second", Check.of(DRAWN).chance(0, 1, 1, 0), -1);
        edge.due("no RIBBON", Check.of(places(0)).chance(0, 1, 0, 0), -1);
    }

    private void tried() {
        edge.terms("TRIED for n YEARS as it goes: who has RIBBON 0 then: 0 no blight, 1 nobody doubts, 2 GROWER i is SEEN by nobody, "
            + "3 all SEE all others, 4 nothing grows.");
        // With blight both have 0, and a is the first; without b has more.
        String blight = "grower a 4 0 0 0;grower b 5 0 0 0;grower c 0 0 0 0;sees c a;sees c b;ribbon c;blight ";
        edge.due("blight for all", Check.of(blight + "50;").ahead(1, 0, 0), 0);
        edge.due("0: no blight", Check.of(blight + "50;").tried(0, 0, 1), 1);
        edge.due("1: with blight as it goes", Check.of(blight + "50;").tried(1, 0, 1), 0);
        edge.due("0: no blight of 49", Check.of(blight + "49;").tried(0, 0, 1), 1);
        edge.due("1: no blight as it goes", Check.of(blight + "49;").tried(1, 0, 1), 1);
        String doubt = "grower a 9 0 0 0;grower b 8 0 0 0;grower c 0 0 2 0;sees c a;sees c b;ribbon c;ribbon a;";
        edge.due("c doubts", Check.of(doubt).ahead(1, 0, 0), 1);
        edge.due("1: nobody doubts", Check.of(doubt).tried(1, 0, 1), 0);
        String law = doubt + "law judge worth - (doubt > 0) * had * 5;";
        edge.due("c doubts by law", Check.of(law).ahead(1, 0, 0), 1);
        edge.due("1: nobody doubts by law", Check.of(law).tried(1, 0, 1), 0);
        edge.due("2: a is SEEN by nobody", Check.of(doubt).tried(2, 0, 1), 1);
        edge.due("2: b is SEEN by nobody", Check.of(doubt).tried(2, 1, 1), 0);
        edge.due("2: c is SEEN by nobody", Check.of(doubt).tried(2, 2, 1), 1);
        String all = "grower a 9 0 0 0;grower b 8 0 0 0;grower c 10 0 0 0;sees b a;ribbon a;";
        edge.due("a keeps", Check.of(all).ahead(1, 0, 0), 0);
        edge.due("3: all SEE all others", Check.of(all).tried(3, 0, 1), 2);
        edge.due("3: c hands it to a", Check.of(all).tried(3, 0, 2), 0);
        String grows = "grower a 9 0 0 0;grower b 8 2 0 0;grower c 0 0 0 0;sees c a;sees c b;ribbon c;";
        edge.due("b grows", Check.of(grows).ahead(1, 0, 0), 1);
        edge.due("4: nothing grows", Check.of(grows).tried(4, 0, 1), 0);
        edge.due("4: nothing grows by law", Check.of(grows + "law grow 2 * (worth = 8);").tried(4, 0, 1), 0);
        edge.due("4: blight comes", Check.of(blight + "50;").tried(4, 0, 1), 0);
        RibbonRun x = Check.of("grower a 9 0 0 0;grower b 8 0 0 0;sees a b;ribbon b;ribbon a;");
        edge.due("RIBBON 0, not 1", x.tried(0, 0, 1), 1);
        RibbonRun six = Check.of(EdgeState.everySees(6) + "ribbon f;");
        int[] who = {0, 0, 1, 0, 0};
        for (int what = 0; what < 5; what++) {
            edge.due("six that SEE all, tried " + what, six.tried(what, 0, 1), who[what]);
        }
        edge.due("six that SEE all, the last is SEEN by nobody", six.tried(2, 5, 2), 1);
    }

    private void triedLimits() {
        edge.at(40, "TRIED (n 0 .. 99);");
        for (int what = 0; what < 5; what++) {
            edge.due("tried(" + what + ", 0, 0)", Check.of(LATE + "98;").tried(what, 0, 0), 0);
            edge.due("tried(" + what + ", 0, 98)", Check.of(LATE + "98;").tried(what, 0, 98), 0);
            edge.due("tried(" + what + ", 0, 99)", Check.of(LATE + "98;").tried(what, 0, 99), 1);
            int w = what;
            edge.leaves("tried(" + w + ", 0, 9)", Busy::full, y -> y.tried(w, 0, 9) < 0 ? -1 : 0, 0);
        }
        edge.due("tried(2, 1, 99)", Check.of(LATE + "98;").tried(2, 1, 99), 0);
        edge.at(40, "NONE: no such ones (i 0 of all but 2), no RIBBON.");
        edge.refused("tried what", Busy::full, Edge.beyond(0, 4), no -> y -> y.tried(no, 0, 1));
        for (int what = 0; what < 5; what++) {
            int w = what;
            edge.refused("tried " + w + " for", Busy::full, Edge.beyond(0, 99), no -> y -> y.tried(w, 0, no));
            int[] others = w == 2 ? Edge.beyond(0, 2) : new int[] {-1, 1, 2, Edge.LOW, Edge.HIGH};
            edge.refused("tried " + w + " of", Busy::full, others, no -> y -> y.tried(w, no, 1));
            Supplier<RibbonRun> none = () -> Check.of("grower a 9 0 0 0;grower b 8 0 0 0;sees a b;");
            edge.leaves("tried " + w + " without a RIBBON", none, y -> y.tried(w, 0, 1), -1);
        }
    }
}
