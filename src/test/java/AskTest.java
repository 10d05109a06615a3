/** Promises 15 to 21, 24 to 27, 29, 30, 39, 40: what comes, rings, walks, games, what is tried. */
final class AskTest {
    private static final Check CHECK = new Check("AskTest");
    private static final int LOW = Integer.MIN_VALUE;
    private static final int HIGH = Integer.MAX_VALUE;
    private static final int[] NO_RIBBONS = {-1, 2, LOW, HIGH};

    /** a -> b -> c -> b: b and c are a ring, two steps off from d by a; nobody sees d. */
    private static final String TAIL = "grower a 10 0 0 0;grower b 20 0 0 10;grower c 30 0 0 20;grower d 40 0 0 30;"
        + "sees d a;sees a b;sees b c;sees c b;ribbon d;ribbon a;";

    public static void main(String[] args) {
        aheads();
        rings();
        frees();
        leads();
        walks();
        meets();
        reaches();
        games();
        visits();
        hosts();
        keepers();
        comes();
        chances();
        tries();
        CHECK.end();
    }

    private static void aheads() {
        RibbonRun x = Check.of(TAIL + "blight 60;");
        x.go(0);
        CHECK.due("P15 now", x.ahead(0, 0, 0), 3);
        CHECK.due("P15 who", x.ahead(1, 0, 0), 0);
        CHECK.due("P15 who", x.ahead(2, 0, 0), 1);
        CHECK.due("P15 who", x.ahead(4, 0, 0), 1);
        CHECK.due("P15 the other ribbon", x.ahead(4, 0, 1), 2);
        CHECK.due("P15 99", x.ahead(99, 1, 0), 99);
        CHECK.due("P15 worth", x.ahead(3, 2, 3), 25);
        CHECK.due("P15 worth, 0 at least", x.ahead(99, 2, 3), 0);
        // b has ribbon 1 in year 1, ribbon 0 in year 2, ribbon 1 in year 3.
        CHECK.due("P15 had", x.ahead(3, 3, 1), 3);
        CHECK.due("P15 nothing changes", x.count(4), 0);
        CHECK.due("P15 nothing changes", x.grower(3, 0), 40);
        x.hand(0, 0);
        CHECK.due("P15 how often more", x.ahead(3, 1, 0), 3);
        CHECK.due("P15 had with what was", x.ahead(0, 3, 0), 2);
        for (int no : new int[] {-1, 100, LOW, HIGH}) {
            CHECK.due("P15 no years " + no, x.ahead(no, 0, 0), -1);
        }
        for (int no : new int[] {-1, 4, LOW, HIGH}) {
            CHECK.due("P15 no what " + no, x.ahead(1, no, 0), -1);
        }
        for (int no : NO_RIBBONS) {
            CHECK.due("P15 no ribbon " + no, x.ahead(1, 0, no), -1);
            CHECK.due("P15 no ribbon " + no, x.ahead(1, 1, no), -1);
        }
        for (int no : new int[] {-1, 4, LOW, HIGH}) {
            CHECK.due("P15 no grower " + no, x.ahead(1, 2, no), -1);
            CHECK.due("P15 no grower " + no, x.ahead(1, 3, no), -1);
        }
        CHECK.due("P15 a third grower", x.ahead(1, 2, 2), 25);
    }

    private static void rings() {
        RibbonRun x = Check.of(TAIL);
        CHECK.due("P16 round", x.ring(0, 0), 1);
        CHECK.due("P16 steps", x.ring(0, 1), 2);
        CHECK.due("P16 bits", x.ring(0, 2), 6);
        CHECK.due("P16 steps of the other one", x.ring(1, 1), 1);
        x.show(2, 1, false);
        CHECK.due("P16 comes to rest", x.ring(0, 0), 0);
        CHECK.due("P16 steps", x.ring(0, 1), 3);
        CHECK.due("P16 bits", x.ring(0, 2), 4);
        for (int no : NO_RIBBONS) {
            CHECK.due("P16 no ribbon " + no, x.ring(no, 0), -1);
        }
        for (int no : new int[] {-1, 3, LOW, HIGH}) {
            CHECK.due("P16 no what " + no, x.ring(0, no), -1);
        }
        // HAD doesn't grow on the way: c goes back to a for ever, though it doubts.
        String doubt = "grower a 9 0 0 0;grower b 8 0 0 0;grower c 1 0 9 0;sees c a;sees c b;sees a c;ribbon c;";
        CHECK.due("P16 as it is now", Check.of(doubt).ring(0, 2), 5);
        CHECK.due("P15 it would go elsewhere", Check.of(doubt).ahead(3, 0, 0), 1);
        // SINCE and the YEAR stay as they are now, all the way.
        String give = "grower a 9 0 0 0;grower b 8 0 0 0;grower c 1 0 9 0;sees a b;sees b c;ribbon a;";
        RibbonRun y = Check.of(give + "law give since = 2;");
        CHECK.due("P16 keeps", y.ring(0, 2), 1);
        CHECK.due("P16 keeps at once", y.ring(0, 1), 0);
        y.go(2);
        CHECK.due("P16 since stays 2", y.ring(0, 2), 4);
        CHECK.due("P16 two steps", y.ring(0, 1), 2);
        Check.read(y, give + "law give year = 0;");
        CHECK.due("P16 the year stays", y.ring(0, 2), 4);
        y.go(1);
        CHECK.due("P16 the year is 1", y.ring(0, 2), 2);
        CHECK.due("P16 one keeps it alone", Check.of("grower a 1 0 0 0;ribbon a;").ring(0, 2), 1);
    }

    private static void frees() {
        RibbonRun x = Check.of(TAIL);
        CHECK.due("P17 one", x.free(0, 0), 1);
        CHECK.due("P17 the first by numbers", x.free(0, 1), 1);
        CHECK.due("P17 no second", x.free(0, 2), -2);
        CHECK.due("P17 nothing is hidden", x.count(1), 4);
        x.show(1, 2, false);
        CHECK.due("P17 no ring", x.free(0, 0), 0);
        CHECK.due("P17 no first", x.free(0, 1), -2);
        CHECK.due("P17 no second", x.free(0, 2), -2);
        for (int no : NO_RIBBONS) {
            CHECK.due("P17 no ribbon " + no, x.free(no, 0), -1);
        }
        for (int no : new int[] {-1, 3, LOW, HIGH}) {
            CHECK.due("P17 no what " + no, x.free(0, no), -1);
        }
        // Each of a and b has two ways, so both of b's or both of a's must go; b, a, c see one another.
        String three = "grower a 9 0 0 0;grower b 8 0 0 0;grower c 7 0 0 0;sees a b;sees a c;sees b a;sees b c;sees c a;"
            + "sees c b;ribbon a;";
        RibbonRun y = Check.of(three);
        CHECK.due("P17 two", y.free(0, 0), 2);
        CHECK.due("P17 a b", y.free(0, 1), 1);
        CHECK.due("P17 a c", y.free(0, 2), 2);
        // Four that all see all: each has three ways.
        StringBuilder four = new StringBuilder();
        for (char c = 'a'; c <= 'd'; c++) {
            four.append("grower ").append(c).append(" 5 0 0 0;");
        }
        for (char c = 'a'; c <= 'd'; c++) {
            for (char d = 'a'; d <= 'd'; d++) {
                four.append(c == d ? "" : "sees " + c + " " + d + ";");
            }
        }
        RibbonRun z = Check.of(four + "ribbon c;");
        CHECK.due("P17 by none", z.free(0, 0), -2);
        CHECK.due("P17 by none", z.free(0, 1), -2);
        CHECK.due("P17 by none", z.free(0, 2), -2);
        // b may see c instead of a, and c keeps: hiding b's a is enough, but a's b comes first by numbers.
        RibbonRun w = Check.of("grower a 9 0 0 0;grower b 8 0 0 0;grower c 7 0 0 0;grower d 1 0 0 0;sees a b;sees a d;"
            + "sees b a;sees b c;ribbon b;");
        CHECK.due("P17 the first", w.free(0, 1), 1);
    }

    private static void leads() {
        RibbonRun x = Check.of("grower a 10 0 0 0;grower b 20 0 0 0;grower c 30 0 0 0;grower d 40 0 0 0;sees a b;ribbon a;"
            + "ribbon d;");
        CHECK.due("P18 as it goes", x.lead(0, 1, 1, 0), 0);
        CHECK.due("P18 no first", x.lead(0, 1, 1, 1), -2);
        CHECK.due("P18 one", x.lead(0, 2, 1, 0), 1);
        CHECK.due("P18 a c", x.lead(0, 2, 1, 1), 2);
        CHECK.due("P18 no second", x.lead(0, 2, 1, 2), -2);
        CHECK.due("P18 by none, b is seen", x.lead(0, 0, 1, 0), -2);
        CHECK.due("P18 by none", x.lead(0, 0, 1, 1), -2);
        CHECK.due("P18 back to a: b a", x.lead(0, 0, 2, 1), 10);
        CHECK.due("P18 to c in three: a c, for c keeps it", x.lead(0, 2, 3, 1), 2);
        // In two years to b: b keeps it as it goes.
        CHECK.due("P18 twenty", x.lead(0, 1, 20, 0), 0);
        // With a again in three years: a b is, then b c and c a; b d and d a would come later.
        CHECK.due("P18 two", x.lead(0, 0, 3, 0), 2);
        CHECK.due("P18 the first", x.lead(0, 0, 3, 1), 12);
        CHECK.due("P18 the second", x.lead(0, 0, 3, 2), 20);
        // The other ribbon is d's: to a, back to d, who is more than b, and to a.
        CHECK.due("P18 the other ribbon", x.lead(1, 0, 3, 1), 3);
        CHECK.due("P18 the other ribbon", x.lead(1, 0, 3, 2), 30);
        CHECK.due("P18 nothing is shown", x.count(1), 1);
        for (int no : NO_RIBBONS) {
            CHECK.due("P18 no ribbon " + no, x.lead(no, 0, 1, 0), -1);
        }
        for (int no : new int[] {-1, 4, LOW, HIGH}) {
            CHECK.due("P18 no grower " + no, x.lead(0, no, 1, 0), -1);
        }
        for (int no : new int[] {-1, 0, 21, LOW, HIGH}) {
            CHECK.due("P18 no years " + no, x.lead(0, 0, no, 0), -1);
        }
        for (int no : new int[] {-1, 3, LOW, HIGH}) {
            CHECK.due("P18 no what " + no, x.lead(0, 0, 1, no), -1);
        }
    }

    private static void walks() {
        RibbonRun x = Check.of("grower a 1 0 0 50;grower b 1 0 0 90;grower c 1 0 0 40;grower d 1 0 0 20;ribbon a;ribbon d;");
        int[] due = {2, 3, 1, -2, -2, 100};
        for (int what = 0; what <= 5; what++) {
            CHECK.due("P19 walk " + what, x.walk(0, what), due[what]);
        }
        int[] dueOther = {2, 0, 1, -2, -2, 70};
        for (int what = 0; what <= 5; what++) {
            CHECK.due("P19 walk of the other " + what, x.walk(1, what), dueOther[what]);
        }
        for (int no : NO_RIBBONS) {
            CHECK.due("P19 no ribbon " + no, x.walk(no, 0), -1);
        }
        for (int no : new int[] {-1, 6, LOW, HIGH}) {
            CHECK.due("P19 no what " + no, x.walk(0, no), -1);
        }
        RibbonRun y = Check.of("grower a 1 0 0 5;grower b 1 0 0 9;grower c 1 0 0 1;grower d 1 0 0 5;grower e 1 0 0 9;"
            + "grower f 1 0 0 1;ribbon d;");
        int[] six = {0, 1, 4, 2, 5, 12};
        for (int what = 0; what <= 5; what++) {
            CHECK.due("P19 the first by growers " + what, y.walk(0, what), six[what]);
        }
        RibbonRun z = Check.of("grower a 1 0 0 5;ribbon a;");
        CHECK.due("P19 alone", z.walk(0, 0), -2);
        CHECK.due("P19 alone", z.walk(0, 5), 0);
    }

    private static void meets() {
        RibbonRun x = Check.of(TAIL);
        // Ribbon 0 is a step behind ribbon 1 for ever.
        CHECK.due("P20 not by then", x.meet(), -2);
        x.show(2, 1, false);
        CHECK.due("P20 at c", x.meet(), 3);
        x.hand(0, 0);
        CHECK.due("P20 now", x.meet(), 0);
        CHECK.due("P20 one ribbon", Check.of("grower a 1 0 0 5;ribbon a;").meet(), -1);
        CHECK.due("P20 no ribbon", new RibbonRun().meet(), -1);
        String late = "grower a 1 0 0 5;grower b 1 0 0 5;sees a b;ribbon a;ribbon b;law give year >= ";
        CHECK.due("P20 in 99 years", Check.of(late + "98;").meet(), 99);
        CHECK.due("P20 in 100 years", Check.of(late + "99;").meet(), -2);
    }

    private static void reaches() {
        RibbonRun x = Check.of(TAIL);
        int[] due = {7, 6, 6, 15};
        for (int g = 0; g < 4; g++) {
            CHECK.due("P21 reach " + g, x.reach(g), due[g]);
        }
        for (int no : new int[] {-1, 4, LOW, HIGH}) {
            CHECK.due("P21 no such " + no, x.reach(no), -1);
        }
        RibbonRun y = Check.of("grower a 1 0 0 5;grower b 1 0 0 5;grower c 1 0 0 5;grower d 1 0 0 5;grower e 1 0 0 5;"
            + "grower f 1 0 0 5;sees f e;sees e d;sees d c;sees c b;sees b a;");
        CHECK.due("P21 down all", y.reach(5), 63);
        CHECK.due("P21 only itself", y.reach(0), 1);
    }

    private static void game(int worthA, int doubtA, int worthB, int doubtB, int... rests) {
        RibbonRun x = Check.of("grower a " + worthA + " 0 " + doubtA + " 0;grower b " + worthB + " 0 " + doubtB + " 0;");
        String told = "game " + worthA + " " + doubtA + " " + worthB + " " + doubtB;
        CHECK.due("P24 " + told, x.rests(0, 1), rests.length);
        for (int k = 0; k < rests.length; k++) {
            CHECK.due("P25 " + told + " " + k, x.rest(0, 1, k), rests[k]);
        }
        CHECK.due("P25 not so many " + told, x.rest(0, 1, rests.length), -2);
        CHECK.due("P25 not so many " + told, x.rest(0, 1, HIGH), -2);
    }

    private static void games() {
        game(10, 0, 30, 0, 0);
        // Both are better off by handing: 40/2 = 20 is more than 40 - 45; keeping both is a REST, too.
        game(40, 9, 40, 9, 0, 11);
        // As much isn't more: 40/2 and 40 - 20.
        game(40, 4, 40, 4, 0, 11);
        // One more than that is: 40 - 15.
        game(40, 3, 40, 4, 0);
        // 3/4 is cut to 0: handing isn't worse. a keeps alone: 3 and 0; b has 0 by keeping as well.
        game(3, 0, 3, 0, 0, 1, 10);
        game(0, 0, 0, 0, 0, 1, 10, 11);
        // a would have 4 - 45, 0 by handing alone; b has 1 by keeping.
        game(4, 0, 4, 9, 0);
        // b keeps alone: 40 - 45 is less than what b has by handing, 3 / 2.
        game(3, 9, 40, 9, 0, 11);
        // b keeps alone: 40; a has 0 either way.
        game(3, 0, 40, 9, 0, 10);
        game(40, 9, 3, 0, 0, 1);
        RibbonRun x = Check.of("grower a 3 0 0 0;grower b 40 0 9 0;grower c 1 0 0 0;");
        CHECK.due("P25 by the first one's: (0,0)", x.rest(0, 1, 0), 0);
        CHECK.due("P24 alike", x.rests(1, 1), -1);
        CHECK.due("P25 alike", x.rest(1, 1, 0), -1);
        CHECK.due("P25 below 0", x.rest(0, 1, -1), -1);
        CHECK.due("P25 below 0", x.rest(0, 1, LOW), -1);
        for (int no : new int[] {-1, 3, LOW, HIGH}) {
            CHECK.due("P24 no such " + no, x.rests(no, 1), -1);
            CHECK.due("P24 no such " + no, x.rests(1, no), -1);
            CHECK.due("P25 no such " + no, x.rest(no, 1, 0), -1);
            CHECK.due("P25 no such " + no, x.rest(1, no, 0), -1);
        }
    }

    private static void visits() {
        RibbonRun x = Check.of("grower a 50 0 0 40;grower b 10 0 0 30;grower c 20 0 0 45;grower d 20 0 0 60;"
            + "grower e 0 0 0 40;");
        int[][] due = {{4, 0, 0}, {5, 4, 20}, {10, 4, 20}, {14, 4, 20}, {19, 4, 20}, {20, 12, 40}, {39, 12, 40},
            {40, 14, 50}, {999, 14, 50}, {0, 0, 0}};
        for (int[] one : due) {
            CHECK.due("P26 bits by " + one[0], x.visit(0, one[0], 0), one[1]);
            CHECK.due("P26 worth by " + one[0], x.visit(0, one[0], 1), one[2]);
        }
        CHECK.due("P26 b and c, the nearer end first: 5 + 15 = 20 is for c and d", x.visit(0, 20, 0), 12);
        RibbonRun y = Check.of("grower a 5 0 0 10;grower b 7 0 0 5;grower c 7 0 0 15;grower d 7 0 0 10;");
        CHECK.due("P26 the least bits of several", y.visit(3, 5, 0), 3);
        CHECK.due("P26 worth", y.visit(3, 5, 1), 12);
        CHECK.due("P26 there and back over the place", y.visit(3, 15, 0), 7);
        CHECK.due("P26 one short of it", y.visit(3, 14, 0), 3);
        for (int no : new int[] {-1, 4, LOW, HIGH}) {
            CHECK.due("P26 no such " + no, y.visit(no, 5, 0), -1);
        }
        for (int no : new int[] {-1, 1000, LOW, HIGH}) {
            CHECK.due("P26 no way " + no, y.visit(0, no, 0), -1);
        }
        for (int no : new int[] {-1, 2, LOW, HIGH}) {
            CHECK.due("P26 no what " + no, y.visit(0, 5, no), -1);
        }
    }

    private static void hosts() {
        RibbonRun x = Check.of(TAIL);
        CHECK.due("P27 now", x.hosts(0, 0), 8);
        CHECK.due("P27 one year", x.hosts(0, 1), 9);
        CHECK.due("P27 all", x.hosts(0, 3), 15);
        CHECK.due("P27 all", x.hosts(0, 99), 15);
        CHECK.due("P27 the other one", x.hosts(1, 99), 7);
        for (int no : NO_RIBBONS) {
            CHECK.due("P27 no ribbon " + no, x.hosts(no, 0), -1);
        }
        for (int no : new int[] {-1, 100, LOW, HIGH}) {
            CHECK.due("P27 no years " + no, x.hosts(0, no), -1);
        }
    }

    private static void keepers() {
        RibbonRun x = Check.of(TAIL + "law give since > 0 or worth < 30;");
        CHECK.due("P29 c and d", x.keepers(), 12);
        x.go(1);
        CHECK.due("P29 since is 0", x.keepers(), 12);
        x.show(0, 1, false);
        CHECK.due("P29 who sees nobody", x.keepers(), 13);
        CHECK.due("P29 all", Check.of("grower a 1 0 0 0;grower b 1 0 0 0;").keepers(), 3);
    }

    private static void comes() {
        RibbonRun x = Check.of(TAIL);
        int[] due = {1, 2, 3, 0};
        for (int g = 0; g < 4; g++) {
            CHECK.due("P30 comes to " + g, x.comesTo(0, g), due[g]);
        }
        CHECK.due("P30 not by then", x.comesTo(1, 3), -2);
        for (int no : NO_RIBBONS) {
            CHECK.due("P30 no ribbon " + no, x.comesTo(no, 0), -1);
        }
        for (int no : new int[] {-1, 4, LOW, HIGH}) {
            CHECK.due("P30 no grower " + no, x.comesTo(0, no), -1);
        }
        String late = "grower a 1 0 0 5;grower b 1 0 0 5;sees a b;ribbon a;law give year >= ";
        CHECK.due("P30 in 99 years", Check.of(late + "98;").comesTo(0, 1), 99);
        CHECK.due("P30 in 100 years", Check.of(late + "99;").comesTo(0, 1), -2);
    }

    /** a sees b and c, alike but for who comes first; whether b is blighted alone decides. */
    private static void chances() {
        String odds = "grower a 0 0 0 0;grower b 20 0 0 0;grower c 20 0 0 0;sees a b;sees a c;ribbon a;seed 3;blight ";
        RibbonRun x = Check.of(odds + "50;");
        long n = 77;
        int due = 0;
        for (int i = 0; i < 10; i++) {
            int[] drawn = new int[3];
            for (int g = 0; g < 3; g++) {
                n = (n * 1103515245L + 12345) & 0x7fffffffL;
                drawn[g] = (int) (n / 65536 % 100);
            }
            due += drawn[1] < 50 && drawn[2] >= 50 ? 1 : 0;
        }
        CHECK.due("P39 b is blighted and c isn't", x.chance(77, 1, 0, 2), due);
        CHECK.due("P39 otherwise", x.chance(77, 1, 0, 1), 10 - due);
        CHECK.due("P39 not with a", x.chance(77, 1, 0, 0), 0);
        CHECK.due("P39 the greatest seed", x.chance(HIGH, 99, 0, 1) + x.chance(HIGH, 99, 0, 2), 10);
        CHECK.due("P39 seed 0", x.chance(0, 1, 0, 1) + x.chance(0, 1, 0, 2), 10);
        RibbonRun y = Check.of(odds + "50;");
        y.go(3);
        x.go(3);
        CHECK.due("P39 draws nothing of its own", x.grower(1, 0) * 100 + x.grower(2, 0),
            y.grower(1, 0) * 100 + y.grower(2, 0));
        Check.read(x, odds + "0;");
        CHECK.due("P39 no blight", x.chance(5, 1, 0, 1), 10);
        Check.read(x, odds + "100;");
        CHECK.due("P39 all blight", x.chance(5, 1, 0, 1), 10);
        for (int no : new int[] {-1, LOW}) {
            CHECK.due("P39 no seed " + no, x.chance(no, 1, 0, 0), -1);
        }
        for (int no : new int[] {-1, 0, 100, LOW, HIGH}) {
            CHECK.due("P39 no years " + no, x.chance(1, no, 0, 0), -1);
        }
        for (int no : new int[] {-1, 1, 2, LOW, HIGH}) {
            CHECK.due("P39 no ribbon " + no, x.chance(1, 1, no, 0), -1);
        }
        for (int no : new int[] {-1, 3, LOW, HIGH}) {
            CHECK.due("P39 no grower " + no, x.chance(1, 1, 0, no), -1);
        }
    }

    private static void tries() {
        // With blight for all b and c are both 0 in five years, and b is the first of several.
        RibbonRun x = Check.of("grower a 20 0 0 0;grower b 15 0 0 0;grower c 25 0 0 0;sees a b;sees a c;ribbon a;"
            + "law give year >= 5;blight 100;");
        CHECK.due("P40 with blight", x.ahead(6, 0, 0), 1);
        CHECK.due("P40 no blight", x.tried(0, 0, 6), 2);
        CHECK.due("P40 nobody sees c", x.tried(2, 2, 1), 0);
        CHECK.due("P40 no years", x.tried(0, 0, 0), 0);
        // a doubts: c had it often.
        RibbonRun y = Check.of("grower a 20 0 5 0;grower b 15 0 0 0;grower c 18 0 0 0;sees a b;sees a c;ribbon a;ribbon c;");
        CHECK.due("P40 a doubts", y.ahead(1, 0, 0), 1);
        CHECK.due("P40 nobody doubts", y.tried(1, 0, 1), 2);
        CHECK.due("P40 b isn't seen", y.tried(2, 1, 1), 2);
        CHECK.due("P40 of all but 2 i is 0", y.tried(1, 1, 1), -1);
        CHECK.due("P40 a isn't seen", y.tried(2, 0, 1), 1);
        // c sees nobody; if all see all, it comes from c to a.
        RibbonRun z = Check.of("grower a 20 0 0 0;grower b 15 9 0 0;grower c 18 0 0 0;sees c b;ribbon c;law give 1;");
        CHECK.due("P40 as it goes", z.ahead(1, 0, 0), 1);
        CHECK.due("P40 all see all", z.tried(3, 0, 1), 1);
        CHECK.due("P40 nothing grows, all see as they do", z.tried(4, 0, 1), 1);
        z.show(2, 0, true);
        CHECK.due("P40 b grows: 24 is more than 20", z.ahead(1, 0, 0), 1);
        CHECK.due("P40 nothing grows: 20 is more than 15", z.tried(4, 0, 1), 0);
        RibbonRun w = Check.of("grower a 20 0 0 0;grower b 15 0 0 0;grower c 18 0 0 0;sees c b;ribbon c;law grow 9 * (own < 16);");
        CHECK.due("P40 all see all: b has 24", w.tried(3, 0, 1), 1);
        w.show(2, 0, true);
        CHECK.due("P40 nothing grows by law, too", w.tried(4, 0, 1), 0);
        CHECK.due("P40 nothing has changed", w.count(1), 2);
        for (int no : new int[] {-1, 5, LOW, HIGH}) {
            CHECK.due("P40 no what " + no, w.tried(no, 0, 1), -1);
        }
        for (int no : new int[] {-1, 100, LOW, HIGH}) {
            CHECK.due("P40 no years " + no, w.tried(0, 0, no), -1);
        }
        for (int no : new int[] {-1, 3, LOW, HIGH}) {
            CHECK.due("P40 no grower " + no, w.tried(2, no, 1), -1);
        }
        for (int what : new int[] {0, 1, 3, 4}) {
            CHECK.due("P40 i isn't 0", w.tried(what, 1, 1), -1);
        }
        CHECK.due("P40 99 years", w.tried(2, 2, 99), 1);
        CHECK.due("P40 no ribbon", Check.of("grower a 1 0 0 0;").tried(0, 0, 1), -1);
    }
}
