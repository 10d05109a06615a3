import java.nio.charset.StandardCharsets;
import java.util.NoSuchElementException;
import java.util.Random;

/** Random runs of calls, the same on RibbonRun and on the model; all numbers come from a fixed seed. */
final class ModelTest {
    private static final int RUNS = 700;
    private static final int CALLS = 150;
    /** What an object answers later is free. */
    private static final int MOST_CALLS = 512;

    private final Random random;
    private RibbonRun x;
    private Model m;
    private final StringBuilder log = new StringBuilder();
    private int growers;
    private int noticed;
    private int asked;

    private ModelTest(long seed) {
        random = new Random(seed);
    }

    public static void main(String[] args) {
        int runs = args.length > 0 ? Integer.parseInt(args[0]) : RUNS;
        int wrong = 0;
        for (int run = 0; run < runs && wrong < 3; run++) {
            wrong += new ModelTest(args.length > 1 ? run + Long.parseLong(args[1]) : run).run() ? 0 : 1;
        }
        System.out.println("ModelTest: " + runs + " runs, " + wrong + " with an answer that is not the model's");
        if (wrong != 0) {
            System.exit(1);
        }
    }

    private boolean run() {
        x = new RibbonRun();
        m = new Model();
        boolean same = readText();
        for (int i = 0; i < CALLS && same; i++) {
            same = random.nextInt(60) == 0 ? readText() : call();
        }
        if (!same) {
            System.out.println(log);
        }
        return same;
    }

    private int below(int n) {
        return random.nextInt(n);
    }

    /** Mostly from 0 up to n - 1, now and then just beyond. */
    private int near(int n) {
        int odd = below(25);
        return odd == 0 ? -1 : odd == 1 ? n : odd == 2 ? random.nextInt() : n > 0 ? below(n) : 0;
    }

    // ---- texts

    private String name(int i) {
        return "abcdefgh".substring(i, i + 1).repeat(1 + i % 6);
    }

    private String expression(int depth) {
        String[] names = {"worth", "own", "doubt", "far", "had", "since", "year"};
        if (depth == 0 || below(6) == 0) {
            return below(3) == 0 ? "" + below(below(4) == 0 ? 10000 : 30) : names[below(7)];
        }
        String[] signs = {"+", "-", "*", "/", "+", "-", "*", "<", "<=", "=", "<>", ">=", ">", "and", "or"};
        String sign = signs[below(signs.length)];
        String a = expression(depth - 1);
        String b = expression(depth - 1);
        int way = below(8);
        if (way == 0) {
            return "not " + a;
        }
        String gap = Character.isLetter(sign.charAt(0)) || below(2) == 0 ? " " : "";
        String both = a + gap + sign + gap + b;
        return way < 5 ? "(" + both + ")" : both;
    }

    private String text() {
        StringBuilder t = new StringBuilder();
        growers = below(12) == 0 ? below(7) : 2 + below(5);
        int topWorth = below(3) == 0 ? 12 : 100;
        for (int i = 0; i < growers; i++) {
            t.append("grower ").append(name(i)).append(' ').append(below(topWorth)).append(below(3) == 0 ? " -" : " ")
                .append(below(10)).append(' ').append(below(10)).append(' ').append(below(below(2) == 0 ? 100 : 9))
                .append(';').append(below(4) == 0 ? "\n" : "");
        }
        int odds = 1 + below(5);
        for (int i = 0; i < growers; i++) {
            for (int j = 0; j < growers; j++) {
                if (i != j && below(6) < odds) {
                    t.append("sees ").append(name(i)).append(' ').append(name(j)).append(';');
                }
            }
        }
        for (int i = 0; i < (growers == 0 ? 0 : below(8) == 0 ? below(3) : 1 + below(2)); i++) {
            t.append("ribbon ").append(name(below(growers))).append(';');
        }
        if (below(3) > 0) {
            int[] odd = {0, 1, 20, 49, 50, 51, 99, 100};
            t.append("blight ").append(odd[below(8)]).append(';');
        }
        if (below(2) == 0) {
            t.append("seed ").append(below(100000)).append(';');
        }
        String[] laws = {"judge", "grow", "give"};
        for (String law : laws) {
            if (below(2) == 0) {
                t.append("law ").append(law).append(' ').append(expression(1 + below(4))).append(';');
            }
        }
        return t.toString();
    }

    /** Takes, doubles, puts or changes a bit of the text. */
    private String spoiled(String text) {
        String[] bits = {"(", ")", ";", "-", "<", ">", "=", "not ", " and ", "A", "toolong", "7", "0000", " a ", "!",
            "law ", "grower ", "ribbon ", "sees ", "blight 5;", "seed 3;", "\n", " ", "\t", "\u00ff", "worth", "((((((((("};
        int at = below(text.length() + 1);
        int to = Math.min(text.length(), at + 1 + below(8));
        int way = below(5);
        if (way == 0) {
            return text.substring(0, at) + text.substring(to);
        }
        if (way == 1) {
            return text.substring(0, at) + text.substring(at, to) + text.substring(at);
        }
        if (way == 2) {
            return text.substring(0, at);
        }
        return text.substring(0, at) + bits[below(bits.length)] + text.substring(way == 3 ? at : to);
    }

    private boolean readText() {
        String text = text();
        boolean isSpoiled = below(3) == 0;
        for (int i = 0; i < 6 && isSpoiled; i++) {
            if (!feedAndRead(spoiled(text))) {
                return false;
            }
        }
        return feedAndRead(text);
    }

    private boolean feedAndRead(String text) {
        byte[] bytes = text.getBytes(StandardCharsets.ISO_8859_1);
        for (int i = 0; i < bytes.length; i += 20) {
            int[] n = new int[5];
            for (int j = 0; j < 5; j++) {
                n[j] = Check.four(bytes, i + 4 * j);
            }
            if (!same("feed", x.feed(n[0], n[1], n[2], n[3], n[4]), m.feed(n[0], n[1], n[2], n[3], n[4]))) {
                return false;
            }
        }
        int n = bytes.length > 700 ? 700 : bytes.length;
        log.append("text ").append(text).append('\n');
        return same("text(" + n + ")", x.text(n), m.text(n)) && same("fault(0)", x.fault(0), m.fault(0))
            && same("fault(1)", x.fault(1), m.fault(1)) && same("count(3)", x.count(3), m.count(3));
    }

    // ---- calls

    private boolean same(String call, long got, long want) {
        asked++;
        if (asked > MOST_CALLS) {
            return true;
        }
        log.append(call).append(" = ").append(got).append('\n');
        if (got != want) {
            log.append("  but the model: ").append(want).append('\n');
        }
        return got == want;
    }

    private boolean call() {
        int which = below(6);
        if (which == 0) {
            return change();
        }
        if (which == 1) {
            return tell();
        }
        return which < 4 ? askNow() : askAhead();
    }

    private boolean change() {
        int a = near(growers);
        int b = near(growers);
        switch (below(10)) {
            case 0: case 1: {
                boolean is = below(2) == 0;
                return same("show " + a + " " + b + " " + is, x.show(a, b, is) ? 1 : 0, m.show(a, b, is) ? 1 : 0);
            }
            case 2: case 3: {
                int by = below(20) == 0 ? 100 * (below(3) - 1) : below(199) - 99;
                return same("raise " + a + " " + by, x.raise(a, by), m.raise(a, by));
            }
            case 4: case 5: {
                int r = near(2);
                return same("hand " + r + " " + b, x.hand(r, b) ? 1 : 0, m.hand(r, b) ? 1 : 0);
            }
            case 6: {
                int n = below(4) == 0 ? near(100) : below(4);
                return same("go " + n, x.go(n), m.go(n));
            }
            case 7: case 8:
                return same("undo", x.undo(), m.undo());
            default:
                return below(2) == 0 ? same("keep", x.keep(), m.keep()) : same("back", x.back(), m.back());
        }
    }

    private boolean tell() {
        int a = near(growers);
        int b = near(growers);
        int r = near(2);
        int n = 1 + near(noticed < 30 && below(3) > 0 ? 6 : 60);
        noticed++;
        boolean is = below(2) == 0;
        switch (below(8)) {
            case 0: case 1:
                return same("note " + a + " " + b, x.note(a, b), m.note(a, b));
            case 2: case 3:
                return same("see " + n + " " + r + " " + a + " " + is, x.see(n, r, a, is), m.see(n, r, a, is));
            case 4: {
                int k = near(m.count(7));
                return same("strike " + k, x.strike(k), m.strike(k));
            }
            case 5: {
                int k = below(2) == 0 ? -1 : near(m.count(7) + 1);
                return same("known " + k, x.known(k) ? 1 : 0, m.known(k) ? 1 : 0);
            }
            case 6:
                return same("doubts " + a, x.doubts(a), m.doubts(a));
            default: {
                int k = near(7);
                return same("order " + k, x.order(k), m.order(k));
            }
        }
    }

    private static int growerOr(java.util.function.IntSupplier call) {
        try {
            return call.getAsInt();
        } catch (IndexOutOfBoundsException e) {
            return -1001;
        } catch (NoSuchElementException e) {
            return -1002;
        }
    }

    private boolean askNow() {
        int a = near(growers);
        int b = near(growers);
        int r = near(2);
        int k = near(3);
        int w = near(10);
        String two = a + " " + b;
        switch (below(17)) {
            case 0:
                return same("grower " + a + " " + w, growerOr(() -> x.grower(a, w)), growerOr(() -> m.grower(a, w)));
            case 1:
                return same("ribbon " + r + " " + k, x.ribbon(r, k), m.ribbon(r, k));
            case 2:
                return same("judged " + two, x.judged(a, b), m.judged(a, b));
            case 3:
                return same("best " + a, x.best(a), m.best(a));
            case 4:
                return same("law " + k + " " + two, x.law(k, a, b), m.law(k, a, b));
            case 5:
                return same("count " + w, x.count(w), m.count(w));
            case 6:
                return same("reach " + a, x.reach(a), m.reach(a));
            case 7:
                return same("deserves", x.deserves(), m.deserves());
            case 8:
                return same("rests " + two, x.rests(a, b), m.rests(a, b));
            case 9:
                return same("rest " + two + " " + k, x.rest(a, b, k), m.rest(a, b, k));
            case 10: {
                int way = near(below(2) == 0 ? 30 : 200);
                int what = near(2);
                return same("visit " + a + " " + way + " " + what, x.visit(a, way, what), m.visit(a, way, what));
            }
            case 11:
                return same("rank " + a, x.rank(a), m.rank(a));
            case 12:
                return same("keepers", x.keepers(), m.keepers());
            case 13:
                return same("popular", x.popular(), m.popular());
            case 14:
                return same("mutual", x.mutual(), m.mutual());
            case 15:
                return same("lonely", x.lonely(), m.lonely());
            default: {
                int letters = below(5) == 0 ? random.nextInt() : Check.letters(name(below(7)));
                return same("named " + letters, x.named(letters), m.named(letters));
            }
        }
    }

    private boolean askAhead() {
        int a = near(growers);
        int r = near(2);
        int k = near(3);
        int n = below(3) == 0 ? near(100) : near(9);
        switch (below(10)) {
            case 0: {
                int what = near(4);
                int i = what < 2 ? r : a;
                return same("ahead " + n + " " + what + " " + i, x.ahead(n, what, i), m.ahead(n, what, i));
            }
            case 1:
                return same("ring " + r + " " + k, x.ring(r, k), m.ring(r, k));
            case 2:
                return same("free " + r + " " + k, x.free(r, k), m.free(r, k));
            case 3: {
                int years = below(10) == 0 ? near(21) : 1 + below(6);
                return same("lead " + r + " " + a + " " + years + " " + k, x.lead(r, a, years, k), m.lead(r, a, years, k));
            }
            case 4: {
                int what = near(6);
                return same("walk " + r + " " + what, x.walk(r, what), m.walk(r, what));
            }
            case 5:
                return same("meet", x.meet(), m.meet());
            case 6:
                return same("hosts " + r + " " + n, x.hosts(r, n), m.hosts(r, n));
            case 7:
                return same("comesTo " + r + " " + a, x.comesTo(r, a), m.comesTo(r, a));
            case 8: {
                int seed = below(4) == 0 ? random.nextInt() : below(100000);
                return same("chance " + seed + " " + n + " " + r + " " + a, x.chance(seed, n, r, a), m.chance(seed, n, r, a));
            }
            default: {
                int what = near(5);
                int i = what == 2 || below(9) == 0 ? a : 0;
                return same("tried " + what + " " + i + " " + n, x.tried(what, i, n), m.tried(what, i, n));
            }
        }
    }
}
