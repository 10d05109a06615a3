import java.util.ArrayList;
import java.util.Arrays;
import java.util.HashMap;
import java.util.List;
import java.util.Map;
import java.util.NoSuchElementException;
import java.util.function.Consumer;
import java.util.function.Predicate;

/**
 * The document told a second time, plainly and without care for cost: trees, copies, recursion, all ways tried.
 * It shares no code and no idea of how to hold things with RibbonRun.
 */
final class Model {
    /** A FAULT on its way out of the reading. */
    private static final class Fault extends RuntimeException {
        private static final long serialVersionUID = 1L;
        final int what;
        final int place;

        Fault(int what, int place) {
            this.what = what;
            this.place = place;
        }
    }

    private static final class WorkedOut extends RuntimeException {
        private static final long serialVersionUID = 1L;
    }

    private interface Node {
        long value(Map<String, Long> names);
    }

    private static final class Grower {
        String name;
        int grows;
        int doubt;
        int place;
    }

    private static final class Text {
        final List<Grower> growers = new ArrayList<>();
        final Map<String, Node> laws = new HashMap<>();
        int ribbons;
        int knots;
        int blight = -1;
        int seed = -1;
        int lines;
        State first = new State();

        int blight() {
            return Math.max(blight, 0);
        }
    }

    private static final class State {
        List<Integer> worth = new ArrayList<>();
        List<Integer> had = new ArrayList<>();
        List<List<Integer>> sees = new ArrayList<>();
        List<Integer> holder = new ArrayList<>();
        List<Integer> since = new ArrayList<>();
        List<Integer> handed = new ArrayList<>();
        int year;
        long number;

        State copy() {
            State c = new State();
            c.worth.addAll(worth);
            c.had.addAll(had);
            for (List<Integer> row : sees) {
                c.sees.add(new ArrayList<>(row));
            }
            c.holder.addAll(holder);
            c.since.addAll(since);
            c.handed.addAll(handed);
            c.year = year;
            c.number = number;
            return c;
        }
    }

    /** How years go when they are tried: as it goes, by numbers, or otherwise. */
    private final class World {
        State s;
        final List<Integer> doubt = new ArrayList<>();
        boolean numbers;
        boolean noBlight;
        boolean noGrowing;

        World(State from) {
            s = from.copy();
            for (Grower g : text.growers) {
                doubt.add(g.doubt);
            }
        }

        Long law(String which, int one, int other, int since) {
            Node law = text.laws.get(which);
            if (law == null) {
                return null;
            }
            Map<String, Long> names = new HashMap<>();
            names.put("worth", (long) s.worth.get(other));
            names.put("own", (long) s.worth.get(one));
            names.put("doubt", (long) doubt.get(one));
            names.put("far", (long) Math.abs(text.growers.get(one).place - text.growers.get(other).place));
            names.put("had", (long) s.had.get(other));
            names.put("since", (long) since);
            names.put("year", (long) s.year);
            try {
                return law.value(names);
            } catch (WorkedOut e) {
                return null;
            }
        }

        int judged(int one, int other) {
            Long e = law("judge", one, other, 0);
            if (e == null) {
                return Math.max(0, s.worth.get(other) - doubt.get(one) * s.had.get(other));
            }
            return (int) Math.max(0L, Math.min(9999L, e));
        }

        int best(int one) {
            int best = -2;
            for (int other = 0; other < text.growers.size(); other++) {
                if (s.sees.get(one).contains(other) && (best < 0 || judged(one, other) > judged(one, best))) {
                    best = other;
                }
            }
            return best;
        }

        boolean wouldHand(int one, int since) {
            Long e = law("give", one, one, since);
            return best(one) >= 0 && (e == null || e != 0);
        }

        void year() {
            for (int i = 0; i < text.growers.size() && !noGrowing; i++) {
                Long e = law("grow", i, i, 0);
                long by = e == null ? text.growers.get(i).grows : Math.max(-9, Math.min(9, e));
                s.worth.set(i, (int) Math.max(0, Math.min(999, s.worth.get(i) + by)));
            }
            int odds = noBlight ? 0 : numbers ? text.blight() : text.blight() >= 50 ? 100 : 0;
            for (int i = 0; i < text.growers.size(); i++) {
                int drawn = 0;
                if (odds != 0 && odds != 100) {
                    s.number = (s.number * 1103515245L + 12345L) % (1L << 31);
                    drawn = (int) (s.number / 65536 % 100);
                }
                if (drawn < odds) {
                    s.worth.set(i, Math.max(0, s.worth.get(i) - 5));
                }
            }
            for (int r = 0; r < s.holder.size(); r++) {
                int who = s.holder.get(r);
                if (wouldHand(who, s.since.get(r))) {
                    pass(s, r, best(who));
                } else {
                    s.since.set(r, Math.min(999, s.since.get(r) + 1));
                }
            }
            s.year++;
        }

        World years(int n) {
            for (int i = 0; i < n; i++) {
                year();
            }
            return this;
        }

        /** The way of a ribbon with all as it is now, up to one that keeps it or to one that comes again. */
        List<Integer> path(int ribbon) {
            List<Integer> path = new ArrayList<>();
            int at = s.holder.get(ribbon);
            while (!path.contains(at)) {
                path.add(at);
                if (!wouldHand(at, s.since.get(ribbon))) {
                    return path;
                }
                at = best(at);
            }
            path.add(at);
            return path;
        }

        boolean isRound(int ribbon) {
            List<Integer> path = path(ribbon);
            int last = path.size() - 1;
            return path.indexOf(path.get(last)) != last;
        }
    }

    private static void pass(State s, int ribbon, int to) {
        s.holder.set(ribbon, to);
        s.since.set(ribbon, 0);
        s.handed.set(ribbon, s.handed.get(ribbon) + 1);
        s.had.set(to, Math.min(999, s.had.get(to) + 1));
    }

    private byte[] tape = new byte[0];
    private Text text = new Text();
    private State now = new State();
    private State image;
    private List<State> undo = new ArrayList<>();
    /** Each: kind h, s or x, and its numbers. */
    private List<int[]> told = new ArrayList<>();
    private int knownBy = -1;
    private int fault = 0;
    private int place = -1;

    // ---- reading

    private byte[] source;
    private int at;
    private String token;
    private int tokenAt;
    private Text reading;
    private int opened;

    private static final List<String> LANGUAGE = Arrays.asList("grower", "sees", "ribbon", "blight", "seed", "law",
        "judge", "grow", "give", "or", "and", "not", "worth", "own", "doubt", "far", "had", "since", "year");
    private static final List<String> NAMES = LANGUAGE.subList(12, 19);

    private static boolean isLetter(int c) {
        return c >= 'a' && c <= 'z';
    }

    private static boolean isDigit(int c) {
        return c >= '0' && c <= '9';
    }

    private int peek(int i) {
        return i < source.length ? source[i] & 255 : -1;
    }

    /** Empty at the end; a token that is none is "?". */
    private void next() {
        while (peek(at) == 10 || peek(at) == 32) {
            at++;
        }
        tokenAt = at;
        int c = peek(at);
        if (c < 0) {
            token = "";
            return;
        }
        int from = at;
        at++;
        if (isLetter(c)) {
            while (isLetter(peek(at))) {
                at++;
            }
        } else if (isDigit(c)) {
            while (isDigit(peek(at))) {
                at++;
            }
        } else if ((c == '<' || c == '>') && peek(at) == '=' || c == '<' && peek(at) == '>') {
            at++;
        } else if (";+-*/()<>=".indexOf(c) < 0) {
            token = "?";
            return;
        }
        token = new String(source, from, at - from, java.nio.charset.StandardCharsets.ISO_8859_1);
        if (isLetter(c) && token.length() > 6) {
            token = "?";
        }
    }

    private Fault wrong() {
        return new Fault(1, tokenAt);
    }

    private void take(String due) {
        if (!token.equals(due)) {
            throw wrong();
        }
        next();
    }

    private boolean isNumber() {
        return !token.isEmpty() && isDigit(token.charAt(0));
    }

    private int number(int most) {
        if (!isNumber()) {
            throw wrong();
        }
        java.math.BigInteger n = new java.math.BigInteger(token);
        if (n.compareTo(java.math.BigInteger.valueOf(most)) > 0) {
            throw new Fault(2, tokenAt);
        }
        next();
        return n.intValue();
    }

    private String word() {
        if (token.isEmpty() || !isLetter(token.charAt(0)) || LANGUAGE.contains(token)) {
            throw wrong();
        }
        return token;
    }

    private int indexOf(Text t, String name) {
        for (int i = 0; i < t.growers.size(); i++) {
            if (t.growers.get(i).name.equals(name)) {
                return i;
            }
        }
        return -1;
    }

    private int toldGrower() {
        int i = indexOf(reading, word());
        if (i < 0) {
            throw new Fault(4, tokenAt);
        }
        return i;
    }

    private void line() {
        String kind = token;
        int kindAt = tokenAt;
        if (!LANGUAGE.subList(0, 6).contains(kind)) {
            throw wrong();
        }
        boolean again = kind.equals("blight") && reading.blight >= 0 || kind.equals("seed") && reading.seed >= 0;
        if (kind.equals("grower") && reading.growers.size() == 6 || kind.equals("ribbon") && reading.ribbons == 2) {
            throw new Fault(2, kindAt);
        }
        if (again) {
            throw new Fault(3, kindAt);
        }
        next();
        if (kind.equals("grower")) {
            growerLine();
        } else if (kind.equals("sees")) {
            int one = toldGrower();
            next();
            int other = toldGrower();
            if (reading.first.sees.get(one).contains(other)) {
                throw new Fault(3, tokenAt);
            }
            if (one == other) {
                throw new Fault(5, tokenAt);
            }
            next();
            reading.first.sees.get(one).add(other);
        } else if (kind.equals("ribbon")) {
            int one = toldGrower();
            next();
            reading.ribbons++;
            reading.first.holder.add(one);
            reading.first.since.add(0);
            reading.first.handed.add(0);
            reading.first.had.set(one, reading.first.had.get(one) + 1);
        } else if (kind.equals("blight")) {
            reading.blight = number(100);
        } else if (kind.equals("seed")) {
            reading.seed = number(99999);
            reading.first.number = reading.seed;
        } else {
            lawLine();
        }
    }

    private void growerLine() {
        Grower g = new Grower();
        g.name = word();
        if (indexOf(reading, g.name) >= 0) {
            throw new Fault(3, tokenAt);
        }
        next();
        int worth = number(99);
        int sign = 1;
        if (token.equals("-")) {
            sign = -1;
            next();
        }
        g.grows = sign * number(9);
        g.doubt = number(9);
        g.place = number(99);
        reading.growers.add(g);
        reading.first.worth.add(worth);
        reading.first.had.add(0);
        reading.first.sees.add(new ArrayList<>());
    }

    private void lawLine() {
        String which = token;
        if (!LANGUAGE.subList(6, 9).contains(which)) {
            throw wrong();
        }
        if (reading.laws.containsKey(which)) {
            throw new Fault(3, tokenAt);
        }
        next();
        opened = 0;
        reading.laws.put(which, either());
    }

    private void knot() {
        reading.knots++;
        if (reading.knots > 64) {
            throw new Fault(2, tokenAt);
        }
    }

    private static long checked(java.math.BigInteger v) {
        if (v.abs().compareTo(java.math.BigInteger.TEN.pow(12)) > 0) {
            throw new WorkedOut();
        }
        return v.longValue();
    }

    private static long work(String sign, long a, long b) {
        java.math.BigInteger x = java.math.BigInteger.valueOf(a);
        java.math.BigInteger y = java.math.BigInteger.valueOf(b);
        switch (sign) {
            case "+":
                return checked(x.add(y));
            case "-":
                return checked(x.subtract(y));
            case "*":
                return checked(x.multiply(y));
            case "/":
                if (b == 0) {
                    throw new WorkedOut();
                }
                return checked(x.divide(y));
            case "<":
                return a < b ? 1 : 0;
            case "<=":
                return a <= b ? 1 : 0;
            case "=":
                return a == b ? 1 : 0;
            case "<>":
                return a != b ? 1 : 0;
            case ">=":
                return a >= b ? 1 : 0;
            case ">":
                return a > b ? 1 : 0;
            case "and":
                return a != 0 & b != 0 ? 1 : 0;
            default:
                return a != 0 | b != 0 ? 1 : 0;
        }
    }

    private static Node join(String sign, Node a, Node b) {
        return names -> {
            long x = a.value(names);
            long y = b.value(names);
            return work(sign, x, y);
        };
    }

    private Node either() {
        Node a = both();
        while (token.equals("or")) {
            knot();
            next();
            a = join("or", a, both());
        }
        return a;
    }

    private Node both() {
        Node a = negated();
        while (token.equals("and")) {
            knot();
            next();
            a = join("and", a, negated());
        }
        return a;
    }

    private Node negated() {
        if (!token.equals("not")) {
            return compared();
        }
        knot();
        next();
        Node a = negated();
        return names -> a.value(names) == 0 ? 1 : 0;
    }

    private Node compared() {
        Node a = sum();
        if (!Arrays.asList("<", "<=", "=", "<>", ">=", ">").contains(token)) {
            return a;
        }
        String sign = token;
        knot();
        next();
        return join(sign, a, sum());
    }

    private Node sum() {
        Node a = product();
        while (token.equals("+") || token.equals("-")) {
            String sign = token;
            knot();
            next();
            a = join(sign, a, product());
        }
        return a;
    }

    private Node product() {
        Node a = part();
        while (token.equals("*") || token.equals("/")) {
            String sign = token;
            knot();
            next();
            a = join(sign, a, part());
        }
        return a;
    }

    private Node part() {
        if (isNumber()) {
            knot();
            long n = number(9999);
            return names -> n;
        }
        if (NAMES.contains(token)) {
            knot();
            String name = token;
            next();
            return names -> names.get(name);
        }
        if (token.equals("(")) {
            if (opened == 8) {
                throw new Fault(2, tokenAt);
            }
            opened++;
            next();
            Node a = either();
            take(")");
            opened--;
            return a;
        }
        throw wrong();
    }

    int feed(int a, int b, int c, int d, int e) {
        if (tape.length > 680) {
            return -1;
        }
        java.nio.ByteBuffer more = java.nio.ByteBuffer.allocate(tape.length + 20);
        more.put(tape).putInt(a).putInt(b).putInt(c).putInt(d).putInt(e);
        tape = more.array();
        return tape.length;
    }

    int text(int n) {
        if (n < 0 || n > tape.length) {
            return -2;
        }
        source = Arrays.copyOf(tape, n);
        tape = new byte[0];
        at = 0;
        reading = new Text();
        fault = 0;
        place = -1;
        try {
            next();
            while (!token.isEmpty()) {
                line();
                take(";");
                reading.lines++;
            }
        } catch (Fault f) {
            fault = f.what;
            place = f.place;
            return -1;
        }
        text = reading;
        now = text.first.copy();
        image = null;
        undo.clear();
        told.clear();
        knownBy = -1;
        return text.lines;
    }

    int fault(int what) {
        return what == 0 ? fault : what == 1 ? place : -1;
    }

    int named(int letters) {
        for (int i = 0; i < text.growers.size(); i++) {
            if (Check.letters(text.growers.get(i).name) == letters) {
                return i;
            }
        }
        return -1;
    }

    // ---- what is now

    private int size() {
        return text.growers.size();
    }

    private boolean isGrower(int g) {
        return g >= 0 && g < size();
    }

    private boolean isRibbon(int r) {
        return r >= 0 && r < text.ribbons;
    }

    private boolean areTwo(int a, int b) {
        return isGrower(a) && isGrower(b) && a != b;
    }

    private int bits(Predicate<Integer> is) {
        int bits = 0;
        for (int i = 0; i < size(); i++) {
            bits += is.test(i) ? 1 << i : 0;
        }
        return bits;
    }

    int grower(int g, int what) {
        if (!isGrower(g)) {
            throw new IndexOutOfBoundsException();
        }
        switch (what) {
            case 0:
                return now.worth.get(g);
            case 1:
                return text.growers.get(g).grows;
            case 2:
                return text.growers.get(g).doubt;
            case 3:
                return text.growers.get(g).place;
            case 4:
                return now.had.get(g);
            case 5:
                return bits(i -> now.sees.get(g).contains(i));
            case 6:
                int has = 0;
                for (int r = 0; r < text.ribbons; r++) {
                    has += now.holder.get(r) == g ? 1 << r : 0;
                }
                return has;
            default:
                throw new NoSuchElementException();
        }
    }

    int ribbon(int r, int what) {
        if (!isRibbon(r) || what < 0 || what > 2) {
            return -1;
        }
        return (what == 0 ? now.holder : what == 1 ? now.since : now.handed).get(r);
    }

    int judged(int one, int other) {
        return areTwo(one, other) ? new World(now).judged(one, other) : -1;
    }

    int best(int g) {
        return isGrower(g) ? new World(now).best(g) : -1;
    }

    long law(int what, int one, int other) {
        if (what < 0 || what > 2 || (what == 0 ? !areTwo(one, other) : !isGrower(one))) {
            return Long.MIN_VALUE;
        }
        Long e = new World(now).law(LANGUAGE.get(6 + what), one, what == 0 ? other : one, 0);
        return e == null ? Long.MIN_VALUE : e;
    }

    private void saveUndo() {
        undo.add(now.copy());
        if (undo.size() > 20) {
            undo.remove(0);
        }
    }

    boolean show(int one, int other, boolean is) {
        if (!areTwo(one, other) || now.sees.get(one).contains(other) == is) {
            return false;
        }
        saveUndo();
        if (is) {
            now.sees.get(one).add(other);
        } else {
            now.sees.get(one).remove((Integer) other);
        }
        return true;
    }

    int raise(int g, int by) {
        if (!isGrower(g) || by == 0 || by < -99 || by > 99) {
            return -1;
        }
        saveUndo();
        now.worth.set(g, Math.max(0, Math.min(999, now.worth.get(g) + by)));
        return now.worth.get(g);
    }

    boolean hand(int r, int g) {
        if (!isRibbon(r) || !isGrower(g) || now.holder.get(r) == g) {
            return false;
        }
        saveUndo();
        pass(now, r, g);
        return true;
    }

    int go(int n) {
        if (n < 0 || n > 99 || now.year + n > 9000) {
            return -1;
        }
        World w = new World(now);
        w.numbers = true;
        now = w.years(n).s;
        if (n > 0) {
            undo.clear();
        }
        return now.year;
    }

    // ---- what comes

    int ahead(int n, int what, int i) {
        if (n < 0 || n > 99 || what < 0 || what > 3 || (what < 2 ? !isRibbon(i) : !isGrower(i))) {
            return -1;
        }
        State then = new World(now).years(n).s;
        switch (what) {
            case 0:
                return then.holder.get(i);
            case 1:
                return then.handed.get(i) - now.handed.get(i);
            case 2:
                return then.worth.get(i);
            default:
                return then.had.get(i);
        }
    }

    int ring(int r, int what) {
        if (!isRibbon(r) || what < 0 || what > 2) {
            return -1;
        }
        List<Integer> path = new World(now).path(r);
        int first = path.indexOf(path.get(path.size() - 1));
        boolean round = first != path.size() - 1;
        if (what == 0) {
            return round ? 1 : 0;
        }
        return what == 1 ? first : bits(i -> path.subList(first, path.size()).contains(i));
    }

    /** The fewest of these pairs, two at most, by which it is so; null: by none. */
    private static List<int[]> fewest(List<int[]> pairs, Predicate<List<int[]>> so) {
        if (so.test(List.of())) {
            return List.of();
        }
        for (int[] one : pairs) {
            if (so.test(List.of(one))) {
                return List.of(one);
            }
        }
        for (int i = 0; i < pairs.size(); i++) {
            for (int j = i + 1; j < pairs.size(); j++) {
                List<int[]> two = List.of(pairs.get(i), pairs.get(j));
                if (so.test(two)) {
                    return two;
                }
            }
        }
        return null;
    }

    private static int pick(List<int[]> found, int what) {
        if (found == null || what > found.size()) {
            return -2;
        }
        return what == 0 ? found.size() : 10 * found.get(what - 1)[0] + found.get(what - 1)[1];
    }

    private List<int[]> pairs(boolean seen) {
        List<int[]> pairs = new ArrayList<>();
        for (int i = 0; i < size(); i++) {
            for (int j = 0; j < size(); j++) {
                if (i != j && now.sees.get(i).contains(j) == seen) {
                    pairs.add(new int[] {i, j});
                }
            }
        }
        return pairs;
    }

    int free(int r, int what) {
        if (!isRibbon(r) || what < 0 || what > 2) {
            return -1;
        }
        return pick(fewest(pairs(true), chosen -> {
            World w = new World(now);
            chosen.forEach(p -> w.s.sees.get(p[0]).remove((Integer) p[1]));
            return !w.isRound(r);
        }), what);
    }

    int lead(int r, int g, int n, int what) {
        if (!isRibbon(r) || !isGrower(g) || n < 1 || n > 20 || what < 0 || what > 2) {
            return -1;
        }
        return pick(fewest(pairs(false), chosen -> {
            World w = new World(now);
            chosen.forEach(p -> w.s.sees.get(p[0]).add(p[1]));
            return w.years(n).s.holder.get(r) == g;
        }), what);
    }

    /** All rows of these, the first by numbers first. */
    private static void rows(List<Integer> left, List<Integer> row, Consumer<List<Integer>> each) {
        if (left.isEmpty()) {
            each.accept(row);
        }
        for (Integer one : left) {
            List<Integer> less = new ArrayList<>(left);
            less.remove(one);
            List<Integer> more = new ArrayList<>(row);
            more.add(one);
            rows(less, more, each);
        }
    }

    private int way(int from, List<Integer> row) {
        int way = 0;
        int at = from;
        for (int to : row) {
            way += Math.abs(text.growers.get(at).place - text.growers.get(to).place);
            at = to;
        }
        return way;
    }

    private List<Integer> all() {
        List<Integer> all = new ArrayList<>();
        for (int i = 0; i < size(); i++) {
            all.add(i);
        }
        return all;
    }

    int walk(int r, int what) {
        if (!isRibbon(r) || what < 0 || what > 5) {
            return -1;
        }
        int from = now.holder.get(r);
        List<Integer> others = all();
        others.remove((Integer) from);
        List<List<Integer>> found = new ArrayList<>();
        rows(others, new ArrayList<>(), row -> {
            if (found.isEmpty() || way(from, row) < way(from, found.get(0))) {
                found.clear();
                found.add(row);
            }
        });
        List<Integer> row = found.get(0);
        return what == 5 ? way(from, row) : what < row.size() ? row.get(what) : -2;
    }

    int meet() {
        if (text.ribbons != 2) {
            return -1;
        }
        for (int n = 0; n <= 99; n++) {
            State then = new World(now).years(n).s;
            if (then.holder.get(0).equals(then.holder.get(1))) {
                return n;
            }
        }
        return -2;
    }

    private void reach(int g, List<Integer> reached) {
        if (!reached.contains(g)) {
            reached.add(g);
            now.sees.get(g).forEach(i -> reach(i, reached));
        }
    }

    int reach(int g) {
        if (!isGrower(g)) {
            return -1;
        }
        List<Integer> reached = new ArrayList<>();
        reach(g, reached);
        return bits(reached::contains);
    }

    int deserves() {
        for (int i = 0; i < size(); i++) {
            if (rank(i) == 0) {
                return i;
            }
        }
        return -1;
    }

    private List<Integer> known() {
        int end = knownBy < 0 ? told.size() : knownBy;
        List<Integer> known = new ArrayList<>();
        for (int i = 0; i < end; i++) {
            if (!isStruck(i, end)) {
                known.add(i);
            }
        }
        return known;
    }

    private boolean isStruck(int i, int end) {
        for (int j = i + 1; j < end; j++) {
            if (told.get(j)[0] == 'x' && told.get(j)[1] == i && !isStruck(j, end)) {
                return true;
            }
        }
        return false;
    }

    private int clashes(List<Integer> row) {
        int many = 0;
        for (int i : known()) {
            int[] t = told.get(i);
            boolean clash = false;
            for (int seen : t[0] == 'h' ? now.sees.get(t[1]) : List.<Integer>of()) {
                clash |= seen != t[2] && row.indexOf(seen) < row.indexOf(t[2]);
            }
            many += clash ? 1 : 0;
        }
        return many;
    }

    int order(int what) {
        if (what < 0 || what > 6) {
            return -1;
        }
        List<List<Integer>> found = new ArrayList<>();
        rows(all(), new ArrayList<>(), row -> {
            if (found.isEmpty() || clashes(row) < clashes(found.get(0))) {
                found.clear();
                found.add(row);
            }
        });
        List<Integer> row = found.get(0);
        return what == 6 ? clashes(row) : what < row.size() ? row.get(what) : -2;
    }

    /** What each of the two has. */
    private int[] game(int one, int other, int a, int b) {
        int w = now.worth.get(one);
        int v = now.worth.get(other);
        if (a == 1 && b == 1) {
            return new int[] {v / 2, w / 2};
        }
        if (a == 0 && b == 0) {
            return new int[] {w / 4, v / 4};
        }
        return a == 0 ? new int[] {w - 5 * text.growers.get(other).doubt, 0}
            : new int[] {0, v - 5 * text.growers.get(one).doubt};
    }

    private List<Integer> restsOf(int one, int other) {
        List<Integer> rests = new ArrayList<>();
        for (int a = 0; a < 2; a++) {
            for (int b = 0; b < 2; b++) {
                int[] has = game(one, other, a, b);
                if (game(one, other, 1 - a, b)[0] <= has[0] && game(one, other, a, 1 - b)[1] <= has[1]) {
                    rests.add(10 * a + b);
                }
            }
        }
        return rests;
    }

    int rests(int one, int other) {
        return areTwo(one, other) ? restsOf(one, other).size() : -1;
    }

    int rest(int one, int other, int k) {
        if (!areTwo(one, other) || k < 0) {
            return -1;
        }
        List<Integer> rests = restsOf(one, other);
        return k < rests.size() ? rests.get(k) : -2;
    }

    int visit(int g, int way, int what) {
        if (!isGrower(g) || way < 0 || way > 999 || what < 0 || what > 1) {
            return -1;
        }
        int[] best = {0, 0};
        for (int set = 1; set < 1 << size(); set++) {
            int bits = set;
            List<Integer> those = all();
            those.removeIf(i -> (bits >> i & 1) == 0);
            int sum = those.stream().mapToInt(now.worth::get).sum();
            boolean[] can = {false};
            rows(those, new ArrayList<>(), row -> can[0] |= way(g, row) <= way);
            if (!those.contains(g) && can[0] && sum > best[1]) {
                best[0] = set;
                best[1] = sum;
            }
        }
        return best[what];
    }

    int hosts(int r, int n) {
        if (!isRibbon(r) || n < 0 || n > 99) {
            return -1;
        }
        List<Integer> had = new ArrayList<>();
        for (int i = 0; i <= n; i++) {
            had.add(new World(now).years(i).s.holder.get(r));
        }
        return bits(had::contains);
    }

    int rank(int g) {
        if (!isGrower(g)) {
            return -1;
        }
        List<Integer> all = all();
        all.sort((a, b) -> now.worth.get(b) - now.worth.get(a));
        return all.indexOf(g);
    }

    int keepers() {
        return bits(i -> !new World(now).wouldHand(i, 0));
    }

    int comesTo(int r, int g) {
        if (!isRibbon(r) || !isGrower(g)) {
            return -1;
        }
        for (int n = 0; n <= 99; n++) {
            if (new World(now).years(n).s.holder.get(r) == g) {
                return n;
            }
        }
        return -2;
    }

    int popular() {
        int best = -2;
        long most = 0;
        for (int i = 0; i < size(); i++) {
            int who = i;
            long many = now.sees.stream().filter(row -> row.contains(who)).count();
            if (many > most) {
                most = many;
                best = i;
            }
        }
        return best;
    }

    int mutual() {
        int many = 0;
        for (int[] p : pairs(true)) {
            many += now.sees.get(p[1]).contains(p[0]) ? 1 : 0;
        }
        return many / 2;
    }

    int lonely() {
        return bits(i -> now.sees.get(i).isEmpty());
    }

    // ---- what is told

    private int tell(int... what) {
        if (told.size() == 24) {
            return -1;
        }
        told.add(what);
        return told.size() - 1;
    }

    int note(int one, int other) {
        return areTwo(one, other) ? tell('h', one, other) : -1;
    }

    int see(int years, int r, int g, boolean is) {
        return years >= 1 && years <= 60 && isRibbon(r) && isGrower(g) ? tell('s', years, r, g, is ? 1 : 0) : -1;
    }

    int strike(int n) {
        return n >= 0 && n < told.size() ? tell('x', n) : -1;
    }

    boolean known(int n) {
        if (n < -1 || n > told.size()) {
            return false;
        }
        knownBy = n;
        return true;
    }

    int doubts(int g) {
        if (!isGrower(g)) {
            return -1;
        }
        int bits = 0;
        for (int d = 0; d <= 9; d++) {
            boolean so = true;
            for (int i : known()) {
                int[] t = told.get(i);
                if (t[0] == 's') {
                    World w = new World(text.first);
                    w.doubt.set(g, d);
                    so &= (w.years(t[1]).s.holder.get(t[2]) == t[3]) == (t[4] == 1);
                }
            }
            bits += so ? 1 << d : 0;
        }
        return bits;
    }

    int chance(int seed, int n, int r, int g) {
        if (seed < 0 || n < 1 || n > 99 || !isRibbon(r) || !isGrower(g)) {
            return -1;
        }
        int many = 0;
        long number = seed;
        for (int i = 0; i < 10; i++) {
            World w = new World(now);
            w.numbers = true;
            w.s.number = number;
            w.years(n);
            number = w.s.number;
            many += w.s.holder.get(r) == g ? 1 : 0;
        }
        return many;
    }

    int tried(int what, int i, int n) {
        if (what < 0 || what > 4 || n < 0 || n > 99 || text.ribbons == 0 || (what == 2 ? !isGrower(i) : i != 0)) {
            return -1;
        }
        World w = new World(now);
        w.noBlight = what == 0;
        w.noGrowing = what == 4;
        for (int g = 0; g < size(); g++) {
            List<Integer> sees = w.s.sees.get(g);
            if (what == 1) {
                w.doubt.set(g, 0);
            } else if (what == 2) {
                sees.remove((Integer) i);
            } else if (what == 3) {
                sees.clear();
                sees.addAll(all());
                sees.remove((Integer) g);
            }
        }
        return w.years(n).s.holder.get(0);
    }

    int undo() {
        if (undo.isEmpty()) {
            return -1;
        }
        now = undo.remove(undo.size() - 1);
        return undo.size();
    }

    int keep() {
        image = now.copy();
        return now.year;
    }

    int back() {
        if (image == null) {
            return -1;
        }
        now = image.copy();
        undo.clear();
        return now.year;
    }

    int count(int what) {
        switch (what) {
            case 0:
                return size();
            case 1:
                return pairs(true).size();
            case 2:
                return text.ribbons;
            case 3:
                return text.knots;
            case 4:
                return now.year;
            case 5:
                return now.handed.stream().mapToInt(i -> i).sum();
            case 6:
                return now.worth.stream().mapToInt(i -> i).sum();
            case 7:
                return told.size();
            case 8:
                return knownBy < 0 ? told.size() : knownBy;
            case 9:
                return undo.size();
            default:
                return -1;
        }
    }
}
