import java.lang.management.ManagementFactory;

/** The dearest calls: 512 of each end soon, and no call makes objects, for all calls of a run share one room. */
final class RoomTest {
    private static final Check CHECK = new Check("RoomTest");
    private static final long SECONDS = 60;

    private interface Call {
        int of(RibbonRun x, int i);
    }

    public static void main(String[] args) {
        String text = heavy();
        long start = System.nanoTime();
        ask("lead", text, (x, i) -> x.lead(i & 1, i % 6, 20, i % 3));
        ask("free", text, (x, i) -> x.free(i & 1, i % 3));
        ask("chance", text, (x, i) -> x.chance(i, 99, i & 1, i % 6));
        ask("order", text, (x, i) -> i < 24 ? x.note(i % 6, (i + 1 + i / 6) % 6) : x.order(i % 7));
        ask("doubts", text, (x, i) -> i < 24 ? x.see(60, i & 1, i % 6, false) : x.doubts(i % 6));
        ask("walk", text, (x, i) -> x.walk(i & 1, i % 6));
        ask("comesTo", text, (x, i) -> x.comesTo(i & 1, i % 6));
        ask("meet", text, (x, i) -> x.meet());
        ask("visit", text, (x, i) -> x.visit(i % 6, i, i & 1));
        ask("deeds", text, (x, i) -> x.show(i % 6, (i + 1) % 6, i % 4 < 2) ? x.raise(i % 6, 1) : x.undo());
        ask("images", text, (x, i) -> (i & 1) == 0 ? x.keep() : x.back());
        ask("text", text, (x, i) -> Check.read(x, "grower a 1 1 1 1;law judge worth + (own - 5);"));
        long seconds = (System.nanoTime() - start) / 1_000_000_000L;
        CHECK.due("all within " + SECONDS + " seconds, " + seconds, seconds <= SECONDS, true);
        CHECK.end();
    }

    /** Six growers, few sees, so that many could be, and laws of 63 knots. */
    private static String heavy() {
        StringBuilder t = new StringBuilder();
        for (char c = 'a'; c <= 'f'; c++) {
            t.append("grower ").append(c).append(" 50 1 3 ").append((c - 'a') * 15).append(';');
            if (c > 'a') {
                t.append("sees ").append(c).append(' ').append((char) (c - 1)).append(';');
            }
        }
        return t.append("ribbon f;ribbon d;blight 50;law judge worth").append("-had+far".repeat(11))
            .append(";law grow 1-had").append("+had".repeat(5)).append(";law give 1+had<99;").toString();
    }

    private static void ask(String told, String text, Call call) {
        RibbonRun x = Check.of(text);
        com.sun.management.ThreadMXBean bean = (com.sun.management.ThreadMXBean) ManagementFactory.getThreadMXBean();
        long thread = Thread.currentThread().getId();
        // The first calls make what the machine itself needs for them.
        for (int i = 0; i < 30; i++) {
            call.of(x, i);
        }
        long before = bean.getThreadAllocatedBytes(thread);
        for (int i = 30; i < 512; i++) {
            call.of(x, i);
        }
        long made = bean.getThreadAllocatedBytes(thread) - before;
        // Reading makes the test's own bytes; all else makes nothing.
        CHECK.due("bytes made by " + told + ": " + made, made < (told.equals("text") ? 200_000 : 2_000), true);
    }
}
