/** All that can be asked of an object but fault(), told as a text; what can be undone, is kept or fed is looked at by using it. */
final class Portrait {
    private final RibbonRun x;
    private final StringBuilder told = new StringBuilder();

    private Portrait(RibbonRun x) {
        this.x = x;
    }

    /** The object is used up by this: an object may be called 512 times, and this calls it some 300 times. */
    static String of(RibbonRun x) {
        Portrait portrait = new Portrait(x);
        portrait.all();
        return portrait.told.toString();
    }

    private Portrait put(String what, long value) {
        told.append(what).append(value).append(' ');
        return this;
    }

    private void all() {
        now();
        whatStays();
        for (int i = 0; i < 20 && x.count(9) > 0; i++) {
            put("| undo ", x.undo());
            put("sees ", x.count(1)).put("worth ", x.count(6)).put("who ", x.ribbon(0, 0)).put("since ", x.ribbon(0, 1));
            put("handed ", x.count(5));
        }
        now();
        // By the numbers that come now it shows which was the last one.
        put("| go ", x.go(5));
        now();
        put("| back ", x.back());
        now();
        put("| go ", x.go(5)).put("worth ", x.count(6));
        // What was fed is a text or isn't, and the tape has so much room.
        int fed = x.feed(0x20202020, 0x20202020, 0x20202020, 0x20202020, 0x20202020);
        put("| fed ", fed).put("lines ", x.text(fed < 0 ? 700 : fed)).put("", x.fault(0)).put("", x.fault(1));
        put("growers ", x.count(0)).put("worth ", x.count(6));
    }

    private void now() {
        told.append("| now ");
        for (int i = 0; i < 10; i++) {
            put("", x.count(i));
        }
        for (int g = 0; g < x.count(0); g++) {
            for (int what = 0; what < 7; what++) {
                put(what == 0 ? "/ " : "", x.grower(g, what));
            }
        }
        for (int r = 0; r < x.count(2); r++) {
            for (int what = 0; what < 3; what++) {
                put(what == 0 ? "/ " : "", x.ribbon(r, what));
            }
        }
    }

    private void whatStays() {
        told.append("| laws ");
        for (int g = 0; g < x.count(0); g++) {
            put("", x.judged(g, g == 0 ? 1 : 0)).put("", x.law(0, g, g == 0 ? 1 : 0)).put("", x.law(1, g, 0)).put("", x.law(2, g, 0));
            put("", x.doubts(g));
        }
        told.append("| order ");
        for (int what = 0; what < 7; what++) {
            put("", x.order(what));
        }
        told.append("| names ");
        for (String name : new String[] {"a", "b", "c", "d", "q"}) {
            put("", x.named(Check.letters(name)));
        }
        // Blight for all shows in what comes, if it is 50 at least.
        put("| ahead ", x.ahead(9, 2, 0)).put("", x.ahead(9, 0, 0)).put("", x.chance(5, 9, 0, 0));
    }
}
