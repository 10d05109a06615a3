/** Objects of which much has been asked: on these a refused call is looked at for what it leaves. */
final class Busy {
    static final String TEXT = "grower a 10 2 1 0;grower b 20 -3 2 30;grower c 20 0 0 90;sees a b;sees a c;sees b a;sees b c;"
        + "ribbon a;ribbon b;blight 40;seed 9;law judge worth - had;law give since > 0 or worth < 15;";

    private Busy() {
    }

    /** Years, an image, three that can be undone, handings, sights and strikes of which three are known. */
    static RibbonRun withoutTape() {
        RibbonRun x = Check.of(TEXT);
        x.go(2);
        x.keep();
        x.go(1);
        x.show(2, 0, true);
        x.raise(1, 7);
        x.hand(0, (x.ribbon(0, 0) + 1) % 3);
        x.note(0, 1);
        x.see(3, 0, 2, true);
        x.strike(1);
        x.note(1, 2);
        x.known(3);
        return x;
    }

    /** And twenty bytes on the tape, a text of two lines. */
    static RibbonRun full() {
        RibbonRun x = withoutTape();
        EdgeText.feed(x, "seed 7;blight 3;");
        return x;
    }

    /** 24 handings, sights and strikes: no more can be told. */
    static RibbonRun told() {
        RibbonRun x = full();
        for (int i = x.count(7); i < 24; i++) {
            if (i % 3 == 0) {
                x.note(i % 2, 2);
            } else if (i % 3 == 1) {
                x.see(i, i % 2, i % 3, i % 2 == 0);
            } else {
                x.strike(i - 2);
            }
        }
        x.known(-1);
        return x;
    }
}
