import java.util.NoSuchElementException;

/** What the tests of the promises share: answers that are due, texts, rows. */
final class Check {
    private final String about;
    private int wrong;
    private int asked;

    Check(String about) {
        this.about = about;
    }

    void due(String call, long got, long want) {
        asked++;
        if (got != want) {
            wrong++;
            System.out.println(about + ": " + call + " answered " + got + ", due is " + want);
        }
    }

    void due(String call, boolean got, boolean want) {
        due(call, got ? 1 : 0, want ? 1 : 0);
    }

    /** THE ROW has just these numbers. */
    void row(ReasonsSupplied x, String call, long... want) {
        due(call + ": numbers of the row", x.count(11), want.length);
        for (int i = 0; i < want.length && i < x.count(11); i++) {
            due(call + ": row(" + i + ")", x.row(i), want[i]);
        }
        none(call + ": row(-1)", () -> x.row(-1));
        none(call + ": row(" + want.length + ")", () -> x.row(want.length));
    }

    interface Call {
        long get();
    }

    void none(String call, Call asks) {
        int thrown = 0;
        try {
            asks.get();
        } catch (NoSuchElementException e) {
            thrown = 1;
        }
        due(call + " throws NoSuchElementException", thrown, 1);
    }

    /** THE TEXT is this one. */
    static void text(ReasonsSupplied x, String text) {
        x.end(0);
        for (int i = 0; i < text.length(); i += 4) {
            int v = 0;
            for (int k = 0; k < 4; k++) {
                v = v << 8 | (i + k < text.length() ? text.charAt(i + k) : 0);
            }
            x.sign(v);
        }
        x.end(text.length());
    }

    static int grounds(ReasonsSupplied x, String text) {
        text(x, text);
        return x.grounds();
    }

    static int people(ReasonsSupplied x, String text) {
        text(x, text);
        return x.people();
    }

    static int wants(ReasonsSupplied x, String text) {
        text(x, text);
        return x.wants();
    }

    static int rule(ReasonsSupplied x, String text) {
        text(x, text);
        return x.rule();
    }

    static int year(ReasonsSupplied x, String text) {
        text(x, text);
        return x.year();
    }

    static int law(ReasonsSupplied x, String text) {
        text(x, text);
        return x.law();
    }

    static ReasonsSupplied bureau(String grounds, String people, String wants) {
        ReasonsSupplied x = new ReasonsSupplied();
        grounds(x, grounds);
        people(x, people);
        wants(x, wants);
        return x;
    }

    void end() {
        System.out.println(about + ": " + asked + " answers, " + wrong + " wrong");
        if (wrong != 0 || asked == 0) {
            System.exit(1);
        }
    }
}
