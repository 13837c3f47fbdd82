import java.util.NoSuchElementException;

/** What the tests of the promises share: answers that are due, texts, rows. */
final class Check {
    private final String about;
    private int wrong;
    private int asked;

    Check(String about) {
        this.about = about;
    }

    void due(String call, long got, long want) {
        asked++;
        if (got != want) {
            wrong++;
            System.out.println(about + ": " + call + " answered " + got + ", due is " + want);
        }
    }

    void due(String call, boolean got, boolean want) {
        due(call, got ? 1 : 0, want ? 1 : 0);
    }

    /** THE ROW has just these numbers. */
    void row(ReasonsSupplied x, String call, long... want) {
        due(call + ": numbers of the row", x.count(11), want.length);
        for (int i = 0; i < want.length && i < x.count(11); i++) {
            due(call + ": row(" + i + ")", x.row(i), want[i]);
        }
        none(call + ": row(-1)", () -> x.row(-1));
        none(call + ": row(" + want.length + ")", () -> x.row(want.length));
    }

    interface Call {
        long get();
    }

    void none(String call, Call asks) {
        int thrown = 0;
        try {
            asks.get();
        } catch (NoSuchElementException e) {
            thrown = 1;
        }
        due(call + " throws NoSuchElementException", thrown, 1);
    }

    /** THE TEXT is this one. */
    static void text(ReasonsSupplied x, String text) {
        x.end(0);
        for (int i = 0; i < text.length(); i += 4) {
            int v = 0;
            for (int k = 0; k < 4; k++) {
                v = v << 8 | (i + k < text.length() ? text.charAt(i + k) : 0);
            }
            x.sign(v);
        }
        x.end(text.length());
    }

    static int grounds(ReasonsSupplied x, String text) {
        text(x, text);
        return x.grounds();
    }

    static int people(ReasonsSupplied x, String text) {
        text(x, text);
        return x.people();
    }

    static int wants(ReasonsSupplied x, String text) {
        text(x, text);
        return x.wants();
    }

    static int rule(ReasonsSupplied x, String text) {
        text(x, text);
        return x.rule();
    }

    static int year(ReasonsSupplied x, String text) {
        text(x, text);
        return x.year();
    }

    static int law(ReasonsSupplied x, String text) {
        text(x, text);
        return x.law();
    }

    static ReasonsSupplied bureau(String grounds, String people, String wants) {
        ReasonsSupplied x = new ReasonsSupplied();
        grounds(x, grounds);
        people(x, people);
        wants(x, wants);
        return x;
    }

    /** All that can be asked of how it stands, THE ROW aside. */
    static String standing(ReasonsSupplied x) {
        StringBuilder all = new StringBuilder();
        for (int what = 0; what <= 12; what++) {
            all.append(what == 11 ? 0 : x.count(what)).append(' ');
        }
        for (int g = 0; g < x.count(0); g++) {
            for (int what = 0; what <= 6; what++) {
                all.append(x.ground(g, what)).append(' ');
            }
        }
        for (int p = 0; p < x.count(1); p++) {
            for (int what = 0; what <= 6; what++) {
                all.append(x.person(p, what)).append(' ');
            }
            for (int g = 0; g < x.count(0); g++) {
                all.append(x.held(p, g)).append(' ');
            }
        }
        return all.toString();
    }

    static String rowOf(ReasonsSupplied x) {
        StringBuilder all = new StringBuilder("row");
        for (int i = 0; i < x.count(11); i++) {
            all.append(' ').append(x.row(i));
        }
        return all.toString();
    }

    void alike(String call, String got, String want) {
        asked++;
        if (!got.equals(want)) {
            wrong++;
            System.out.println(about + ": " + call + ": " + got + ", due is " + want);
        }
    }

    void end() {
        System.out.println(about + ": " + asked + " answers, " + wrong + " wrong");
        if (wrong != 0 || asked == 0) {
            System.exit(1);
        }
    }
}
