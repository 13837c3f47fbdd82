import java.util.NoSuchElementException;
import java.util.Random;

/** Many runs of calls by lot, each answered by the class and by PlainBureau; all answers and all that can be asked must be alike. */
public final class AgainstPlain {
    private static final int CALLS = 160;
    private static final int KINDS = 44;
    private static int wrong = 0;
    private final Random lot;
    private final ReasonsSupplied it = new ReasonsSupplied();
    private final PlainBureau plain = new PlainBureau();
    private final StringBuilder told = new StringBuilder();
    /** Calls that a run leaves out: what is rare by all of them together is common by some. */
    private final boolean[] without = new boolean[KINDS];

    private AgainstPlain(long seed) {
        lot = new Random(seed);
    }

    public static void main(String[] args) {
        int runs = args.length > 0 ? Integer.parseInt(args[0]) : 3000;
        int from = args.length > 1 ? Integer.parseInt(args[1]) : 1;
        for (int seed = from; seed < from + runs && wrong < 5; seed++) {
            new AgainstPlain(seed).run(seed);
        }
        System.out.println(wrong == 0 ? runs + " runs answered alike" : wrong + " answers differ");
        if (wrong != 0) {
            System.exit(1);
        }
    }

    private void run(int seed) {
        int setUp = lot.nextInt(6);
        for (int kind = 0; kind < KINDS; kind++) {
            without[kind] = setUp > 1 && lot.nextInt(5) < (kind < 4 || kind == 13 ? 4 : 2);
        }
        if (setUp > 0) {
            text(grounds(1 + lot.nextInt(8)));
            due(seed, "grounds", it.grounds(), plain.grounds());
            text(people(1 + lot.nextInt(6)));
            due(seed, "people", it.people(), plain.people());
            text(wants(1 + lot.nextInt(6)));
            due(seed, "wants", it.wants(), plain.wants());
        }
        for (int i = 0; i < CALLS && wrong < 5; i++) {
            call(seed);
            if (!standsAlike()) {
                wrong++;
                System.out.println("seed " + seed + ": stands otherwise after" + told);
                return;
            }
        }
    }

    private void due(int seed, String call, long got, long want) {
        told.append(' ').append(call);
        if (got != want) {
            wrong++;
            System.out.println("seed " + seed + ": " + got + ", due is " + want + " after" + told);
        }
    }

    private boolean standsAlike() {
        for (int what = -1; what <= 13; what++) {
            if (it.count(what) != plain.count(what)) {
                System.out.println("count " + what + ": " + it.count(what) + ", due is " + plain.count(what));
                return false;
            }
        }
        for (int i = -1; i <= plain.count(11); i++) {
            int at = i;
            if (!answer(() -> it.row(at)).equals(answer(() -> plain.row(at)))) {
                System.out.println("row " + i + ": " + answer(() -> it.row(at)) + ", due is " + answer(() -> plain.row(at)));
                return false;
            }
        }
        for (int p = 0; p < plain.count(1); p++) {
            for (int what = 0; what <= 6; what++) {
                if (it.person(p, what) != plain.person(p, what)) {
                    return false;
                }
            }
            for (int g = 0; g < plain.count(0); g++) {
                if (it.held(p, g) != plain.held(p, g)) {
                    return false;
                }
            }
        }
        for (int g = 0; g < plain.count(0); g++) {
            for (int what = 0; what <= 6; what++) {
                if (it.ground(g, what) != plain.ground(g, what)) {
                    return false;
                }
            }
        }
        return true;
    }

    private interface Asked {
        long get();
    }

    private static String answer(Asked asked) {
        try {
            return Long.toString(asked.get());
        } catch (NoSuchElementException e) {
            return "none";
        }
    }

    // ---- arguments by lot

    /** Mostly 0 .. n - 1, now and then beyond. */
    private int near(int n) {
        int kind = lot.nextInt(20);
        if (kind == 0) {
            return n + lot.nextInt(2);
        }
        if (kind == 1) {
            return -1 - lot.nextInt(2);
        }
        if (kind == 2 && lot.nextInt(8) == 0) {
            return lot.nextBoolean() ? Integer.MIN_VALUE : Integer.MAX_VALUE;
        }
        return lot.nextInt(Math.max(1, n));
    }

    private int person() {
        return near(plain.count(1));
    }

    private int ground() {
        return near(plain.count(0));
    }

    private int want() {
        return near(plain.count(2));
    }

    private String some(int n, java.util.function.Supplier<String> line) {
        StringBuilder b = new StringBuilder();
        for (int i = 0; i < n; i++) {
            b.append(i > 0 ? ";" : "").append(line.get());
        }
        return b.toString();
    }

    private String grounds(int n) {
        return some(n, () -> {
            StringBuilder b = new StringBuilder().append(1 + lot.nextInt(9)).append(lot.nextInt(4) == 0 ? lot.nextInt(10) : lot.nextInt(3));
            for (int h = 0; h < 4; h++) {
                b.append(lot.nextInt(2) == 0 ? "-" : "" + lot.nextInt(10));
            }
            return b.toString();
        });
    }

    private String people(int n) {
        return some(n, () -> "" + (1 + lot.nextInt(9)) + lot.nextInt(10) + lot.nextInt(10) + lot.nextInt(10) + lot.nextInt(10));
    }

    private String wants(int n) {
        return some(n, () -> {
            StringBuilder b = new StringBuilder();
            for (int t = 0; t <= lot.nextInt(3); t++) {
                b.append("abcd".charAt(lot.nextInt(4))).append("<>".charAt(lot.nextInt(2))).append(lot.nextInt(10));
            }
            return b.toString();
        });
    }

    private String rule(int depth) {
        int kind = lot.nextInt(depth > 4 ? 4 : 12);
        if (kind < 3) {
            return "" + "vtgedsnvtvtvt".charAt(lot.nextInt(13));
        }
        if (kind == 3) {
            return "" + lot.nextInt(lot.nextInt(4) == 0 ? 1000 : 5);
        }
        if (kind == 4) {
            return "-" + rule(depth + 1);
        }
        if (kind < 7) {
            return "(" + rule(depth + 1) + ")";
        }
        return rule(depth + 1) + "+-*/<>=+-".charAt(lot.nextInt(9)) + rule(depth + 1);
    }

    private String goodRule() {
        for (int i = 0; i < 50; i++) {
            String r = rule(0);
            if (r.length() <= 40 && PlainBureau.ruleSlip(r) < 0) {
                return r;
            }
        }
        return "t-v";
    }

    private String year() {
        StringBuilder b = new StringBuilder();
        int acts = lot.nextInt(12);
        for (int i = 0; i < acts; i++) {
            int kind = lot.nextInt(4);
            int p = Math.max(0, Math.min(9, person()));
            int g = Math.max(0, Math.min(9, ground()));
            b.append(kind == 0 ? "g" + p + g : kind == 1 ? "t" + p + g : kind == 2 ? "m" + g + (1 + lot.nextInt(9)) : "d" + lot.nextInt(10));
        }
        return b.toString();
    }

    private String spoilt(String t) {
        StringBuilder b = new StringBuilder(t);
        int kind = lot.nextInt(8);
        String signs = "0123456789-;<>=+*/()abcdvtgesnm~" + (char) 0 + (char) 255;
        char sign = signs.charAt(lot.nextInt(signs.length()));
        if (kind == 0 && b.length() > 0) {
            b.setCharAt(lot.nextInt(b.length()), sign);
        } else if (kind == 1) {
            b.insert(lot.nextInt(b.length() + 1), sign);
        } else if (kind == 2 && b.length() > 0) {
            b.deleteCharAt(lot.nextInt(b.length()));
        } else if (kind == 3) {
            b.setLength(lot.nextInt(b.length() + 1));
        } else if (kind == 4) {
            b.append(t.isEmpty() ? "" : t.indexOf('<') >= 0 && lot.nextBoolean() ? "" : lot.nextBoolean() ? ";" : "+").append(t);
        }
        return b.toString();
    }

    private void text(String t) {
        String cut = t.length() > 80 ? t.substring(0, 80) : t;
        if (lot.nextInt(30) > 0) {
            it.end(0);
            plain.end(0);
        }
        int from = plain.text.length();
        if (from + cut.length() > 80) {
            cut = cut.substring(0, 80 - from);
        }
        for (int i = 0; i < cut.length(); i += 4) {
            int v = 0;
            for (int k = 0; k < 4; k++) {
                v = v << 8 | (i + k < cut.length() ? cut.charAt(i + k) & 255 : 0);
            }
            due(0, "sign(" + v + ")", it.sign(v), plain.sign(v));
        }
        int end = Math.min(from + cut.length(), 80);
        due(0, "end(" + end + ")", it.end(end) ? 1 : 0, plain.end(end) ? 1 : 0);
        told.append(" \"").append(plain.text).append('"');
    }

    // ---- calls by lot

    private void call(int seed) {
        int kind = lot.nextInt(KINDS);
        for (int i = 0; i < 100 && without[kind]; i++) {
            kind = lot.nextInt(KINDS);
        }
        if (kind < 14) {
            bureau(seed, kind);
        } else if (kind < 32) {
            questions(seed, kind);
        } else {
            others(seed, kind);
        }
    }

    private void bureau(int seed, int kind) {
        int p = person();
        int g = ground();
        switch (kind) {
            case 0:
                text(lot.nextInt(5) == 0 ? "" : spoilt(grounds(1 + lot.nextInt(8))));
                due(seed, "grounds()", it.grounds(), plain.grounds());
                break;
            case 1:
                text(lot.nextInt(5) == 0 ? "" : spoilt(people(1 + lot.nextInt(6))));
                due(seed, "people()", it.people(), plain.people());
                break;
            case 2:
                text(lot.nextInt(5) == 0 ? "" : spoilt(wants(1 + lot.nextInt(6))));
                due(seed, "wants()", it.wants(), plain.wants());
                break;
            case 3:
                text(lot.nextInt(9) == 0 ? "" : lot.nextBoolean() ? goodRule() : spoilt(goodRule()));
                due(seed, "rule()", it.rule(), plain.rule());
                break;
            case 4:
            case 5:
            case 6:
            case 7:
                due(seed, "gives(" + p + "," + g + ")", it.gives(p, g), plain.gives(p, g));
                break;
            case 8:
                due(seed, "takesBack(" + p + "," + g + ")", it.takesBack(p, g), plain.takesBack(p, g));
                break;
            case 9: {
                int n = near(100);
                due(seed, "makes(" + g + "," + n + ")", it.makes(g, n), plain.makes(g, n));
                break;
            }
            case 10: {
                int n = lot.nextBoolean() ? near(4) : near(61);
                due(seed, "days(" + n + ")", it.days(n), plain.days(n));
                break;
            }
            case 11:
                text(lot.nextBoolean() ? year() : spoilt(year()));
                due(seed, "year()", it.year(), plain.year());
                break;
            case 12:
                due(seed, "undo()", it.undo(), plain.undo());
                break;
            default: {
                int k = near(4);
                int n = lot.nextBoolean() ? near(5) : near(9);
                int f = lot.nextBoolean() ? lot.nextInt(3) : lot.nextInt();
                int step = lot.nextBoolean() ? lot.nextInt(4) - 1 : lot.nextInt();
                due(seed, "sheet(" + k + "," + n + "," + f + "," + step + ")", it.sheet(k, n, f, step), plain.sheet(k, n, f, step));
            }
        }
    }

    private void questions(int seed, int kind) {
        int p = person();
        int q = person();
        int w = want();
        int n = lot.nextBoolean() ? near(8) : near(lot.nextBoolean() ? 21 : 100);
        switch (kind) {
            case 14: {
                int h = near(4);
                due(seed, "later(" + p + "," + h + "," + n + ")", it.later(p, h, n), plain.later(p, h, n));
                break;
            }
            case 15:
                due(seed, "settles(" + p + ")", it.settles(p), plain.settles(p));
                break;
            case 16:
                due(seed, "when(" + p + "," + w + ")", it.when(p, w), plain.when(p, w));
                break;
            case 17:
                due(seed, "lacks(" + p + "," + w + ")", it.lacks(p, w), plain.lacks(p, w));
                break;
            case 18:
                due(seed, "richest()", it.richest(), plain.richest());
                break;
            case 19:
                due(seed, "apart(" + p + "," + q + "," + n + ")", it.apart(p, q, n), plain.apart(p, q, n));
                break;
            case 20:
                due(seed, "fewest(" + p + "," + w + "," + n + ")", it.fewest(p, w, n), plain.fewest(p, w, n));
                break;
            case 21:
                due(seed, "serves(" + p + "," + n + ")", it.serves(p, n), plain.serves(p, n));
                break;
            case 22:
                due(seed, "burdens(" + p + "," + n + ")", it.burdens(p, n), plain.burdens(p, n));
                break;
            case 23: {
                int k = near(10);
                due(seed, "quarrels(" + k + ")", it.quarrels(k), plain.quarrels(k));
                break;
            }
            case 24: {
                int k = near(10);
                due(seed, "peace(" + k + ")", it.peace(k), plain.peace(k));
                break;
            }
            case 25: {
                int some = near(1 << plain.count(0));
                due(seed, "pulls(" + some + ")", it.pulls(some), plain.pulls(some));
                break;
            }
            case 26:
            case 27:
                see(seed);
                break;
            case 28:
                due(seed, "fits(" + p + ")", it.fits(p), plain.fits(p));
                break;
            case 29:
                due(seed, "looks(" + p + "," + n + ")", it.looks(p, n), plain.looks(p, n));
                break;
            case 30:
                due(seed, "covers(" + n + ")", it.covers(n), plain.covers(n));
                break;
            default:
                due(seed, "shares(" + n + ")", it.shares(n), plain.shares(n));
        }
    }

    /** Mostly what some ground would have be seen, so that something fits now and then. */
    private void see(int seed) {
        int n = lot.nextBoolean() ? near(5) : near(31);
        int h = near(4);
        int v = near(10);
        if (lot.nextInt(4) == 0 || plain.count(9) > 6) {
            due(seed, "forget()", it.forget(), plain.forget());
        }
        if (plain.count(0) > 0 && plain.count(1) > 0 && n >= 0 && n < 50 && h >= 0 && h < 4 && lot.nextInt(5) > 0) {
            v = plain.inWith(lot.nextInt(plain.count(1)), 1 << lot.nextInt(plain.count(0)), n).humours[h];
        }
        for (int i = lot.nextInt(40) == 0 ? 0 : 12; i < 13; i++) {
            due(seed, "seen(" + n + "," + h + "," + v + ")", it.seen(n, h, v), plain.seen(n, h, v));
        }
    }

    private void others(int seed, int kind) {
        int n = near(9);
        int k = near(9);
        switch (kind) {
            case 32: {
                int a = near(100);
                int b = lot.nextBoolean() ? near(100) : near(10);
                due(seed, "counter(" + a + "," + b + ")", it.counter(a, b), plain.counter(a, b));
                break;
            }
            case 33:
                due(seed, "right(" + n + "," + k + ")", it.right(n, k), plain.right(n, k));
                break;
            case 34:
                k = near(5);
                due(seed, "same(" + k + ")", it.same(k), plain.same(k));
                break;
            case 35: {
                int v = near(21);
                int c = near(6);
                due(seed, "rests(" + v + "," + c + ")", it.rests(v, c), plain.rests(v, c));
                break;
            }
            case 36:
                text(lot.nextInt(9) == 0 ? "" : lot.nextBoolean() ? goodRule() : spoilt(goodRule()));
                due(seed, "law()", it.law(), plain.law());
                break;
            case 37: {
                int s = lot.nextInt();
                n = near(61);
                due(seed, "years(" + s + "," + n + ")", it.years(s, n), plain.years(s, n));
                break;
            }
            case 38:
                k = near(2);
                due(seed, "keep(" + k + ")", it.keep(k) ? 1 : 0, plain.keep(k) ? 1 : 0);
                break;
            case 39:
                k = near(2);
                due(seed, "again(" + k + ")", it.again(k) ? 1 : 0, plain.again(k) ? 1 : 0);
                break;
            case 40: {
                int g = near(9);
                int what = near(7);
                due(seed, "ground(" + g + "," + what + ")", answer(() -> it.ground(g, what)).equals(answer(() -> plain.ground(g, what))) ? 1 : 0, 1);
                break;
            }
            case 41: {
                int p = near(7);
                int what = near(7);
                due(seed, "person(" + p + "," + what + ")", answer(() -> it.person(p, what)).equals(answer(() -> plain.person(p, what))) ? 1 : 0, 1);
                break;
            }
            case 42: {
                int p = person();
                int g = ground();
                due(seed, "held(" + p + "," + g + ")", it.held(p, g), plain.held(p, g));
                break;
            }
            default:
                for (int i = lot.nextInt(20) == 0 ? 0 : 19; i < 21; i++) {
                    n = lot.nextInt();
                    due(seed, "sign(" + n + ")", it.sign(n), plain.sign(n));
                }
                n = near(81);
                due(seed, "end(" + n + ")", it.end(n) ? 1 : 0, plain.end(n) ? 1 : 0);
        }
    }
}
