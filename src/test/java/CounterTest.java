/** Promises 36 to 41: the counter, envelopes, rests, rules and years. */
public final class CounterTest {
    private static final Check CHECK = new Check("counter");

    public static void main(String[] args) {
        counter();
        right();
        same();
        rests();
        law();
        years();
        yearsOfNothing();
        CHECK.end();
    }

    private static void counter() {
        for (int a = 1; a <= 99; a++) {
            ReasonsSupplied y = new ReasonsSupplied();
            for (int b = 1; b <= 99; b++) {
                CHECK.due("36 counter(" + a + ", " + b + ")", y.counter(a, b), goldenWins(a, b));
            }
        }
        ReasonsSupplied x = new ReasonsSupplied();
        int[][] mine = {{1, 1, 1}, {99, 99, 1}, {2, 1, 2}, {1, 2, 2}, {4, 2, 2}, {2, 4, 2}, {5, 2, 1}, {99, 33, 3}, {8, 3, 2}};
        for (int[] m : mine) {
            CHECK.due("36 counter(" + m[0] + ", " + m[1] + ")", x.counter(m[0], m[1]), 1);
            CHECK.row(x, "36 counter(" + m[0] + ", " + m[1] + ")", m[2]);
        }
        // With 7 and 2: 5 and 2, 1 and 2 are won by the other, 3 and 2 is lost to him.
        CHECK.due("36 counter(7, 2)", x.counter(7, 2), 1);
        CHECK.row(x, "36 counter(7, 2)", 2);
        CHECK.due("36 counter(3, 2)", x.counter(3, 2), 0);
        CHECK.row(x, "36 nothing, if he loses");
        CHECK.due("36 counter(2, 3)", x.counter(2, 3), 0);
        CHECK.due("36 counter(0, 3)", x.counter(0, 3), -2);
        CHECK.due("36 counter(3, 0)", x.counter(3, 0), -2);
        CHECK.due("36 counter(0, 0)", x.counter(0, 0), -2);
        CHECK.due("36 counter(100, 0)", x.counter(100, 0), -1);
        CHECK.due("36 counter(0, 100)", x.counter(0, 100), -1);
        CHECK.due("36 counter(-1, 1)", x.counter(-1, 1), -1);
        CHECK.due("36 counter(1, -1)", x.counter(1, -1), -1);
    }

    /** It is known of this game that one wins just if the heaps are like or are more apart than by the golden number. */
    private static int goldenWins(int a, int b) {
        double more = Math.max(a, b) / (double) Math.min(a, b);
        return a == b || more > (1 + Math.sqrt(5)) / 2 ? 1 : 0;
    }

    private static void right() {
        ReasonsSupplied x = new ReasonsSupplied();
        int[][] due = {{1, 0, 0, 1}, {1, 1, 1, 1}, {2, 0, 1, 2}, {2, 1, 0, 1}, {2, 2, 1, 2}, {3, 0, 1, 3}, {3, 1, 1, 2}, {4, 0, 3, 8},
            {4, 2, 1, 4}, {5, 1, 3, 8}, {8, 0, 2119, 5760}, {8, 7, 0, 1}, {8, 8, 1, 40320}, {3, 4, 0, 1}, {1, 8, 0, 1}};
        for (int[] d : due) {
            CHECK.due("37 right(" + d[0] + ", " + d[1] + ")", x.right(d[0], d[1]), 0);
            CHECK.row(x, "37 right(" + d[0] + ", " + d[1] + ")", d[2], d[3]);
        }
        CHECK.due("37 right(0, 0)", x.right(0, 0), -1);
        CHECK.due("37 right(9, 0)", x.right(9, 0), -1);
        CHECK.due("37 right(1, 9)", x.right(1, 9), -1);
        CHECK.due("37 right(1, -1)", x.right(1, -1), -1);
        CHECK.row(x, "37 the ROW stays", 0, 1);
    }

    private static void same() {
        ReasonsSupplied x = Check.bureau("12----;13----;10----", "15555", "a>5");
        CHECK.due("38 same(1)", x.same(1), 0);
        CHECK.row(x, "38 same(1)", 1, 1);
        CHECK.due("38 same(2)", x.same(2), 0);
        CHECK.row(x, "38 same(2)", 2, 5);
        CHECK.due("38 same(3)", x.same(3), 0);
        CHECK.row(x, "38 same(3)", 1, 10);
        CHECK.due("38 same(4)", x.same(4), 0);
        CHECK.row(x, "38 same(4)", 0, 1);
        CHECK.due("38 same(0)", x.same(0), -1);
        CHECK.due("38 same(5)", x.same(5), -1);
        x.gives(0, 0);
        x.gives(0, 1);
        CHECK.due("38 those in STOCK", x.same(2), 0);
        CHECK.row(x, "38 those in STOCK", 1, 3);
        CHECK.due("38 not so many", x.same(4), -2);
        CHECK.row(x, "38 the ROW stays", 1, 3);
        CHECK.due("38 just so many", x.same(3), 0);
        CHECK.row(x, "38 just so many", 0, 1);
        CHECK.due("38 none", new ReasonsSupplied().same(1), -2);
        ReasonsSupplied y = Check.bureau("11----;11----;11----;11----;11----;11----;11----;11----", "15555", "a>5");
        y.sheet(2, 8, 99, 0);
        CHECK.due("38 all 99", y.same(4), 0);
        // 98 97 96 by 791 790 789, by 42 both.
        CHECK.row(y, "38 all 99", 21728, 11739005);
    }

    private static void rests() {
        ReasonsSupplied x = new ReasonsSupplied();
        CHECK.due("39 rests(0, 0)", x.rests(0, 0), 19);
        CHECK.row(x, "39 rests(0, 0)", 0, 0);
        // At cost 1 he brings just what is asked, up to v, or nothing from v on.
        CHECK.due("39 rests(3, 1)", x.rests(3, 1), 4 + 7);
        CHECK.row(x, "39 rests(3, 1)", 0, 0);
        CHECK.due("39 rests(20, 1)", x.rests(20, 1), 10);
        CHECK.row(x, "39 rests(20, 1)", 0, 0);
        CHECK.due("39 rests(0, 1)", x.rests(0, 1), 10);
        CHECK.row(x, "39 rests(0, 1)", 0, 0);
        CHECK.due("39 rests(20, 5)", x.rests(20, 5), 5 + 6);
        CHECK.due("39 rests(21, 0)", x.rests(21, 0), -1);
        CHECK.due("39 rests(-1, 0)", x.rests(-1, 0), -1);
        CHECK.due("39 rests(0, 6)", x.rests(0, 6), -1);
        CHECK.due("39 rests(0, -1)", x.rests(0, -1), -1);
    }

    private static void law() {
        ReasonsSupplied x = Check.bureau("199---", "15555;25555", "a>5;a>8");
        x.gives(0, 0);
        CHECK.due("40 none: the same", Check.law(x, ""), 0);
        CHECK.row(x, "40 none: the same", 2, 2);
        CHECK.due("40 below 0", Check.law(x, "0"), -2);
        CHECK.row(x, "40 below 0", 0, 2);
        CHECK.due("40 in 10 DAYS", Check.law(x, "d>8"), 1 - 2);
        CHECK.row(x, "40 in 10 DAYS", 1, 2);
        CHECK.due("40 not in 11", Check.law(x, "(d>9)*9"), 0 - 2);
        CHECK.due("40 n goes on", Check.law(x, "n=6"), 1 - 2);
        Check.rule(x, "0");
        CHECK.due("40 above 0", Check.law(x, "9"), 2);
        CHECK.row(x, "40 above 0", 2, 0);
        CHECK.due("40 none", Check.law(x, ""), 2);
        CHECK.due("40 THE RULE stays", x.later(0, 0, 9), 5);
        CHECK.due("40 DAY stays", x.count(3), 0);
        CHECK.row(x, "40 a ROW", 5, 5, 5, 5, 0);
        CHECK.due("40 a wrong one", Check.law(x, "v+"), -10002);
        CHECK.due("40 a wrong one", Check.law(x, "x"), -10000);
        CHECK.due("40 too long a one", Check.law(x, "v+v+v+v+v+v+v+v+v+v+v+v+v+v+v+v+v+v+v+v+v"), -10040);
        CHECK.due("40 THE TEXT is empty then", x.count(12), 0);
        CHECK.row(x, "40 the ROW stays", 5, 5, 5, 5, 0);
        CHECK.due("40 THE RULE stays", x.later(0, 0, 9), 5);
    }

    /** The same draws, done by the calls themselves. */
    private static void years() {
        for (int seed = -40; seed <= 40; seed++) {
            ReasonsSupplied x = Check.bureau("199---;12-9--;130-0-", "15555;25555;36666", "a>5;a>8;b>6c<5");
            int n = 1 + Math.abs(seed * 7) % 60;
            Check.rule(x, seed % 2 == 0 ? "" : "((t>v)-(t<v))*(n<3)");
            x.gives(0, 2);
            int had = x.years(seed, n);
            long humours = x.row(0);
            long held = x.row(1);
            CHECK.due("41 numbers of the ROW", x.count(11), 2);
            CHECK.due("41 DAY stays", x.count(3), 0);
            CHECK.due("41 SIGNED stays", x.count(4), 1);
            CHECK.due("41 held stay", x.count(6), 1);
            CHECK.due("41 HUMOURS stay", x.count(8), 64);
            CHECK.due("41 it is no act", x.count(10), 1);
            int r = seed;
            for (int i = 0; i < n; i++) {
                r = r * 1103515245 + 12345;
                int what = (r >>> 16) % 4;
                if (what < 2) {
                    x.days(1);
                    continue;
                }
                r = r * 1103515245 + 12345;
                int p = (r >>> 16) % 3;
                r = r * 1103515245 + 12345;
                int g = (r >>> 16) % 3;
                int answer = what == 2 ? x.gives(p, g) : x.takesBack(p, g);
            }
            CHECK.due("41 years(" + seed + ", " + n + ")", had, x.count(7));
            CHECK.due("41 HUMOURS", humours, x.count(8));
            CHECK.due("41 held", held, x.count(6));
        }
    }

    private static void yearsOfNothing() {
        ReasonsSupplied x = new ReasonsSupplied();
        CHECK.due("41 of nothing", x.years(5, 60), 0);
        CHECK.row(x, "41 of nothing", 0, 0);
        CHECK.due("41 years(1, 0)", x.years(1, 0), -1);
        CHECK.due("41 years(1, 61)", x.years(1, 61), -1);
        CHECK.due("41 years(1, -1)", x.years(1, -1), -1);
        CHECK.row(x, "41 the ROW stays", 0, 0);
        Check.people(x, "15555");
        CHECK.due("41 without GROUNDS", x.years(-7, 60), 0);
        CHECK.row(x, "41 without GROUNDS", 20, 0);
        ReasonsSupplied y = Check.bureau("19999-", "", "a>5");
        CHECK.due("41 without PEOPLE", y.years(-7, 60), 0);
        CHECK.row(y, "41 without PEOPLE", 0, 0);
        Check.people(y, "15555");
        long held = 0;
        for (int seed = 0; seed < 20; seed++) {
            y.years(seed, 5);
            held += y.row(1);
        }
        CHECK.due("41 one of each is given to now and then", held > 0 && held < 20, true);
    }
}
