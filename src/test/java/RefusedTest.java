import java.util.ArrayList;
import java.util.List;
import java.util.NoSuchElementException;

/**
 * What "Terms" says of refused calls, of NONE ahead of other answers below 0, of THE ROW and of questions, for each call:
 * its numbers one too small, one too large, far off and off by a word's width, and the least and the greatest ones that it takes.
 */
public final class RefusedTest {
    private static final Check CHECK = new Check("refused");
    private static final int MIN = Integer.MIN_VALUE;
    private static final int MAX = Integer.MAX_VALUE;
    private static final int[] GROUND = {0, 2};
    private static final int[] PERSON = {0, 1};
    private static final int[] WANT = {0, 2};

    private interface Asks {
        long of(ReasonsSupplied x, int[] a);
    }

    public static void main(String[] args) {
        refusedActs();
        refusedQuestionsOfPeople();
        refusedQuestionsOfGrounds();
        refusedOthers();
        thrown();
        noneAheadOfOthers();
        sayWhyThereIsNone();
        textsAreEmptied();
        othersLeaveTheText();
        rowsOfNoCall();
        rowsOfEachCall();
        questionsChangeNothing();
        CHECK.end();
    }

    /** Three grounds, two people, three wants; acts, notes, a kept one, a ROW and a text of four signs. */
    private static ReasonsSupplied bureau() {
        ReasonsSupplied x = Check.bureau("329---;51-0--;70--5-", "15500;24567", "a>6;b<4a>5;c>9");
        x.gives(0, 0);
        x.gives(1, 1);
        x.makes(0, 3);
        x.days(1);
        x.keep(0);
        x.seen(1, 0, 6);
        x.later(0, 0, 1);
        Check.text(x, "d1g0");
        return x;
    }

    private static String shown(String name, int[] a) {
        StringBuilder all = new StringBuilder(name).append('(');
        for (int i = 0; i < a.length; i++) {
            all.append(i > 0 ? ", " : "").append(a[i]);
        }
        return all.append(')').toString();
    }

    /** It answers so and changes nothing: not what stands, not THE TEXT, not THE ROW. */
    private static void stays(String call, ReasonsSupplied x, Asks asks, int[] a, long want) {
        String standing = Check.standing(x);
        String row = Check.rowOf(x);
        CHECK.due(call, asks.of(x, a), want);
        CHECK.alike(call + " changes nothing", Check.standing(x), standing);
        CHECK.alike(call + ": the ROW stays", Check.rowOf(x), row);
    }

    private static List<Integer> outside(int[] range) {
        List<Integer> all = new ArrayList<>();
        for (int n : new int[] {range[0] - 1, range[1] + 1, range[0] - 32, range[1] + 32, range[0] - 256, range[1] + 256,
            range[0] - 65536, range[1] + 65536, MIN, MIN + range[0], MAX, MAX - range[1]}) {
            if (n < range[0] || n > range[1]) {
                all.add(n);
            }
        }
        return all;
    }

    /** The least numbers and the greatest are taken; each one outside is refused, whatever the others are. */
    private static void refuses(String name, long refusal, Asks asks, int[]... ranges) {
        int[] least = new int[ranges.length];
        int[] greatest = new int[ranges.length];
        for (int i = 0; i < ranges.length; i++) {
            least[i] = ranges[i][0];
            greatest[i] = ranges[i][1];
        }
        CHECK.due(shown(name, least) + " is refused", asks.of(bureau(), least) == refusal, false);
        CHECK.due(shown(name, greatest) + " is refused", asks.of(bureau(), greatest) == refusal, false);
        for (int i = 0; i < ranges.length; i++) {
            for (int bad : outside(ranges[i])) {
                for (int[] good : new int[][] {least, greatest}) {
                    int[] a = good.clone();
                    a[i] = bad;
                    stays(shown(name, a), bureau(), asks, a, refusal);
                }
            }
        }
    }

    private static void refusedActs() {
        refuses("3 end", 0, (x, a) -> x.end(a[0]) ? 1 : 0, new int[] {0, 4});
        refuses("10 held", -1, (x, a) -> x.held(a[0], a[1]), PERSON, GROUND);
        for (int f : new int[] {0, MIN, MAX}) {
            refuses("11 sheet of kind, f " + f, -1, (x, a) -> x.sheet(a[0], 1, f, f), new int[] {0, 3});
            refuses("11 sheet of kind, n below 0, f " + f, -1, (x, a) -> x.sheet(a[0], -1, f, f), new int[] {0, 3});
            for (int kind = 0; kind <= 3; kind++) {
                for (int n : new int[] {9, 32, 40, 264, 65536, MAX}) {
                    int[] a = {kind, n};
                    stays(shown("11 sheet", a), bureau(), (y, b) -> y.sheet(b[0], b[1], f, f), a, -1);
                }
                CHECK.due("11 sheet of 8", bureau().sheet(kind, 8, 0, 0), kind == 3 ? -3 : 0);
            }
        }
        refuses("12 gives", -1, (x, a) -> x.gives(a[0], a[1]), PERSON, GROUND);
        refuses("13 takesBack", -1, (x, a) -> x.takesBack(a[0], a[1]), PERSON, GROUND);
        refuses("14 makes", -1, (x, a) -> x.makes(a[0], a[1]), GROUND, new int[] {1, 99});
        refuses("15 days", -1, (x, a) -> x.days(a[0]), new int[] {0, 60});
        refuses("42 keep", 0, (x, a) -> x.keep(a[0]) ? 1 : 0, new int[] {0, 1});
        refuses("43 again", 0, (x, a) -> x.keep(1) && x.again(a[0]) ? 1 : 0, new int[] {0, 1});
        stays("17 undo() of none", Check.bureau("11----", "15555", "a<1"), (x, a) -> x.undo(), new int[0], -1);
        for (int n = 80; n > 76; n--) {
            stays("2 sign() with " + n, withSigns(n), (x, a) -> x.sign(MIN), new int[0], -1);
        }
        CHECK.due("2 sign() with 76", withSigns(76).sign(MIN), 80);
    }

    private static ReasonsSupplied withSigns(int n) {
        ReasonsSupplied x = bureau();
        for (int i = 0; i < 19; i++) {
            x.sign(i);
        }
        x.end(n);
        return x;
    }

    private static void refusedQuestionsOfPeople() {
        int[] far = {0, 99};
        refuses("18 later", -1, (x, a) -> x.later(a[0], a[1], a[2]), PERSON, new int[] {0, 3}, far);
        refuses("19 settles", -1, (x, a) -> x.settles(a[0]), PERSON);
        refuses("20 when", -1, (x, a) -> x.when(a[0], a[1]), PERSON, WANT);
        refuses("21 lacks", -1, (x, a) -> x.lacks(a[0], a[1]), PERSON, WANT);
        refuses("23 apart of the first", -1, (x, a) -> x.apart(a[0], 1, a[1]), new int[] {0, 0}, far);
        refuses("23 apart of the second", -1, (x, a) -> x.apart(1, a[0], a[1]), new int[] {0, 0}, far);
        for (int p : new int[] {0, 1, 2, -1, MIN, MAX}) {
            stays("23 apart of like ones " + p, bureau(), (x, a) -> x.apart(p, p, 0), new int[0], -1);
        }
        refuses("24 fewest", -1, (x, a) -> x.fewest(a[0], a[1], a[2]), PERSON, WANT, new int[] {0, 20});
        refuses("25 serves", -1, (x, a) -> x.serves(a[0], a[1]), PERSON, new int[] {0, 60});
        refuses("26 burdens", -1, (x, a) -> x.burdens(a[0], a[1]), PERSON, new int[] {0, 60});
        refuses("32 fits", -1, (x, a) -> x.fits(a[0]), PERSON);
        refuses("33 looks", -1, (x, a) -> x.looks(a[0], a[1]), PERSON, new int[] {0, 30});
    }

    private static void refusedQuestionsOfGrounds() {
        refuses("27 quarrels", -1, (x, a) -> x.quarrels(a[0]), new int[] {0, 9});
        refuses("28 peace", -1, (x, a) -> x.peace(a[0]), new int[] {0, 9});
        refuses("29 pulls", -1, (x, a) -> x.pulls(a[0]), new int[] {0, 7});
        for (int g = 3; g < 32; g++) {
            int[] some = {1 << g, 1 << g | 7};
            stays("29 pulls of bit " + g, bureau(), (x, a) -> x.pulls(a[0]), some, -1);
            stays("29 pulls of bit " + g + " and all", bureau(), (x, a) -> x.pulls(a[1]), some, -1);
        }
        refuses("34 covers", -1, (x, a) -> x.covers(a[0]), new int[] {0, 20});
        refuses("35 shares", -1, (x, a) -> x.shares(a[0]), new int[] {0, 20});
        refuses("38 same", -1, (x, a) -> x.same(a[0]), new int[] {1, 4});
    }

    private static void refusedOthers() {
        refuses("30 seen", -1, (x, a) -> x.seen(a[0], a[1], a[2]), new int[] {0, 30}, new int[] {0, 3}, new int[] {0, 9});
        ReasonsSupplied twelve = bureau();
        while (twelve.count(9) < 12) {
            twelve.seen(0, 0, 0);
        }
        stays("30 seen of a thirteenth", twelve, (x, a) -> x.seen(0, 0, 0), new int[0], -1);
        refuses("36 counter", -1, (x, a) -> x.counter(a[0], a[1]), new int[] {0, 99}, new int[] {0, 99});
        refuses("37 right", -1, (x, a) -> x.right(a[0], a[1]), new int[] {1, 8}, new int[] {0, 8});
        refuses("39 rests", -1, (x, a) -> x.rests(a[0], a[1]), new int[] {0, 20}, new int[] {0, 5});
        for (int seed : new int[] {0, -1, MIN, MAX}) {
            refuses("41 years of seed " + seed, -1, (x, a) -> x.years(seed, a[0]), new int[] {1, 60});
        }
        refuses("44 count", -1, (x, a) -> x.count(a[0]), new int[] {0, 12});
    }

    private static void thrown() {
        Asks ground = (x, a) -> x.ground(a[0], a[1]);
        Asks person = (x, a) -> x.person(a[0], a[1]);
        throwsOutside("8 ground", ground, GROUND, new int[] {0, 6});
        throwsOutside("9 person", person, PERSON, new int[] {0, 6});
        throwsOutside("45 row", (x, a) -> x.row(a[0]), new int[] {0, 4});
        ReasonsSupplied none = new ReasonsSupplied();
        CHECK.none("8 ground(0, 0) of none", () -> none.ground(0, 0));
        CHECK.none("9 person(0, 0) of none", () -> none.person(0, 0));
        CHECK.none("45 row(0) of none", () -> none.row(0));
    }

    private static void throwsOutside(String name, Asks asks, int[]... ranges) {
        refuses(name, MIN, (x, a) -> {
            try {
                return asks.of(x, a);
            } catch (NoSuchElementException e) {
                return MIN;
            }
        }, ranges);
    }

    /** One GROUND that does nothing, none of it in STOCK; a WANT that is not had. */
    private static ReasonsSupplied bare() {
        ReasonsSupplied x = Check.bureau("10----", "15555", "a<1");
        x.pulls(1);
        return x;
    }

    /** Where -2 or -3 would be due too, NONE is asked first. */
    private static void noneAheadOfOthers() {
        int[] no = {};
        stays("24 fewest: by none, in 21 days", bare(), (y, a) -> y.fewest(0, 0, 21), no, -1);
        stays("24 fewest: by none", bare(), (y, a) -> y.fewest(0, 0, 20), no, -2);
        stays("25 serves: no such GROUND, in 61 days", bare(), (y, a) -> y.serves(0, 61), no, -1);
        stays("25 serves: no such GROUND, in -1 days", bare(), (y, a) -> y.serves(0, -1), no, -1);
        stays("25 serves: no such GROUND", bare(), (y, a) -> y.serves(0, 60), no, -2);
        stays("26 burdens: it HOLDS none, in 61 days", bare(), (y, a) -> y.burdens(0, 61), no, -1);
        stays("26 burdens: it HOLDS none", bare(), (y, a) -> y.burdens(0, 60), no, -2);
        stays("34 covers: by none, in 21 days", bare(), (y, a) -> y.covers(21), no, -1);
        stays("34 covers: by none", bare(), (y, a) -> y.covers(20), no, -2);
        stays("36 counter(0, 100)", bare(), (y, a) -> y.counter(0, 100), no, -1);
        stays("36 counter(100, 0)", bare(), (y, a) -> y.counter(100, 0), no, -1);
        stays("36 counter(0, -1)", bare(), (y, a) -> y.counter(0, -1), no, -1);
        stays("36 counter(-1, 0)", bare(), (y, a) -> y.counter(-1, 0), no, -1);
        stays("38 same(5) of none", bare(), (y, a) -> y.same(5), no, -1);
        stays("38 same(0) of none", bare(), (y, a) -> y.same(0), no, -1);
        stays("38 same(1) of none", bare(), (y, a) -> y.same(1), no, -2);
        stays("10 held of none such", bare(), (y, a) -> y.held(0, 1), no, -1);
        stays("12 gives of none such", bare(), (y, a) -> y.gives(1, 0), no, -1);
        stays("12 gives of none in STOCK", bare(), (y, a) -> y.gives(0, 0), no, -3);
        stays("13 takesBack of none such", bare(), (y, a) -> y.takesBack(1, 0), no, -1);
        ReasonsSupplied x = bare();
        x.seen(0, 0, 0);
        stays("33 looks: none fits, in 31 days", x, (y, a) -> y.looks(0, 31), no, -1);
        stays("33 looks: none fits", x, (y, a) -> y.looks(0, 30), no, -2);
        stays("11 sheet of another kind, n below 0", x, (y, a) -> y.sheet(4, -1, 0, 0), no, -1);
        x.makes(0, 5);
        stays("11 sheet that is missing, n 9", x, (y, a) -> y.sheet(3, 9, 0, 0), no, -1);
    }

    /** Numbers below 0 that tell why there is no answer leave THE ROW and change nothing. */
    private static void sayWhyThereIsNone() {
        int[] no = {};
        stays("10 held", bureau(), (y, a) -> y.held(0, 1), no, -2);
        for (int kind = 0; kind <= 2; kind++) {
            int[] a = {kind};
            stays("11 sheet of n below 0", bureau(), (y, b) -> y.sheet(b[0], -1, 7, 0), a, -2);
            stays("11 sheet of n far below 0", bureau(), (y, b) -> y.sheet(b[0], MIN, 7, 0), a, -2);
        }
        stays("12 gives what it HOLDS", bureau(), (y, a) -> y.gives(0, 0), no, -2);
        stays("12 gives what it HOLDS, none in STOCK", bureau(), (y, a) -> y.gives(1, 1), no, -2);
        stays("12 gives, none in STOCK", bureau(), (y, a) -> y.gives(1, 2), no, -3);
        stays("13 takesBack what it does not HOLD", bureau(), (y, a) -> y.takesBack(0, 1), no, -2);
        stays("20 when: in none", bureau(), (y, a) -> y.when(0, 2), no, -2);
        stays("24 fewest: by none", bureau(), (y, a) -> y.fewest(0, 2, 20), no, -2);
        stays("34 covers: by none", bureau(), (y, a) -> y.covers(20), no, -2);
        stays("36 counter(0, 1)", bureau(), (y, a) -> y.counter(0, 1), no, -2);
        stays("36 counter(1, 0)", bureau(), (y, a) -> y.counter(1, 0), no, -2);
        stays("36 counter(0, 0)", bureau(), (y, a) -> y.counter(0, 0), no, -2);
        ReasonsSupplied x = bureau();
        x.end(0);
        Check.rule(x, "1-2*(v>5)");
        Check.text(x, "d1g0");
        stays("19 settles: in none", x, (y, a) -> y.settles(0), no, -2);
        ReasonsSupplied bare = Check.bureau("11----", "", "a<1");
        bare.counter(4, 2);
        stays("22 richest: no PEOPLE", bare, (y, a) -> y.richest(), no, -2);
        ReasonsSupplied missing = bureau();
        String row = Check.rowOf(missing);
        CHECK.due("11 a missing sheet", missing.sheet(3, 8, 9, 9), -3);
        CHECK.due("11 a missing sheet: all 0", missing.count(5), 0);
        CHECK.alike("11 a missing sheet: the ROW stays", Check.rowOf(missing), row);
    }

    private interface Reads {
        int answer(ReasonsSupplied x);
    }

    /** A call that can read THE TEXT empties it, whatever it answers; refused, it changes nothing else. */
    private static void textsAreEmptied() {
        String[] names = {"4 grounds", "5 people", "6 wants", "7 rule", "16 year", "40 law"};
        Reads[] calls = {ReasonsSupplied::grounds, ReasonsSupplied::people, ReasonsSupplied::wants, ReasonsSupplied::rule,
            ReasonsSupplied::year, ReasonsSupplied::law};
        String[] good = {"10----", "15555", "a<1", "v+1", "d1", "v+1"};
        String[][] wrong = {{"x", "10---", "10----;", "10----x"}, {"x", "1555", "15555;", "155555"}, {"x", "a<", "a<1;", "a<1b<1c<1d"},
            {"x", "v+", "12345", "(v"}, {"x", "g0", "d1m00", "d1g0x"}, {"x", "v+", "12345", "(v"}};
        int[][] slips = {{0, 5, 7, 6}, {0, 4, 6, 5}, {0, 2, 4, 9}, {0, 2, 3, 2}, {0, 2, 4, 4}, {0, 2, 3, 2}};
        for (int i = 0; i < calls.length; i++) {
            int first = i == 5 ? -10000 : -1;
            for (int k = 0; k < wrong[i].length; k++) {
                ReasonsSupplied x = bureau();
                x.end(0);
                String standing = Check.standing(x);
                String row = Check.rowOf(x);
                Check.text(x, wrong[i][k]);
                CHECK.due(names[i] + " of " + wrong[i][k], calls[i].answer(x), first - slips[i][k]);
                CHECK.due(names[i] + " of " + wrong[i][k] + " empties THE TEXT", x.count(12), 0);
                CHECK.alike(names[i] + " of " + wrong[i][k] + " changes nothing", Check.standing(x), standing);
                CHECK.alike(names[i] + " of " + wrong[i][k] + ": the ROW stays", Check.rowOf(x), row);
            }
            for (String text : new String[] {good[i], ""}) {
                ReasonsSupplied x = bureau();
                Check.text(x, text);
                CHECK.due(names[i] + " of " + text, calls[i].answer(x), i == 3 || i == 5 || text.isEmpty() ? 0 : 1);
                CHECK.due(names[i] + " of " + text + " empties THE TEXT", x.count(12), 0);
            }
        }
    }

    private static String[] callNames() {
        return new String[] {"ground", "person", "held", "sheet", "sheet, missing", "gives", "takesBack", "makes", "days", "undo", "later", "settles", "when",
            "lacks", "richest", "apart", "fewest", "serves", "burdens", "quarrels", "peace", "pulls", "seen", "forget", "fits", "looks",
            "covers", "shares", "counter", "right", "same", "rests", "years", "keep", "again", "count", "row"};
    }

    private static long call(ReasonsSupplied x, String name) {
        switch (name) {
            case "ground": return x.ground(0, 0);
            case "person": return x.person(0, 0);
            case "held": return x.held(0, 0);
            case "sheet": return x.sheet(2, 3, 1, 1);
            case "sheet, missing": return x.sheet(3, 0, 0, 0);
            case "gives": return x.gives(1, 0);
            case "takesBack": return x.takesBack(0, 0);
            case "makes": return x.makes(2, 7);
            case "days": return x.days(3);
            case "undo": return x.undo();
            case "keep": return x.keep(1) ? 1 : 0;
            case "again": return x.again(0) ? 1 : 0;
            case "count": return x.count(0);
            case "row": return x.row(0);
            case "seen": return x.seen(2, 2, 2);
            case "forget": return x.forget();
            default: return question(x, name);
        }
    }

    private static long question(ReasonsSupplied x, String name) {
        switch (name) {
            case "later": return x.later(1, 3, 99);
            case "settles": return x.settles(0);
            case "when": return x.when(0, 0);
            case "lacks": return x.lacks(0, 2);
            case "richest": return x.richest();
            case "apart": return x.apart(0, 1, 99);
            case "fewest": return x.fewest(1, 1, 20);
            case "serves": return x.serves(1, 60);
            case "burdens": return x.burdens(1, 60);
            case "quarrels": return x.quarrels(0);
            case "peace": return x.peace(0);
            case "pulls": return x.pulls(7);
            case "fits": return x.fits(0);
            case "looks": return x.looks(1, 30);
            case "covers": return x.covers(20);
            case "shares": return x.shares(20);
            case "counter": return x.counter(9, 4);
            case "right": return x.right(8, 3);
            case "same": return x.same(2);
            case "rests": return x.rests(9, 1);
            default: return x.years(77, 60);
        }
    }

    /** THE TEXT stays with each call that does not read it. */
    private static void othersLeaveTheText() {
        for (String name : callNames()) {
            ReasonsSupplied x = bureau();
            call(x, name);
            CHECK.due(name + " leaves THE TEXT", x.count(12), 4);
            x.end(2);
            CHECK.due(name + " leaves its signs", x.year(), 1);
        }
    }

    /** THE ROW stays with calls that tell none, done or not. */
    private static void rowsOfNoCall() {
        for (String name : new String[] {"ground", "person", "held", "sheet", "gives", "takesBack", "makes", "undo", "seen", "forget",
            "keep", "again", "count", "row"}) {
            ReasonsSupplied x = bureau();
            String row = Check.rowOf(x);
            CHECK.due(name + " is done", call(x, name) > 0 || name.equals("takesBack"), true);
            CHECK.alike(name + " tells no ROW", Check.rowOf(x), row);
        }
        ReasonsSupplied x = bureau();
        String row = Check.rowOf(x);
        x.sign(1);
        x.end(0);
        CHECK.due("4 done", Check.grounds(x, "11----"), 1);
        CHECK.due("5 done", Check.people(x, "15555"), 1);
        CHECK.due("6 done", Check.wants(x, "a<1"), 1);
        CHECK.due("7 done", Check.rule(x, "1"), 0);
        CHECK.alike("texts tell no ROW, but for year() and law()", Check.rowOf(x), row);
    }

    /** How many numbers each call tells: what an earlier, longer ROW had is not there any more. */
    private static void rowsOfEachCall() {
        String[] names = {"days", "later", "settles", "when", "lacks", "richest", "apart", "fewest", "serves", "burdens", "quarrels",
            "peace", "pulls", "fits", "looks", "covers", "shares", "counter", "right", "same", "rests", "years"};
        int[] many = {2, 5, 4, 1, 1, 2, 4, 2, 2, 1, 0, 1, 4, 2, 1, 1, 2, 1, 2, 2, 2, 2};
        for (int i = 0; i < names.length; i++) {
            // covers() has no answer where a WANT can't be had at all.
            ReasonsSupplied x = names[i].equals("covers") ? Check.bureau("119---", "15555", "a>5") : bureau();
            x.forget();
            x.later(0, 0, 1);
            CHECK.due(names[i] + " has an answer", call(x, names[i]) >= 0, true);
            CHECK.due(names[i] + ": numbers of the ROW", x.count(11), many[i]);
        }
        ReasonsSupplied x = bureau();
        Check.year(x, "d1");
        CHECK.due("16 year(): numbers of the ROW", x.count(11), 2);
        x.later(0, 0, 0);
        Check.law(x, "");
        CHECK.due("40 law(): numbers of the ROW", x.count(11), 2);
        x.later(0, 0, 0);
        x.quarrels(9);
        CHECK.due("27 quarrels() of none: numbers of the ROW", x.count(11), 0);
        x.later(0, 0, 0);
        x.counter(3, 2);
        CHECK.due("36 counter() of who loses: numbers of the ROW", x.count(11), 0);
    }

    /** What stands, what can be undone, what was kept and seen, THE RULE: all go on as if nothing had been asked. */
    private static void questionsChangeNothing() {
        String[] names = {"later", "settles", "when", "lacks", "richest", "apart", "fewest", "serves", "burdens", "quarrels", "peace",
            "pulls", "fits", "looks", "covers", "shares", "counter", "right", "same", "rests", "years"};
        for (String name : names) {
            ReasonsSupplied asked = bureau();
            String standing = Check.standing(asked);
            question(asked, name);
            CHECK.alike(name + " changes nothing", Check.standing(asked), standing);
            goesOnAlike(name, asked);
        }
        for (String law : new String[] {"", "9", "v*"}) {
            ReasonsSupplied asked = bureau();
            Check.law(asked, law);
            Check.text(asked, "d1g0");
            CHECK.alike("law changes nothing", Check.standing(asked), Check.standing(bureau()));
            goesOnAlike("law", asked);
        }
    }

    private static void goesOnAlike(String name, ReasonsSupplied asked) {
        ReasonsSupplied plain = bureau();
        for (int step = 0; step < 8; step++) {
            long got = step(asked, step);
            long want = step(plain, step);
            CHECK.due(name + ": step " + step + " behind it", got, want);
            CHECK.alike(name + ": the ROW of step " + step, Check.rowOf(asked), Check.rowOf(plain));
            if (step % 2 == 1) {
                CHECK.alike(name + ": behind step " + step, Check.standing(asked), Check.standing(plain));
            }
        }
    }

    private static long step(ReasonsSupplied x, int step) {
        switch (step) {
            case 0: return x.fits(0);
            case 1: return x.years(5, 60);
            case 2: return x.gives(1, 0);
            case 3: return x.days(2);
            case 4: return x.undo() * 10 + x.undo();
            case 5: return x.undo();
            case 6: return x.year();
            default: return x.again(0) ? 1 : 0;
        }
    }
}
