import java.util.Arrays;
import java.util.NoSuchElementException;

/** A bureau that supplies people with reasons; ../shared/DOC.md says what each call promises. */
public final class ReasonsSupplied {
    public static final int NONE = -1;

    private static final int WITHOUT = -2;
    private static final int MISSING = -3;
    private static final int FINE = -1;
    private static final int HUMOURS = 4;
    private static final int TOP_HUMOUR = 9;
    private static final int MOST_GROUNDS = 8;
    private static final int MOST_PEOPLE = 6;
    private static final int MOST_WANTS = 6;
    private static final int MOST_TERMS = 3;
    private static final int MOST_SIGNS = 80;
    private static final int MOST_STOCK = 99;
    private static final int MOST_DAYS_HELD = 99;
    private static final int MOST_SIGNED = 9999;
    private static final int FARTHEST = 99;
    private static final int GROUND_SIGNS = 6;
    private static final int PERSON_SIGNS = 5;
    private static final int MISSING_SHEET = 3;
    private static final int LAW_SLIP = -10000;
    private static final int LAW_DAYS = 10;
    private static final int MOST_TURNS = 1000;

    private final Signs text = new Signs();
    private final LineForm groundForm = new LineForm(GROUND_SIGNS, 2, 55);
    private final LineForm personForm = new LineForm(PERSON_SIGNS, PERSON_SIGNS, 35);
    private final WantForm wantForm = new WantForm();
    private final YearForm yearForm = new YearForm();
    private final Past past = new Past();
    private final Numbers told;
    private final Files files;
    private final Standing now;
    private final Standing then;
    private final Outlook outlook;

    public ReasonsSupplied() {
        Numbers numbers = new Numbers();
        Files facts = new Files();
        Standing present = new Standing(facts);
        Standing tried = new Standing(facts);
        outlook = new Outlook(facts, present, tried, numbers);
        told = numbers;
        files = facts;
        now = present;
        then = tried;
    }

    // ---- grounds, people, wants

    public int sign(int v) {
        return text.add(v) ? text.size() : NONE;
    }

    public boolean end(int n) {
        return text.cut(n);
    }

    public int grounds() {
        int answer = readGrounds();
        text.cut(0);
        return answer;
    }

    private int readGrounds() {
        if (text.size() == 0) {
            return 0;
        }
        int slip = groundForm.slip(text, MOST_GROUNDS - files.groundSize());
        if (slip != FINE) {
            return -1 - slip;
        }
        int lines = groundForm.lines();
        for (int i = 0; i < lines; i++) {
            int at = i * (GROUND_SIGNS + 1);
            now.putStock(files.groundSize(), text.digitAt(at + 1));
            files.addGround(text, at);
        }
        past.forgetAll();
        return lines;
    }

    public int people() {
        int answer = readPeople();
        text.cut(0);
        return answer;
    }

    private int readPeople() {
        if (text.size() == 0) {
            return 0;
        }
        int slip = personForm.slip(text, MOST_PEOPLE - files.personSize());
        if (slip != FINE) {
            return -1 - slip;
        }
        int lines = personForm.lines();
        for (int i = 0; i < lines; i++) {
            int at = i * (PERSON_SIGNS + 1);
            for (int h = 0; h < HUMOURS; h++) {
                now.putHumour(files.personSize(), h, text.digitAt(at + 1 + h));
            }
            files.addPerson(text.digitAt(at));
        }
        past.forgetAll();
        return lines;
    }

    public int wants() {
        int answer = readWants();
        text.cut(0);
        return answer;
    }

    private int readWants() {
        if (text.size() == 0) {
            return 0;
        }
        int slip = wantForm.slip(text, MOST_WANTS - files.wantSize());
        if (slip != FINE) {
            return -1 - slip;
        }
        files.addWants(text);
        past.forgetAll();
        return wantForm.lines();
    }

    public int rule() {
        int slip = files.otherRule().read(text);
        text.cut(0);
        if (slip != FINE) {
            return -1 - slip;
        }
        files.takeOtherRule();
        return 0;
    }

    public int ground(int ground, int what) throws NoSuchElementException {
        if (!files.hasGround(ground) || !within(what, 0, 6)) {
            throw new NoSuchElementException();
        }
        if (what == 0) {
            return files.gradeOf(ground);
        }
        if (what == 1) {
            return now.stockOf(ground);
        }
        return what == 6 ? now.holdersOf(ground) : files.pullOf(ground, what - 2);
    }

    public int person(int person, int what) throws NoSuchElementException {
        if (!files.hasPerson(person) || !within(what, 0, 6)) {
            throw new NoSuchElementException();
        }
        if (what == 0) {
            return files.strengthOf(person);
        }
        if (what == 5) {
            return now.groundsOf(person);
        }
        return what == 6 ? now.wantsOf(person) : now.humourOf(person, what - 1);
    }

    public int held(int person, int ground) {
        if (!files.hasPerson(person) || !files.hasGround(ground)) {
            return NONE;
        }
        return now.holds(person, ground) ? now.daysHeld(person, ground) : WITHOUT;
    }

    public int sheet(int kind, int n, int f, int step) {
        if (!within(kind, 0, MISSING_SHEET) || n > MOST_GROUNDS) {
            return NONE;
        }
        if (kind != MISSING_SHEET && n < 0) {
            return WITHOUT;
        }
        for (int g = 0; g < files.groundSize(); g++) {
            boolean listed = kind != MISSING_SHEET && g < n;
            now.putStock(g, listed ? clamp(narrowed(kind, f + g * step), 0, MOST_STOCK) : 0);
        }
        return kind == MISSING_SHEET ? MISSING : now.stockOfAll();
    }

    private static int narrowed(int kind, int entry) {
        if (kind == 0) {
            return (byte) entry;
        }
        return kind == 1 ? (short) entry : entry;
    }

    // ---- the bureau

    public int gives(int person, int ground) {
        then.copy(now);
        return rememberedIfDone(now.give(person, ground));
    }

    public int takesBack(int person, int ground) {
        then.copy(now);
        return rememberedIfDone(now.takeBack(person, ground));
    }

    public int makes(int ground, int n) {
        then.copy(now);
        return rememberedIfDone(now.make(ground, n));
    }

    /** An act that answers below 0 was not done, so nothing of it can be undone. */
    private int rememberedIfDone(int answer) {
        if (answer >= 0) {
            past.remember(then);
        }
        return answer;
    }

    public int days(int n) {
        if (!within(n, 0, 60)) {
            return NONE;
        }
        if (n > 0) {
            past.remember(now);
        }
        int came = now.spend(n, files.presentRule());
        told.start();
        told.add(now.humoursOfAll());
        told.add(came);
        return now.wantsOfAll();
    }

    public int year() {
        int answer = readYear();
        text.cut(0);
        return answer;
    }

    private int readYear() {
        int slip = text.size() == 0 ? FINE : yearForm.slip(text, 0);
        if (slip != FINE) {
            return -1 - slip;
        }
        then.copy(now);
        int done = 0;
        int at = 0;
        boolean can = true;
        while (can && at < text.size()) {
            can = act(at) >= 0;
            done += can ? 1 : 0;
            at += text.at(at) == 'd' ? 2 : 3;
        }
        if (done > 0) {
            past.remember(then);
        }
        told.start();
        told.add(can ? 0 : 1);
        told.add(now.wantsOfAll());
        return done;
    }

    private int act(int at) {
        int first = text.digitAt(at + 1);
        int second = text.digitAt(at + 2);
        switch (text.at(at)) {
            case 'g':
                return now.give(first, second);
            case 't':
                return now.takeBack(first, second);
            case 'm':
                return now.make(first, second);
            default:
                return now.spend(first, files.presentRule());
        }
    }

    public int undo() {
        return past.bringBack(now) ? past.size() : NONE;
    }

    // ---- later

    public int later(int person, int humour, int n) {
        if (!files.hasPerson(person) || !within(humour, 0, HUMOURS - 1) || !within(n, 0, FARTHEST)) {
            return NONE;
        }
        then.copy(now);
        then.pass(person, n, files.presentRule());
        tellHumours(person);
        told.add(then.wantsOf(person));
        return then.humourOf(person, humour);
    }

    private void tellHumours(int person) {
        told.start();
        for (int h = 0; h < HUMOURS; h++) {
            told.add(then.humourOf(person, h));
        }
    }

    public int settles(int person) {
        if (!files.hasPerson(person)) {
            return NONE;
        }
        then.copy(now);
        for (int n = 0; n <= FARTHEST; n++) {
            int before = then.humoursTogether(person);
            then.pass(person, 1, files.presentRule());
            if (then.humoursTogether(person) == before) {
                tellHumours(person);
                return n;
            }
        }
        return WITHOUT;
    }

    public int when(int person, int want) {
        if (!files.hasPerson(person) || !files.hasWant(want)) {
            return NONE;
        }
        then.copy(now);
        for (int n = 0; n <= FARTHEST; n++) {
            int had = then.wantsOf(person);
            if (isIn(want, had)) {
                told.start();
                told.add(Integer.bitCount(had));
                return n;
            }
            then.pass(person, 1, files.presentRule());
        }
        return WITHOUT;
    }

    public int lacks(int person, int want) {
        if (!files.hasPerson(person) || !files.hasWant(want)) {
            return NONE;
        }
        int missing = 0;
        int off = 0;
        for (int t = 0; t < files.termsOf(want); t++) {
            int more = files.offBy(want, t, now.humourOf(person, files.humourOfTerm(want, t)));
            missing |= more > 0 ? 1 << t : 0;
            off += more;
        }
        told.start();
        told.add(off);
        return missing;
    }

    public int richest() {
        int best = WITHOUT;
        int most = -1;
        int unhad = files.allWants();
        for (int p = 0; p < files.personSize(); p++) {
            int had = now.wantsOf(p);
            unhad &= ~had;
            if (Integer.bitCount(had) > most) {
                most = Integer.bitCount(had);
                best = p;
            }
        }
        if (best >= 0) {
            told.start();
            told.add(now.wantsOf(best));
            told.add(unhad);
        }
        return best;
    }

    public int apart(int one, int other, int n) {
        if (!files.hasPerson(one) || !files.hasPerson(other) || one == other || !within(n, 0, FARTHEST)) {
            return NONE;
        }
        then.copy(now);
        then.passAll(n, files.presentRule());
        int sum = 0;
        told.start();
        for (int h = 0; h < HUMOURS; h++) {
            int less = then.humourOf(one, h) - then.humourOf(other, h);
            told.add(less);
            sum += Math.abs(less);
        }
        return sum;
    }

    // ---- which grounds

    public int fewest(int person, int want, int n) {
        if (!files.hasPerson(person) || !files.hasWant(want) || !within(n, 0, 20)) {
            return NONE;
        }
        return outlook.fewestFor(person, want, n);
    }

    public int serves(int person, int n) {
        if (!files.hasPerson(person) || !within(n, 0, 60)) {
            return NONE;
        }
        return outlook.bestServing(person, n);
    }

    public int burdens(int person, int n) {
        if (!files.hasPerson(person) || !within(n, 0, 60)) {
            return NONE;
        }
        return outlook.worstHeld(person, n);
    }

    public int quarrels(int k) {
        if (!within(k, 0, TOP_HUMOUR)) {
            return NONE;
        }
        int pairs = 0;
        told.start();
        for (int one = 0; one < files.groundSize(); one++) {
            for (int other = one + 1; other < files.groundSize(); other++) {
                if (files.areAtOdds(one, other, k)) {
                    tellFirstPair(pairs, one, other);
                    pairs++;
                }
            }
        }
        return pairs;
    }

    private void tellFirstPair(int earlier, int one, int other) {
        if (earlier == 0) {
            told.add(one);
            told.add(other);
        }
    }

    public int peace(int k) {
        if (!within(k, 0, TOP_HUMOUR)) {
            return NONE;
        }
        int best = 0;
        for (int some = 1; some < 1 << files.groundSize(); some++) {
            if (Integer.bitCount(some) > Integer.bitCount(best) && files.areAtPeace(some, k)) {
                best = some;
            }
        }
        told.start();
        told.add(best);
        return Integer.bitCount(best);
    }

    public int pulls(int some) {
        if (some < 0 || some >= 1 << files.groundSize()) {
            return NONE;
        }
        int pulled = 0;
        told.start();
        for (int h = 0; h < HUMOURS; h++) {
            int mean = files.meanPull(some, h);
            told.add(mean);
            pulled |= mean >= 0 ? 1 << h : 0;
        }
        return pulled;
    }

    // ---- which it was

    public int seen(int n, int h, int v) {
        if (!within(n, 0, 30) || !within(h, 0, HUMOURS - 1) || !within(v, 0, TOP_HUMOUR)) {
            return NONE;
        }
        return outlook.note(n, h, v) ? outlook.notes() : NONE;
    }

    public int forget() {
        return outlook.dropNotes();
    }

    public int fits(int person) {
        if (!files.hasPerson(person)) {
            return NONE;
        }
        int fitting = outlook.fitting(person);
        told.start();
        told.add(Integer.bitCount(fitting));
        told.add(outlook.fitsBare(person) ? 1 : 0);
        return fitting;
    }

    public int looks(int person, int n) {
        if (!files.hasPerson(person) || !within(n, 0, 30)) {
            return NONE;
        }
        int fitting = outlook.fitting(person);
        return fitting == 0 ? WITHOUT : outlook.bestLook(person, n, fitting);
    }

    // ---- covers, shares

    public int covers(int n) {
        return within(n, 0, 20) ? outlook.fewestForAll(n) : NONE;
    }

    public int shares(int n) {
        if (!within(n, 0, 20)) {
            return NONE;
        }
        return outlook.reckonGains(n) + outlook.shareOut();
    }

    // ---- the counter, envelopes

    public int counter(int a, int b) {
        if (!within(a, 0, 99) || !within(b, 0, 99)) {
            return NONE;
        }
        if (a == 0 || b == 0) {
            return WITHOUT;
        }
        int greater = Math.max(a, b);
        int lesser = Math.min(a, b);
        told.start();
        for (int times = 1; times * lesser <= greater; times++) {
            if (!winsAt(greater - times * lesser, lesser)) {
                told.add(times);
                return 1;
            }
        }
        return 0;
    }

    /** With an empty heap the other one has just won; where he may take twice, one of two ways leaves a lost game. */
    private static boolean winsAt(int a, int b) {
        int greater = Math.max(a, b);
        int lesser = Math.min(a, b);
        boolean mine = true;
        for (int i = 0; i < MOST_TURNS && lesser > 0 && greater < 2 * lesser; i++) {
            int rest = greater - lesser;
            greater = lesser;
            lesser = rest;
            mine = !mine;
        }
        return lesser > 0 ? mine : !mine;
    }

    public int right(int n, int k) {
        if (!within(n, 1, 8) || !within(k, 0, 8)) {
            return NONE;
        }
        if (k > n) {
            tellFraction(0, 1);
            return 0;
        }
        long ways = 1;
        long all = 1;
        for (int i = 1; i <= n; i++) {
            all *= i;
        }
        for (int i = 1; i <= k; i++) {
            ways = ways * (n - k + i) / i;
        }
        tellFraction(ways * allAstray(n - k), all);
        return 0;
    }

    /** In how many ways n envelopes go to n people so that nobody has his own. */
    private static long allAstray(int n) {
        long ways = 1;
        for (int i = 1; i <= n; i++) {
            ways = ways * i + (i % 2 == 0 ? 1 : -1);
        }
        return ways;
    }

    public int same(int k) {
        if (!within(k, 1, 4)) {
            return NONE;
        }
        int all = now.stockOfAll();
        if (all < k) {
            return WITHOUT;
        }
        long alike = 0;
        for (int g = 0; g < files.groundSize(); g++) {
            alike += drawings(now.stockOf(g), k);
        }
        tellFraction(alike, drawings(all, k));
        return 0;
    }

    /** In how many ways k are drawn one by one from so many. */
    private static long drawings(int many, int k) {
        long ways = 1;
        for (int i = 0; i < k; i++) {
            ways *= Math.max(0, many - i);
        }
        return ways;
    }

    private void tellFraction(long upper, long lower) {
        long common = lower;
        long rest = upper;
        for (int i = 0; i < MOST_TURNS && rest > 0; i++) {
            long next = common % rest;
            common = rest;
            rest = next;
        }
        told.start();
        told.add(common > 0 ? upper / common : upper);
        told.add(common > 0 ? lower / common : lower);
    }

    // ---- rests, rules, years

    public int rests(int v, int c) {
        if (!within(v, 0, 20) || !within(c, 0, 5)) {
            return NONE;
        }
        int pairs = 0;
        told.start();
        for (int x = 0; x <= 9; x++) {
            for (int y = 0; y <= 9; y++) {
                if (clerkStays(x, y) && manStays(x, y, v, c)) {
                    tellFirstPair(pairs, x, y);
                    pairs++;
                }
            }
        }
        return pairs;
    }

    private static boolean clerkStays(int x, int y) {
        // The most that he can have of y is y, by asking just that.
        return y == 0 || x == y;
    }

    private static boolean manStays(int x, int y, int v, int c) {
        int has = (y >= x ? v : 0) - c * y;
        for (int other = 0; other <= 9; other++) {
            if ((other >= x ? v : 0) - c * other > has) {
                return false;
            }
        }
        return true;
    }

    public int law() {
        int slip = files.otherRule().read(text);
        text.cut(0);
        if (slip != FINE) {
            return LAW_SLIP - slip;
        }
        int byOther = wantsHadBy(files.otherRule());
        int byPresent = wantsHadBy(files.presentRule());
        told.start();
        told.add(byOther);
        told.add(byPresent);
        return byOther - byPresent;
    }

    private int wantsHadBy(Rule rule) {
        then.copy(now);
        then.passAll(LAW_DAYS, rule);
        return then.wantsOfAll();
    }

    public int years(int seed, int n) {
        if (!within(n, 1, 60)) {
            return NONE;
        }
        then.copy(now);
        int r = seed;
        for (int i = 0; i < n; i++) {
            r = drawn(r);
            int what = lot(r, 4);
            if (what < 2) {
                then.passAll(1, files.presentRule());
            } else if (files.personSize() > 0 && files.groundSize() > 0) {
                int first = drawn(r);
                r = drawn(first);
                drawnAct(what, lot(first, files.personSize()), lot(r, files.groundSize()));
            }
        }
        told.start();
        told.add(then.humoursOfAll());
        told.add(then.groundsOfAll());
        return then.wantsOfAll();
    }

    private void drawnAct(int what, int person, int ground) {
        if (what == 2) {
            then.give(person, ground);
        } else {
            then.takeBack(person, ground);
        }
    }

    private static int drawn(int r) {
        return r * 1103515245 + 12345;
    }

    private static int lot(int r, int n) {
        return n > 0 ? (r >>> 16) % n : 0;
    }

    // ---- kept

    public boolean keep(int i) {
        return past.keepAs(i, now);
    }

    public boolean again(int i) {
        return past.bringKept(i, now);
    }

    public int count(int what) {
        switch (what) {
            case 0:
                return files.groundSize();
            case 1:
                return files.personSize();
            case 2:
                return files.wantSize();
            case 3:
                return now.dayNumber();
            case 4:
                return now.signedFor();
            case 5:
                return now.stockOfAll();
            case 6:
                return now.groundsOfAll();
            case 7:
                return now.wantsOfAll();
            case 8:
                return now.humoursOfAll();
            case 9:
                return outlook.notes();
            case 10:
                return past.size();
            case 11:
                return told.size();
            case 12:
                return text.size();
            default:
                return NONE;
        }
    }

    public long row(int i) throws NoSuchElementException {
        if (!within(i, 0, told.size() - 1)) {
            throw new NoSuchElementException();
        }
        return told.at(i);
    }

    private static boolean within(int n, int low, int high) {
        return n >= low && n <= high;
    }

    private static int clamp(int n, int low, int high) {
        if (n < low) {
            return low;
        }
        return n > high ? high : n;
    }

    private static boolean isDigit(int sign) {
        return within(sign, '0', '9');
    }

    private static boolean isIn(int one, int bits) {
        return (bits >> one & 1) == 1;
    }

    /** THE ROW. */
    static final class Numbers {
        private final long[] numbers = new long[8];
        private int size;

        void start() {
            size = 0;
        }

        void add(long number) {
            if (size < numbers.length) {
                numbers[size] = number;
                size++;
            }
        }

        int size() {
            return size;
        }

        long at(int i) {
            return within(i, 0, size - 1) ? numbers[i] : 0;
        }
    }

    /** THE TEXT. */
    static final class Signs {
        private final char[] signs = new char[MOST_SIGNS];
        private int size;

        boolean add(int four) {
            if (size + 4 > MOST_SIGNS) {
                return false;
            }
            for (int shift = 24; shift >= 0; shift -= 8) {
                signs[size] = (char) (four >>> shift & 255);
                size++;
            }
            return true;
        }

        boolean cut(int n) {
            if (!within(n, 0, size)) {
                return false;
            }
            size = n;
            return true;
        }

        int size() {
            return size;
        }

        int at(int p) {
            return within(p, 0, size - 1) ? signs[p] : -1;
        }

        int digitAt(int p) {
            return at(p) - '0';
        }
    }

    /** What may stand where in a text: it takes sign by sign, as long as they can stand. */
    abstract static class Form {
        private final int most;

        Form(int most) {
            this.most = most;
        }

        abstract void begin(int room);

        abstract boolean takes(int sign);

        abstract boolean mayEnd();

        /** Where the first sign is that can't stand, or FINE. */
        final int slip(Signs text, int room) {
            begin(room);
            int size = text.size();
            for (int p = 0; p < size && p < most; p++) {
                if (!takes(text.at(p))) {
                    return p;
                }
            }
            if (size > most) {
                return most;
            }
            return mayEnd() ? FINE : size;
        }
    }

    /** LINES of digits, all as long, the first digit not 0; from a column on - may stand too. */
    static final class LineForm extends Form {
        private final int width;
        private final int dashesFrom;
        private int room;
        private int lines;
        private int column;

        LineForm(int width, int dashesFrom, int most) {
            super(most);
            this.width = width;
            this.dashesFrom = dashesFrom;
        }

        void begin(int room) {
            this.room = room;
            lines = 0;
            column = 0;
        }

        boolean takes(int sign) {
            if (column == width) {
                column = 0;
                return sign == ';';
            }
            column++;
            if (column == 1) {
                lines++;
                return lines <= room && isDigit(sign) && sign != '0';
            }
            return isDigit(sign) || column > dashesFrom && sign == '-';
        }

        boolean mayEnd() {
            return column == width;
        }

        int lines() {
            return lines;
        }
    }

    /** LINES of one to three TERMS. */
    static final class WantForm extends Form {
        private int room;
        private int lines;
        private int terms;
        private int part;

        WantForm() {
            super(59);
        }

        void begin(int room) {
            this.room = room;
            lines = 0;
            terms = 0;
            part = 0;
        }

        boolean takes(int sign) {
            if (part == 0) {
                return takesFirst(sign);
            }
            if (part == 1) {
                part = 2;
                return sign == '<' || sign == '>';
            }
            part = 0;
            return isDigit(sign);
        }

        private boolean takesFirst(int sign) {
            if (terms > 0 && sign == ';') {
                terms = 0;
                return true;
            }
            lines += terms == 0 ? 1 : 0;
            terms++;
            part = 1;
            return lines <= room && terms <= MOST_TERMS && within(sign, 'a', 'd');
        }

        boolean mayEnd() {
            return part == 0 && terms > 0;
        }

        int lines() {
            return lines;
        }
    }

    /** ACTS one behind another. */
    static final class YearForm extends Form {
        private int digitsLeft;
        private boolean making;

        YearForm() {
            super(60);
        }

        void begin(int room) {
            digitsLeft = 0;
            making = false;
        }

        boolean takes(int sign) {
            if (digitsLeft == 0) {
                making = sign == 'm';
                digitsLeft = digitsBehind(sign);
                return digitsLeft > 0;
            }
            digitsLeft--;
            return isDigit(sign) && !(making && digitsLeft == 0 && sign == '0');
        }

        private static int digitsBehind(int sign) {
            if (sign == 'd') {
                return 1;
            }
            return sign == 'g' || sign == 't' || sign == 'm' ? 2 : 0;
        }

        boolean mayEnd() {
            return digitsLeft == 0;
        }
    }

    /** A RULE, laid out as it is read: things ahead of what is done with them, so that a day needs no reading. */
    static final class Rule extends Form {
        static final int V = 0;
        static final int T = 1;
        static final int G = 2;
        static final int E = 3;
        static final int D = 4;
        static final int S = 5;
        static final int N = 6;
        static final int FACTS = 7;

        private static final String LETTERS = "vtgedsn";
        private static final int MOST = 40;
        private static final int MOST_OPEN = 4;
        private static final int MOST_DIGITS = 3;
        private static final int LETTER = 1000;
        /** No sign of a text is as great, so none can be taken for it. */
        private static final int NEGATE = 256;
        private static final int FARTHEST_PUSH = 99;

        /** A number as it is, LETTER and more for a letter, less than 0 for what is done. */
        private final int[] steps = new int[MOST];
        private final int[] waiting = new int[MOST];
        private final int[] values = new int[MOST];
        private int size;
        private int waits;
        private int open;
        private int digits;
        private int compared;
        private boolean thingNext;

        Rule() {
            super(MOST);
        }

        /** Where it slips, or FINE; an empty text tells no rule. */
        int read(Signs text) {
            if (text.size() == 0) {
                size = 0;
                return FINE;
            }
            int slip = slip(text, 0);
            if (slip == FINE) {
                layOut(1);
            }
            return slip;
        }

        void begin(int room) {
            size = 0;
            waits = 0;
            open = 0;
            digits = 0;
            compared = 0;
            thingNext = true;
        }

        boolean takes(int sign) {
            if (thingNext) {
                return takesThing(sign);
            }
            if (digits > 0 && isDigit(sign)) {
                return takesDigit(sign);
            }
            digits = 0;
            return sign == ')' ? closes() : takesBetween(sign);
        }

        private boolean takesThing(int sign) {
            if (sign == '-') {
                hold(NEGATE);
                return true;
            }
            if (sign == '(') {
                open++;
                compared &= ~(1 << open);
                hold('(');
                return open <= MOST_OPEN;
            }
            thingNext = false;
            if (isDigit(sign)) {
                digits = 1;
                step(sign - '0');
                return true;
            }
            int letter = LETTERS.indexOf((char) sign);
            step(LETTER + letter);
            return letter >= 0;
        }

        private boolean takesDigit(int sign) {
            digits++;
            if (digits > MOST_DIGITS || size < 1) {
                return false;
            }
            steps[size - 1] = steps[size - 1] * 10 + sign - '0';
            return true;
        }

        private boolean closes() {
            if (open == 0) {
                return false;
            }
            layOut(1);
            waits--;
            open--;
            return true;
        }

        private boolean takesBetween(int sign) {
            int rank = rankOf(sign);
            if (rank == 1) {
                if (isIn(open, compared)) {
                    return false;
                }
                compared |= 1 << open;
            }
            layOut(Math.max(1, rank));
            hold(sign);
            thingNext = true;
            return rank > 0;
        }

        private static int rankOf(int sign) {
            switch (sign) {
                case '<':
                case '>':
                case '=':
                    return 1;
                case '+':
                case '-':
                    return 2;
                case '*':
                case '/':
                    return 3;
                case NEGATE:
                    return 4;
                default:
                    return 0;
            }
        }

        /** What waits and binds as closely comes first; an open bracket binds nothing. */
        private void layOut(int rank) {
            while (waits > 0 && rankOf(waiting[waits - 1]) >= rank) {
                waits--;
                step(-waiting[waits]);
            }
        }

        private void hold(int sign) {
            if (waits < MOST) {
                waiting[waits] = sign;
                waits++;
            }
        }

        private void step(int what) {
            if (size < MOST) {
                steps[size] = what;
                size++;
            }
        }

        boolean mayEnd() {
            return !thingNext && open == 0;
        }

        int push(int[] facts) {
            if (facts.length < FACTS) {
                return 0;
            }
            if (size == 0) {
                return facts[T] > facts[V] ? 1 : facts[T] < facts[V] ? -1 : 0;
            }
            int top = 0;
            for (int i = 0; i < size; i++) {
                int what = steps[i];
                if (what >= 0 && top < MOST) {
                    int letter = what - LETTER;
                    values[top] = letter >= 0 && letter < FACTS ? facts[letter] : what;
                    top++;
                } else if (what == -NEGATE && top > 0) {
                    values[top - 1] = -values[top - 1];
                } else if (top > 1) {
                    top--;
                    values[top - 1] = outcome(-what, values[top - 1], values[top]);
                }
            }
            return clamp(values[0], -FARTHEST_PUSH, FARTHEST_PUSH);
        }

        private static int outcome(int what, int a, int b) {
            switch (what) {
                case '<':
                    return a < b ? 1 : 0;
                case '>':
                    return a > b ? 1 : 0;
                case '=':
                    return a == b ? 1 : 0;
                case '+':
                    return a + b;
                case '-':
                    return a - b;
                case '*':
                    return a * b;
                default:
                    return b == 0 ? 0 : a / b;
            }
        }
    }

    /** What a text told once and no day changes: GROUNDS, PEOPLE, WANTS and THE RULE. */
    static final class Files {
        private static final int NO_PULL = -1;

        private final int[] grades = new int[MOST_GROUNDS];
        private final int[] pull = new int[MOST_GROUNDS * HUMOURS];
        private final int[] strengths = new int[MOST_PEOPLE];
        private final int[] terms = new int[MOST_WANTS];
        private final int[] termHumours = new int[MOST_WANTS * MOST_TERMS];
        private final int[] termSenses = new int[MOST_WANTS * MOST_TERMS];
        private final int[] termNumbers = new int[MOST_WANTS * MOST_TERMS];
        private Rule present = new Rule();
        private Rule other = new Rule();
        private int groundSize;
        private int personSize;
        private int wantSize;

        int groundSize() {
            return groundSize;
        }

        int personSize() {
            return personSize;
        }

        int wantSize() {
            return wantSize;
        }

        boolean hasGround(int g) {
            return g >= 0 && g < groundSize;
        }

        boolean hasPerson(int p) {
            return p >= 0 && p < personSize;
        }

        boolean hasWant(int w) {
            return w >= 0 && w < wantSize;
        }

        int allWants() {
            return (1 << wantSize) - 1;
        }

        Rule presentRule() {
            return present;
        }

        Rule otherRule() {
            return other;
        }

        void takeOtherRule() {
            Rule old = present;
            present = other;
            other = old;
        }

        void addGround(Signs text, int at) {
            if (groundSize >= MOST_GROUNDS) {
                return;
            }
            grades[groundSize] = text.digitAt(at);
            for (int h = 0; h < HUMOURS; h++) {
                int sign = text.at(at + 2 + h);
                pull[groundSize * HUMOURS + h] = sign == '-' ? NO_PULL : sign - '0';
            }
            groundSize++;
        }

        void addPerson(int strength) {
            if (personSize < MOST_PEOPLE) {
                strengths[personSize] = strength;
                personSize++;
            }
        }

        void addWants(Signs text) {
            int at = 0;
            while (at < text.size() && wantSize < MOST_WANTS) {
                at = addTerms(text, at);
                wantSize++;
            }
        }

        private int addTerms(Signs text, int from) {
            int at = from;
            int t = 0;
            while (t < MOST_TERMS && within(text.at(at), 'a', 'd')) {
                int place = wantSize * MOST_TERMS + t;
                termHumours[place] = text.at(at) - 'a';
                termSenses[place] = text.at(at + 1);
                termNumbers[place] = text.digitAt(at + 2);
                at += 3;
                t++;
            }
            terms[wantSize] = t;
            return at + 1;
        }

        int gradeOf(int g) {
            return hasGround(g) ? grades[g] : 0;
        }

        int pullOf(int g, int h) {
            return hasGround(g) && h >= 0 && h < HUMOURS ? pull[g * HUMOURS + h] : NO_PULL;
        }

        int strengthOf(int p) {
            return hasPerson(p) ? strengths[p] : 0;
        }

        int termsOf(int w) {
            return hasWant(w) ? terms[w] : 0;
        }

        int humourOfTerm(int w, int t) {
            return hasWant(w) && t >= 0 && t < MOST_TERMS ? termHumours[w * MOST_TERMS + t] : 0;
        }

        /** How much a HUMOUR is off a TERM: 0, if that is so. */
        int offBy(int w, int t, int humour) {
            if (!hasWant(w) || t < 0 || t >= MOST_TERMS) {
                return 0;
            }
            int place = w * MOST_TERMS + t;
            int above = humour - termNumbers[place];
            return Math.max(0, termSenses[place] == '<' ? above + 1 : 1 - above);
        }

        boolean areAtOdds(int one, int another, int k) {
            for (int h = 0; h < HUMOURS; h++) {
                int first = pullOf(one, h);
                int second = pullOf(another, h);
                if (first != NO_PULL && second != NO_PULL && Math.abs(first - second) > k) {
                    return true;
                }
            }
            return false;
        }

        boolean areAtPeace(int some, int k) {
            for (int one = 0; one < groundSize; one++) {
                for (int another = one + 1; another < groundSize; another++) {
                    if (isIn(one, some) && isIn(another, some) && areAtOdds(one, another, k)) {
                        return false;
                    }
                }
            }
            return true;
        }

        int meanPull(int some, int h) {
            int sum = 0;
            int many = 0;
            for (int g = 0; g < groundSize; g++) {
                if (isIn(g, some) && pullOf(g, h) != NO_PULL) {
                    sum += pullOf(g, h);
                    many++;
                }
            }
            return many > 0 ? sum / many : NO_PULL;
        }
    }

    /** How all stands on some day, in one row of cells, so that it is copied at once. */
    static final class Standing {
        private static final int HUMOURS_AT = MOST_GROUNDS;
        private static final int HELD_AT = HUMOURS_AT + MOST_PEOPLE * HUMOURS;
        private static final int DAY_AT = HELD_AT + MOST_PEOPLE * MOST_GROUNDS;
        private static final int SIGNED_AT = DAY_AT + 1;
        static final int SIZE = SIGNED_AT + 1;
        private static final int NOT_HELD = -1;

        private final Files files;
        private final int[] cells = new int[SIZE];
        private final int[] facts = new int[Rule.FACTS];
        private final int[] more = new int[HUMOURS];

        Standing(Files files) {
            this.files = files;
            for (int i = HELD_AT; i < DAY_AT; i++) {
                cells[i] = NOT_HELD;
            }
        }

        void copy(Standing from) {
            System.arraycopy(from.cells, 0, cells, 0, SIZE);
        }

        void saveTo(int[] rows, int at) {
            if (within(at, 0, rows.length - SIZE)) {
                System.arraycopy(cells, 0, rows, at, SIZE);
            }
        }

        void loadFrom(int[] rows, int at) {
            if (within(at, 0, rows.length - SIZE)) {
                System.arraycopy(rows, at, cells, 0, SIZE);
            }
        }

        int stockOf(int g) {
            return g >= 0 && g < MOST_GROUNDS ? cells[g] : 0;
        }

        void putStock(int g, int stock) {
            if (g >= 0 && g < MOST_GROUNDS) {
                cells[g] = stock;
            }
        }

        int humourOf(int p, int h) {
            boolean known = p >= 0 && p < MOST_PEOPLE && h >= 0 && h < HUMOURS;
            return known ? cells[HUMOURS_AT + p * HUMOURS + h] : 0;
        }

        void putHumour(int p, int h, int humour) {
            if (p >= 0 && p < MOST_PEOPLE && h >= 0 && h < HUMOURS) {
                cells[HUMOURS_AT + p * HUMOURS + h] = humour;
            }
        }

        int daysHeld(int p, int g) {
            boolean known = p >= 0 && p < MOST_PEOPLE && g >= 0 && g < MOST_GROUNDS;
            return known ? cells[HELD_AT + p * MOST_GROUNDS + g] : NOT_HELD;
        }

        private void putDaysHeld(int p, int g, int held) {
            if (p >= 0 && p < MOST_PEOPLE && g >= 0 && g < MOST_GROUNDS) {
                cells[HELD_AT + p * MOST_GROUNDS + g] = held;
            }
        }

        boolean holds(int p, int g) {
            return daysHeld(p, g) != NOT_HELD;
        }

        /** As give(), but nothing of STOCK and nothing signed: a ground that is only thought of. */
        void lend(int p, int g) {
            putDaysHeld(p, g, 0);
        }

        void strip(int p, int g) {
            putDaysHeld(p, g, NOT_HELD);
        }

        int dayNumber() {
            return cells[DAY_AT];
        }

        int signedFor() {
            return cells[SIGNED_AT];
        }

        int groundsOf(int p) {
            int bits = 0;
            for (int g = 0; g < files.groundSize(); g++) {
                bits |= daysHeld(p, g) != NOT_HELD ? 1 << g : 0;
            }
            return bits;
        }

        int holdersOf(int g) {
            int bits = 0;
            for (int p = 0; p < files.personSize(); p++) {
                bits |= holds(p, g) ? 1 << p : 0;
            }
            return bits;
        }

        int wantsOf(int p) {
            int bits = 0;
            for (int w = 0; w < files.wantSize(); w++) {
                bits |= hasWant(p, w) ? 1 << w : 0;
            }
            return bits;
        }

        private boolean hasWant(int p, int w) {
            for (int t = 0; t < files.termsOf(w); t++) {
                if (files.offBy(w, t, humourOf(p, files.humourOfTerm(w, t))) > 0) {
                    return false;
                }
            }
            return true;
        }

        int humoursTogether(int p) {
            int all = 0;
            for (int h = 0; h < HUMOURS; h++) {
                all = all * 10 + humourOf(p, h);
            }
            return all;
        }

        int stockOfAll() {
            int sum = 0;
            for (int g = 0; g < files.groundSize(); g++) {
                sum += stockOf(g);
            }
            return sum;
        }

        int groundsOfAll() {
            int sum = 0;
            for (int p = 0; p < files.personSize(); p++) {
                sum += Integer.bitCount(groundsOf(p));
            }
            return sum;
        }

        int wantsOfAll() {
            int sum = 0;
            for (int p = 0; p < files.personSize(); p++) {
                sum += Integer.bitCount(wantsOf(p));
            }
            return sum;
        }

        int humoursOfAll() {
            int sum = 0;
            for (int p = 0; p < files.personSize(); p++) {
                for (int h = 0; h < HUMOURS; h++) {
                    sum += humourOf(p, h);
                }
            }
            return sum;
        }

        int give(int p, int g) {
            if (!files.hasPerson(p) || !files.hasGround(g)) {
                return NONE;
            }
            if (holds(p, g)) {
                return WITHOUT;
            }
            if (stockOf(g) < 1) {
                return MISSING;
            }
            putStock(g, stockOf(g) - 1);
            putDaysHeld(p, g, 0);
            cells[SIGNED_AT] = Math.min(MOST_SIGNED, cells[SIGNED_AT] + 1);
            return Integer.bitCount(groundsOf(p));
        }

        int takeBack(int p, int g) {
            if (!files.hasPerson(p) || !files.hasGround(g)) {
                return NONE;
            }
            if (!holds(p, g)) {
                return WITHOUT;
            }
            strip(p, g);
            putStock(g, Math.min(MOST_STOCK, stockOf(g) + 1));
            return Integer.bitCount(groundsOf(p));
        }

        int make(int g, int n) {
            if (!files.hasGround(g) || !within(n, 1, MOST_STOCK)) {
                return NONE;
            }
            putStock(g, Math.min(MOST_STOCK, stockOf(g) + n));
            return stockOf(g);
        }

        /** DAYS of all PEOPLE: how often one came to have a WANT. */
        int spend(int n, Rule rule) {
            int first = cells[DAY_AT];
            int came = 0;
            for (int p = 0; p < files.personSize(); p++) {
                cells[DAY_AT] = first;
                int had = wantsOf(p);
                for (int i = 0; i < n; i++) {
                    live(p, rule);
                    cells[DAY_AT]++;
                    int has = wantsOf(p);
                    came += Integer.bitCount(has & ~had);
                    had = has;
                }
            }
            cells[DAY_AT] = first + n;
            return came;
        }

        void passAll(int n, Rule rule) {
            int first = cells[DAY_AT];
            for (int p = 0; p < files.personSize(); p++) {
                cells[DAY_AT] = first;
                pass(p, n, rule);
            }
            cells[DAY_AT] = first + n;
        }

        /** DAYS as one of PEOPLE alone has them: nobody's HUMOURS hang on another's. */
        void pass(int p, int n, Rule rule) {
            for (int i = 0; i < n; i++) {
                live(p, rule);
                cells[DAY_AT]++;
            }
        }

        private void live(int p, Rule rule) {
            int bits = groundsOf(p);
            if (bits == 0) {
                return;
            }
            facts[Rule.E] = Integer.bitCount(bits);
            facts[Rule.S] = files.strengthOf(p);
            facts[Rule.N] = cells[DAY_AT] % 7;
            Arrays.fill(more, 0);
            for (int g = 0; g < files.groundSize(); g++) {
                if (isIn(g, bits)) {
                    pushBy(p, g, rule);
                    putDaysHeld(p, g, Math.min(MOST_DAYS_HELD, daysHeld(p, g) + 1));
                }
            }
            for (int h = 0; h < HUMOURS; h++) {
                putHumour(p, h, clamp(humourOf(p, h) + more[h], 0, TOP_HUMOUR));
            }
        }

        private void pushBy(int p, int g, Rule rule) {
            facts[Rule.G] = files.gradeOf(g);
            facts[Rule.D] = daysHeld(p, g);
            for (int h = 0; h < HUMOURS; h++) {
                int to = files.pullOf(g, h);
                if (to != Files.NO_PULL) {
                    facts[Rule.T] = to;
                    facts[Rule.V] = humourOf(p, h);
                    more[h] += rule.push(facts);
                }
            }
        }
    }

    /** What can be undone, in a ring, and behind it what is kept. */
    static final class Past {
        private static final int MOST = 12;
        private static final int KEPT = 2;

        private final int[] rows = new int[(MOST + KEPT) * Standing.SIZE];
        private int next;
        private int size;
        private int kept;

        int size() {
            return size;
        }

        void remember(Standing standing) {
            standing.saveTo(rows, next * Standing.SIZE);
            next = (next + 1) % MOST;
            size = Math.min(MOST, size + 1);
        }

        boolean bringBack(Standing into) {
            if (size == 0) {
                return false;
            }
            next = (next + MOST - 1) % MOST;
            size--;
            into.loadFrom(rows, next * Standing.SIZE);
            return true;
        }

        boolean keepAs(int i, Standing standing) {
            if (!within(i, 0, KEPT - 1)) {
                return false;
            }
            standing.saveTo(rows, (MOST + i) * Standing.SIZE);
            kept |= 1 << i;
            return true;
        }

        boolean bringKept(int i, Standing into) {
            if (!within(i, 0, KEPT - 1) || !isIn(i, kept)) {
                return false;
            }
            into.loadFrom(rows, (MOST + i) * Standing.SIZE);
            size = 0;
            return true;
        }

        void forgetAll() {
            size = 0;
            kept = 0;
        }
    }

    /** What would be: each question is tried out on a standing beside the one that is. */
    static final class Outlook {
        private static final int MOST_NOTES = 12;

        private final Files files;
        private final Standing now;
        private final Standing then;
        private final Numbers told;
        private final int[] noteDays = new int[MOST_NOTES];
        private final int[] noteHumours = new int[MOST_NOTES];
        private final int[] noteNumbers = new int[MOST_NOTES];
        private final int[] tally = new int[HUMOURS * (TOP_HUMOUR + 1)];
        private final int[] servedBy = new int[MOST_GROUNDS];
        private final int[] gains = new int[MOST_PEOPLE * MOST_GROUNDS];
        private final int[] left = new int[MOST_GROUNDS];
        private final int[] best = new int[1 << MOST_PEOPLE];
        private final int[] sums = new int[1 << MOST_PEOPLE];
        private int notes;

        Outlook(Files files, Standing now, Standing then, Numbers told) {
            this.files = files;
            this.now = now;
            this.then = then;
            this.told = told;
        }

        /** WANTS (bits) of one of PEOPLE in n DAYS, with some GROUNDS more; then is left as all stands in these. */
        private int wantsWith(int p, int more, int n) {
            then.copy(now);
            for (int g = 0; g < files.groundSize(); g++) {
                if (isIn(g, more)) {
                    then.lend(p, g);
                }
            }
            then.pass(p, n, files.presentRule());
            return then.wantsOf(p);
        }

        private int wantsBare(int p, int less, int n) {
            then.copy(now);
            then.strip(p, less);
            then.pass(p, n, files.presentRule());
            return then.wantsOf(p);
        }

        /** GROUNDS (bits) in STOCK that one of PEOPLE does not hold. */
        private int free(int p) {
            int bits = 0;
            for (int g = 0; g < files.groundSize(); g++) {
                bits |= now.stockOf(g) > 0 && !now.holds(p, g) ? 1 << g : 0;
            }
            return bits;
        }

        private int gradesOf(int some) {
            int sum = 0;
            for (int g = 0; g < files.groundSize(); g++) {
                sum += isIn(g, some) ? files.gradeOf(g) : 0;
            }
            return sum;
        }

        int fewestFor(int p, int want, int n) {
            int free = free(p);
            int found = WITHOUT;
            for (int some = 0; some <= free; some++) {
                boolean tried = (some & ~free) == 0 && isLess(some, found);
                found = tried && isIn(want, wantsWith(p, some, n)) ? some : found;
            }
            if (found < 0) {
                return WITHOUT;
            }
            told.start();
            told.add(found);
            told.add(gradesOf(found));
            return Integer.bitCount(found);
        }

        /** Of as many and of as little GRADE the one found first stays: it has the least bits. */
        private boolean isLess(int some, int found) {
            int more = found < 0 ? -1 : Integer.bitCount(some) - Integer.bitCount(found);
            return more < 0 || more == 0 && gradesOf(some) < gradesOf(found);
        }

        int bestServing(int p, int n) {
            int free = free(p);
            int found = WITHOUT;
            int had = 0;
            for (int g = 0; g < files.groundSize(); g++) {
                if (isIn(g, free)) {
                    int with = wantsWith(p, 1 << g, n);
                    if (found < 0 || Integer.bitCount(with) > Integer.bitCount(had)) {
                        found = g;
                        had = with;
                    }
                }
            }
            if (found >= 0) {
                told.start();
                told.add(had);
                told.add(wantsWith(p, 0, n));
            }
            return found;
        }

        int worstHeld(int p, int n) {
            int found = WITHOUT;
            int had = 0;
            for (int g = 0; g < files.groundSize(); g++) {
                if (now.holds(p, g)) {
                    int without = wantsBare(p, g, n);
                    if (found < 0 || Integer.bitCount(without) > Integer.bitCount(had)) {
                        found = g;
                        had = without;
                    }
                }
            }
            if (found >= 0) {
                told.start();
                told.add(had);
            }
            return found;
        }

        boolean note(int n, int h, int v) {
            if (notes >= MOST_NOTES) {
                return false;
            }
            noteDays[notes] = n;
            noteHumours[notes] = h;
            noteNumbers[notes] = v;
            notes++;
            return true;
        }

        int notes() {
            return notes;
        }

        int dropNotes() {
            int were = notes;
            notes = 0;
            return were;
        }

        /** If all would be seen as it was, by how then stands. */
        private boolean wouldFit(int p) {
            int last = 0;
            for (int i = 0; i < notes; i++) {
                last = Math.max(last, noteDays[i]);
            }
            for (int n = 0; n <= last; n++) {
                for (int i = 0; i < notes; i++) {
                    if (noteDays[i] == n && then.humourOf(p, noteHumours[i]) != noteNumbers[i]) {
                        return false;
                    }
                }
                then.pass(p, 1, files.presentRule());
            }
            return true;
        }

        int fitting(int p) {
            int bits = 0;
            for (int g = 0; g < files.groundSize(); g++) {
                if (!now.holds(p, g)) {
                    then.copy(now);
                    then.lend(p, g);
                    bits |= wouldFit(p) ? 1 << g : 0;
                }
            }
            return bits;
        }

        boolean fitsBare(int p) {
            then.copy(now);
            return wouldFit(p);
        }

        /** The HUMOUR by which the fewest of some GROUNDS are left at most. */
        int bestLook(int p, int n, int bits) {
            Arrays.fill(tally, 0);
            for (int g = 0; g < files.groundSize(); g++) {
                if (isIn(g, bits)) {
                    wantsWith(p, 1 << g, n);
                    tallyHumours(p);
                }
            }
            int found = 0;
            for (int h = 1; h < HUMOURS; h++) {
                found = mostLeft(h) < mostLeft(found) ? h : found;
            }
            told.start();
            told.add(mostLeft(found));
            return found;
        }

        private void tallyHumours(int p) {
            for (int h = 0; h < HUMOURS; h++) {
                tally[h * (TOP_HUMOUR + 1) + clamp(then.humourOf(p, h), 0, TOP_HUMOUR)]++;
            }
        }

        private int mostLeft(int h) {
            int most = 0;
            for (int v = 0; v <= TOP_HUMOUR; v++) {
                most = Math.max(most, tally[h * (TOP_HUMOUR + 1) + v]);
            }
            return most;
        }

        int fewestForAll(int n) {
            for (int g = 0; g < files.groundSize(); g++) {
                servedBy[g] = 0;
                for (int p = 0; p < files.personSize(); p++) {
                    servedBy[g] |= now.holds(p, g) ? 0 : wantsWith(p, 1 << g, n);
                }
            }
            int found = WITHOUT;
            for (int some = 0; some < 1 << files.groundSize(); some++) {
                boolean fewer = found < 0 || Integer.bitCount(some) < Integer.bitCount(found);
                found = fewer && servedTogether(some) == files.allWants() ? some : found;
            }
            if (found < 0) {
                return WITHOUT;
            }
            told.start();
            told.add(found);
            return Integer.bitCount(found);
        }

        private int servedTogether(int some) {
            int bits = 0;
            for (int g = 0; g < files.groundSize(); g++) {
                bits |= isIn(g, some) ? servedBy[g] : 0;
            }
            return bits;
        }

        /** How many WANTS more each GROUND brings (one that brings none is as none); told is how many there are without. */
        int reckonGains(int n) {
            int all = 0;
            for (int p = 0; p < files.personSize(); p++) {
                int free = free(p);
                int without = Integer.bitCount(wantsWith(p, 0, n));
                for (int g = 0; g < files.groundSize(); g++) {
                    int with = isIn(g, free) ? Integer.bitCount(wantsWith(p, 1 << g, n)) : 0;
                    gains[p * MOST_GROUNDS + g] = Math.max(0, with - without);
                }
                all += without;
            }
            return all;
        }

        /** The most WANTS that are gained in all; THE ROW tells by which GROUNDS. */
        int shareOut() {
            for (int g = 0; g < files.groundSize(); g++) {
                left[g] = now.stockOf(g);
            }
            int most = mostGained(0);
            int rest = most;
            told.start();
            for (int p = 0; p < files.personSize(); p++) {
                int given = leastGiven(p, rest);
                rest -= given < 0 ? 0 : gains[p * MOST_GROUNDS + given];
                told.add(given);
            }
            return most;
        }

        /** The first of none, GROUND 0, 1 .. by which the rest can still be gained; it is taken from what is left. */
        private int leastGiven(int p, int rest) {
            if (mostGained(p + 1) == rest) {
                return NONE;
            }
            for (int g = 0; g < files.groundSize(); g++) {
                int gain = gains[p * MOST_GROUNDS + g];
                if (gain > 0 && left[g] > 0) {
                    left[g]--;
                    if (gain + mostGained(p + 1) == rest) {
                        return g;
                    }
                    left[g]++;
                }
            }
            return NONE;
        }

        /** The most that PEOPLE from one on gain by what is left: ground by ground, by the set that is given one. */
        private int mostGained(int from) {
            int sets = 1 << Math.max(0, files.personSize() - from);
            for (int set = 0; set < sets && set < best.length; set++) {
                best[set] = 0;
            }
            for (int g = 0; g < files.groundSize(); g++) {
                sumGains(g, from, sets);
                for (int set = sets - 1; set > 0; set--) {
                    best[set] = bestWith(set, left[g]);
                }
            }
            return best[sets - 1];
        }

        private void sumGains(int g, int from, int sets) {
            sums[0] = 0;
            for (int p = from; p < files.personSize(); p++) {
                int one = 1 << p - from;
                for (int set = one; set < 2 * one && set < sets; set++) {
                    sums[set] = sums[set - one] + gains[p * MOST_GROUNDS + g];
                }
            }
        }

        /** Sets are gone through from the greatest, so that what is left of one is still without this GROUND. */
        private int bestWith(int set, int stock) {
            int most = best[set];
            for (int given = set; given > 0; given = (given - 1) & set) {
                if (Integer.bitCount(given) <= stock) {
                    most = Math.max(most, best[set & ~given] + sums[given]);
                }
            }
            return most;
        }
    }
}
