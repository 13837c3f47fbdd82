import java.util.ArrayDeque;
import java.util.ArrayList;
import java.util.Arrays;
import java.util.List;
import java.util.NoSuchElementException;
import java.util.regex.Matcher;
import java.util.regex.Pattern;

/**
 * The document once more, written apart from the class and as plainly as can be (texts by patterns and by recursive
 * descent, choices by trying all), so that both can be held against each other.
 */
final class PlainBureau {
    static final class Ground {
        int grade;
        int stock;
        int[] pull = new int[4];
    }

    static final class Person {
        int strength;
        int[] humours = new int[4];
        int[] held = {-1, -1, -1, -1, -1, -1, -1, -1};

        Person copy() {
            Person p = new Person();
            p.strength = strength;
            p.humours = humours.clone();
            p.held = held.clone();
            return p;
        }

        int holds() {
            int n = 0;
            for (int h : held) {
                n += h >= 0 ? 1 : 0;
            }
            return n;
        }

        int bits() {
            int b = 0;
            for (int g = 0; g < 8; g++) {
                b |= held[g] >= 0 ? 1 << g : 0;
            }
            return b;
        }
    }

    static final class State {
        int[] stock;
        List<Person> people = new ArrayList<>();
        int day;
        int signed;
    }

    List<Ground> grounds = new ArrayList<>();
    List<Person> people = new ArrayList<>();
    List<String> wants = new ArrayList<>();
    String rule = "";
    String text = "";
    int day;
    int signed;
    List<Long> row = new ArrayList<>();
    ArrayDeque<State> past = new ArrayDeque<>();
    State[] kept = new State[2];
    List<int[]> seen = new ArrayList<>();

    // ---- texts

    int sign(int v) {
        if (text.length() + 4 > 80) {
            return -1;
        }
        for (int i = 3; i >= 0; i--) {
            text += (char) ((v >>> (8 * i)) & 0xff);
        }
        return text.length();
    }

    boolean end(int n) {
        if (n < 0 || n > text.length()) {
            return false;
        }
        text = text.substring(0, n);
        return true;
    }

    /** The first sign that can't stand, by a pattern for the whole text; -1: none. */
    static int slip(String text, String pattern, int limit) {
        Pattern p = Pattern.compile(pattern);
        for (int n = 1; n <= Math.min(limit, text.length()); n++) {
            Matcher m = p.matcher(text.substring(0, n));
            if (!m.matches() && !m.hitEnd()) {
                return n - 1;
            }
        }
        if (text.length() > limit) {
            return limit;
        }
        return p.matcher(text).matches() ? -1 : text.length();
    }

    /** A ; can stand behind the last LINE for which there is room, but no sign behind that. */
    static String lines(String line, int room) {
        return line + "(?:;" + line + "){0," + (room - 1) + "}(?:;[^\\x00-\\xff])?";
    }

    private String taken() {
        String t = text;
        text = "";
        return t;
    }

    private void forgetPast() {
        past.clear();
        kept = new State[2];
    }

    int grounds() {
        String t = taken();
        if (t.isEmpty()) {
            return 0;
        }
        int room = 8 - grounds.size();
        int p = room == 0 ? 0 : slip(t, lines("[1-9][0-9][-0-9]{4}", room), 55);
        if (p >= 0) {
            return -1 - p;
        }
        for (String line : t.split(";")) {
            Ground g = new Ground();
            g.grade = line.charAt(0) - '0';
            g.stock = line.charAt(1) - '0';
            for (int h = 0; h < 4; h++) {
                g.pull[h] = line.charAt(2 + h) == '-' ? -1 : line.charAt(2 + h) - '0';
            }
            grounds.add(g);
        }
        forgetPast();
        return t.split(";").length;
    }

    int people() {
        String t = taken();
        if (t.isEmpty()) {
            return 0;
        }
        int room = 6 - people.size();
        int p = room == 0 ? 0 : slip(t, lines("[1-9][0-9]{4}", room), 35);
        if (p >= 0) {
            return -1 - p;
        }
        for (String line : t.split(";")) {
            Person q = new Person();
            q.strength = line.charAt(0) - '0';
            for (int h = 0; h < 4; h++) {
                q.humours[h] = line.charAt(1 + h) - '0';
            }
            people.add(q);
        }
        forgetPast();
        return t.split(";").length;
    }

    int wants() {
        String t = taken();
        if (t.isEmpty()) {
            return 0;
        }
        int room = 6 - wants.size();
        int p = room == 0 ? 0 : slip(t, lines("(?:[a-d][<>][0-9]){1,3}", room), 59);
        if (p >= 0) {
            return -1 - p;
        }
        for (String line : t.split(";")) {
            wants.add(line);
        }
        forgetPast();
        return t.split(";").length;
    }

    int rule() {
        String t = taken();
        int p = ruleSlip(t);
        if (p >= 0) {
            return -1 - p;
        }
        rule = t;
        return 0;
    }

    static final class Slip extends RuntimeException {
        private static final long serialVersionUID = 1;
        final int at;

        Slip(int at) {
            this.at = at;
        }
    }

    /** A RULE read by descent; facts: v t g e d s n. */
    static final class Reading {
        final String t;
        final int[] facts;
        int at = 0;

        Reading(String t, int[] facts) {
            this.t = t;
            this.facts = facts;
        }

        char next() {
            return at < t.length() ? t.charAt(at) : 0x1000;
        }

        int whole() {
            int v = compare(0);
            if (at < t.length()) {
                throw new Slip(at);
            }
            return v;
        }

        int compare(int depth) {
            int a = sum(depth);
            char c = next();
            if (c == '<' || c == '>' || c == '=') {
                at++;
                int b = sum(depth);
                return (c == '<' ? a < b : c == '>' ? a > b : a == b) ? 1 : 0;
            }
            return a;
        }

        int sum(int depth) {
            int a = product(depth);
            while (next() == '+' || next() == '-') {
                char c = next();
                at++;
                int b = product(depth);
                a = c == '+' ? a + b : a - b;
            }
            return a;
        }

        int product(int depth) {
            int a = thing(depth);
            while (next() == '*' || next() == '/') {
                char c = next();
                at++;
                int b = thing(depth);
                a = c == '*' ? a * b : b == 0 ? 0 : a / b;
            }
            return a;
        }

        int thing(int depth) {
            char c = next();
            if (c == '-') {
                at++;
                return -thing(depth);
            }
            if (c == '(' && depth < 4) {
                at++;
                int v = compare(depth + 1);
                if (next() != ')') {
                    throw new Slip(at);
                }
                at++;
                return v;
            }
            if (c >= '0' && c <= '9') {
                int v = 0;
                for (int i = 0; i < 3 && next() >= '0' && next() <= '9'; i++) {
                    v = v * 10 + next() - '0';
                    at++;
                }
                return v;
            }
            int i = "vtgedsn".indexOf(c);
            if (i < 0) {
                throw new Slip(at);
            }
            at++;
            return facts[i];
        }
    }

    static int ruleSlip(String t) {
        if (t.isEmpty()) {
            return -1;
        }
        // A text too long slips at 40, if its first 40 signs slip at their end or not at all.
        String first = t.substring(0, Math.min(40, t.length()));
        int at = -1;
        try {
            new Reading(first, new int[7]).whole();
        } catch (Slip s) {
            at = s.at;
        }
        return t.length() > 40 && (at < 0 || at >= 40) ? 40 : at;
    }

    static int push(String rule, int... facts) {
        if (rule.isEmpty()) {
            return Integer.compare(facts[1], facts[0]);
        }
        return Math.max(-99, Math.min(99, new Reading(rule, facts).whole()));
    }

    // ---- what is

    boolean noGround(int g) {
        return g < 0 || g >= grounds.size();
    }

    boolean noPerson(int p) {
        return p < 0 || p >= people.size();
    }

    boolean noWant(int w) {
        return w < 0 || w >= wants.size();
    }

    int ground(int g, int what) {
        if (noGround(g) || what < 0 || what > 6) {
            throw new NoSuchElementException();
        }
        Ground it = grounds.get(g);
        if (what == 6) {
            int b = 0;
            for (int p = 0; p < people.size(); p++) {
                b |= people.get(p).held[g] >= 0 ? 1 << p : 0;
            }
            return b;
        }
        return what == 0 ? it.grade : what == 1 ? it.stock : it.pull[what - 2];
    }

    int person(int p, int what) {
        if (noPerson(p) || what < 0 || what > 6) {
            throw new NoSuchElementException();
        }
        Person it = people.get(p);
        return what == 0 ? it.strength : what == 5 ? it.bits() : what == 6 ? had(it) : it.humours[what - 1];
    }

    int held(int p, int g) {
        if (noPerson(p) || noGround(g)) {
            return -1;
        }
        return people.get(p).held[g] < 0 ? -2 : people.get(p).held[g];
    }

    int sheet(int kind, int n, int f, int step) {
        if (kind < 0 || kind > 3 || n > 8) {
            return -1;
        }
        if (kind == 3) {
            for (Ground g : grounds) {
                g.stock = 0;
            }
            return -3;
        }
        if (n < 0) {
            return -2;
        }
        int sum = 0;
        int entry = f;
        for (int g = 0; g < grounds.size(); g++) {
            int e = g >= n ? 0 : kind == 0 ? (byte) entry : kind == 1 ? (short) entry : entry;
            grounds.get(g).stock = Math.max(0, Math.min(99, e));
            sum += grounds.get(g).stock;
            entry += step;
        }
        return sum;
    }

    static boolean so(String term, int[] humours) {
        int v = humours[term.charAt(0) - 'a'];
        int d = term.charAt(2) - '0';
        return term.charAt(1) == '<' ? v < d : v > d;
    }

    boolean has(Person p, int want) {
        String w = wants.get(want);
        for (int i = 0; i < w.length(); i += 3) {
            if (!so(w.substring(i, i + 3), p.humours)) {
                return false;
            }
        }
        return true;
    }

    int had(Person p) {
        int b = 0;
        for (int w = 0; w < wants.size(); w++) {
            b |= has(p, w) ? 1 << w : 0;
        }
        return b;
    }

    int allHad(List<Person> all) {
        int n = 0;
        for (Person p : all) {
            n += Integer.bitCount(had(p));
        }
        return n;
    }

    static int allHumours(List<Person> all) {
        int n = 0;
        for (Person p : all) {
            for (int v : p.humours) {
                n += v;
            }
        }
        return n;
    }

    static int allHeld(List<Person> all) {
        int n = 0;
        for (Person p : all) {
            n += p.holds();
        }
        return n;
    }

    // ---- days

    void live(Person p, int onDay, String byRule) {
        int[] next = p.humours.clone();
        for (int g = 0; g < grounds.size(); g++) {
            for (int h = 0; h < 4; h++) {
                if (p.held[g] >= 0 && grounds.get(g).pull[h] >= 0) {
                    next[h] += push(byRule, p.humours[h], grounds.get(g).pull[h], grounds.get(g).grade, p.holds(),
                        p.held[g], p.strength, onDay % 7);
                }
            }
        }
        for (int h = 0; h < 4; h++) {
            p.humours[h] = Math.max(0, Math.min(9, next[h]));
        }
        for (int g = 0; g < 8; g++) {
            p.held[g] = p.held[g] < 0 ? -1 : Math.min(99, p.held[g] + 1);
        }
    }

    Person in(Person p, int n) {
        Person q = p.copy();
        for (int i = 0; i < n; i++) {
            live(q, day + i, rule);
        }
        return q;
    }

    Person inWith(int p, int some, int n) {
        Person q = people.get(p).copy();
        for (int g = 0; g < 8; g++) {
            if ((some >> g & 1) == 1) {
                q.held[g] = 0;
            }
        }
        return in(q, n);
    }

    State state() {
        State s = new State();
        s.stock = new int[grounds.size()];
        for (int g = 0; g < grounds.size(); g++) {
            s.stock[g] = grounds.get(g).stock;
        }
        s.people = copies();
        s.day = day;
        s.signed = signed;
        return s;
    }

    List<Person> copies() {
        List<Person> all = new ArrayList<>();
        for (Person p : people) {
            all.add(p.copy());
        }
        return all;
    }

    void restore(State s) {
        for (int g = 0; g < grounds.size(); g++) {
            grounds.get(g).stock = s.stock[g];
        }
        people = new ArrayList<>();
        for (Person p : s.people) {
            people.add(p.copy());
        }
        day = s.day;
        signed = s.signed;
    }

    void remember(State s) {
        past.addLast(s);
        if (past.size() > 12) {
            past.removeFirst();
        }
    }

    int give(int p, int g) {
        if (noPerson(p) || noGround(g)) {
            return -1;
        }
        if (people.get(p).held[g] >= 0) {
            return -2;
        }
        if (grounds.get(g).stock == 0) {
            return -3;
        }
        grounds.get(g).stock--;
        people.get(p).held[g] = 0;
        signed = Math.min(9999, signed + 1);
        return people.get(p).holds();
    }

    int back(int p, int g) {
        if (noPerson(p) || noGround(g)) {
            return -1;
        }
        if (people.get(p).held[g] < 0) {
            return -2;
        }
        grounds.get(g).stock = Math.min(99, grounds.get(g).stock + 1);
        people.get(p).held[g] = -1;
        return people.get(p).holds();
    }

    int make(int g, int n) {
        if (noGround(g) || n < 1 || n > 99) {
            return -1;
        }
        grounds.get(g).stock = Math.min(99, grounds.get(g).stock + n);
        return grounds.get(g).stock;
    }

    int spend(int n, String byRule) {
        int came = 0;
        for (int i = 0; i < n; i++) {
            for (Person p : people) {
                int before = had(p);
                live(p, day, byRule);
                came += Integer.bitCount(had(p) & ~before);
            }
            day++;
        }
        return came;
    }

    int done(State before, int answer) {
        if (answer >= 0) {
            remember(before);
        }
        return answer;
    }

    int gives(int p, int g) {
        return done(state(), give(p, g));
    }

    int takesBack(int p, int g) {
        return done(state(), back(p, g));
    }

    int makes(int g, int n) {
        return done(state(), make(g, n));
    }

    int days(int n) {
        if (n < 0 || n > 60) {
            return -1;
        }
        if (n > 0) {
            remember(state());
        }
        int came = spend(n, rule);
        tell(allHumours(people), came);
        return allHad(people);
    }

    void tell(long... numbers) {
        row = new ArrayList<>();
        for (long n : numbers) {
            row.add(n);
        }
    }

    int year() {
        String t = taken();
        int p = t.isEmpty() ? -1 : slip(t, "(?:[gt][0-9][0-9]|m[0-9][1-9]|d[0-9])*", 60);
        if (p >= 0) {
            return -1 - p;
        }
        State before = state();
        int done = 0;
        boolean failed = false;
        for (String act : t.replaceAll("([gtmd])", " $1").trim().split(" ")) {
            if (act.isEmpty() || failed) {
                continue;
            }
            int a = act.charAt(1) - '0';
            int b = act.length() > 2 ? act.charAt(2) - '0' : 0;
            int answer = act.charAt(0) == 'g' ? give(a, b) : act.charAt(0) == 't' ? back(a, b)
                : act.charAt(0) == 'm' ? make(a, b) : spend(a, rule);
            failed = answer < 0;
            done += failed ? 0 : 1;
        }
        if (done > 0) {
            remember(before);
        }
        tell(failed ? 1 : 0, allHad(people));
        return done;
    }

    int undo() {
        if (past.isEmpty()) {
            return -1;
        }
        restore(past.removeLast());
        return past.size();
    }

    // ---- later

    int later(int p, int h, int n) {
        if (noPerson(p) || h < 0 || h > 3 || n < 0 || n > 99) {
            return -1;
        }
        Person q = in(people.get(p), n);
        tell(q.humours[0], q.humours[1], q.humours[2], q.humours[3], had(q));
        return q.humours[h];
    }

    int settles(int p) {
        if (noPerson(p)) {
            return -1;
        }
        for (int n = 0; n <= 99; n++) {
            Person q = in(people.get(p), n);
            if (Arrays.equals(q.humours, in(people.get(p), n + 1).humours)) {
                tell(q.humours[0], q.humours[1], q.humours[2], q.humours[3]);
                return n;
            }
        }
        return -2;
    }

    int when(int p, int w) {
        if (noPerson(p) || noWant(w)) {
            return -1;
        }
        for (int n = 0; n <= 99; n++) {
            Person q = in(people.get(p), n);
            if (has(q, w)) {
                tell(Integer.bitCount(had(q)));
                return n;
            }
        }
        return -2;
    }

    int lacks(int p, int w) {
        if (noPerson(p) || noWant(w)) {
            return -1;
        }
        int bits = 0;
        int off = 0;
        String want = wants.get(w);
        for (int i = 0; i < want.length() / 3; i++) {
            String term = want.substring(3 * i, 3 * i + 3);
            if (!so(term, people.get(p).humours)) {
                bits |= 1 << i;
                off += 1 + Math.abs(people.get(p).humours[term.charAt(0) - 'a'] - (term.charAt(2) - '0'));
            }
        }
        tell(off);
        return bits;
    }

    int richest() {
        int best = -2;
        int nobody = (1 << wants.size()) - 1;
        for (int p = people.size() - 1; p >= 0; p--) {
            int h = had(people.get(p));
            nobody &= ~h;
            if (best < 0 || Integer.bitCount(h) >= Integer.bitCount(had(people.get(best)))) {
                best = p;
            }
        }
        if (best >= 0) {
            tell(had(people.get(best)), nobody);
        }
        return best;
    }

    int apart(int a, int b, int n) {
        if (noPerson(a) || noPerson(b) || a == b || n < 0 || n > 99) {
            return -1;
        }
        int[] x = in(people.get(a), n).humours;
        int[] y = in(people.get(b), n).humours;
        tell(x[0] - y[0], x[1] - y[1], x[2] - y[2], x[3] - y[3]);
        int sum = 0;
        for (long d : row) {
            sum += (int) Math.abs(d);
        }
        return sum;
    }

    // ---- which grounds

    int free(int p) {
        int b = 0;
        for (int g = 0; g < grounds.size(); g++) {
            b |= grounds.get(g).stock > 0 && people.get(p).held[g] < 0 ? 1 << g : 0;
        }
        return b;
    }

    int grades(int some) {
        int sum = 0;
        for (int g = 0; g < grounds.size(); g++) {
            sum += (some >> g & 1) * grounds.get(g).grade;
        }
        return sum;
    }

    int fewest(int p, int w, int n) {
        if (noPerson(p) || noWant(w) || n < 0 || n > 20) {
            return -1;
        }
        long[] best = null;
        for (int some = 0; some < 1 << grounds.size(); some++) {
            if ((some & ~free(p)) == 0 && has(inWith(p, some, n), w)) {
                long[] it = {Integer.bitCount(some), grades(some), some};
                if (best == null || Arrays.compare(it, best) < 0) {
                    best = it;
                }
            }
        }
        if (best == null) {
            return -2;
        }
        tell(best[2], best[1]);
        return (int) best[0];
    }

    int serves(int p, int n) {
        if (noPerson(p) || n < 0 || n > 60) {
            return -1;
        }
        int best = -2;
        for (int g = 0; g < grounds.size(); g++) {
            if ((free(p) >> g & 1) == 1 && (best < 0 || Integer.bitCount(had(inWith(p, 1 << g, n)))
                > Integer.bitCount(had(inWith(p, 1 << best, n))))) {
                best = g;
            }
        }
        if (best >= 0) {
            tell(had(inWith(p, 1 << best, n)), had(inWith(p, 0, n)));
        }
        return best;
    }

    int burdens(int p, int n) {
        if (noPerson(p) || n < 0 || n > 60) {
            return -1;
        }
        int best = -2;
        int most = 0;
        for (int g = 0; g < grounds.size(); g++) {
            if (people.get(p).held[g] >= 0) {
                Person q = people.get(p).copy();
                q.held[g] = -1;
                int h = had(in(q, n));
                if (best < 0 || Integer.bitCount(h) > Integer.bitCount(most)) {
                    best = g;
                    most = h;
                }
            }
        }
        if (best >= 0) {
            tell(most);
        }
        return best;
    }

    boolean quarrel(int a, int b, int k) {
        for (int h = 0; h < 4; h++) {
            int x = grounds.get(a).pull[h];
            int y = grounds.get(b).pull[h];
            if (x >= 0 && y >= 0 && Math.abs(x - y) > k) {
                return true;
            }
        }
        return false;
    }

    int quarrels(int k) {
        if (k < 0 || k > 9) {
            return -1;
        }
        int n = 0;
        tell();
        for (int b = 0; b < grounds.size(); b++) {
            for (int a = 0; a < b; a++) {
                if (quarrel(a, b, k)) {
                    n++;
                    if (row.isEmpty() || a < row.get(0) || a == row.get(0) && b < row.get(1)) {
                        tell(a, b);
                    }
                }
            }
        }
        return n;
    }

    int peace(int k) {
        if (k < 0 || k > 9) {
            return -1;
        }
        int best = 0;
        for (int some = (1 << grounds.size()) - 1; some >= 0; some--) {
            boolean calm = true;
            for (int a = 0; a < 8; a++) {
                for (int b = 0; b < a; b++) {
                    calm &= (some >> a & some >> b & 1) == 0 || !quarrel(a, b, k);
                }
            }
            if (calm && Integer.bitCount(some) >= Integer.bitCount(best)) {
                best = some;
            }
        }
        tell(best);
        return Integer.bitCount(best);
    }

    int pulls(int some) {
        if (some < 0 || some > (1 << grounds.size()) - 1) {
            return -1;
        }
        long[] mean = {-1, -1, -1, -1};
        int bits = 0;
        for (int h = 0; h < 4; h++) {
            List<Integer> to = new ArrayList<>();
            for (int g = 0; g < grounds.size(); g++) {
                if ((some >> g & 1) == 1 && grounds.get(g).pull[h] >= 0) {
                    to.add(grounds.get(g).pull[h]);
                }
            }
            if (!to.isEmpty()) {
                bits |= 1 << h;
                mean[h] = to.stream().mapToInt(Integer::intValue).sum() / to.size();
            }
        }
        tell(mean);
        return bits;
    }

    // ---- which it was

    int seen(int n, int h, int v) {
        if (n < 0 || n > 30 || h < 0 || h > 3 || v < 0 || v > 9 || seen.size() == 12) {
            return -1;
        }
        seen.add(new int[] {n, h, v});
        return seen.size();
    }

    int forget() {
        int n = seen.size();
        seen.clear();
        return n;
    }

    boolean agrees(int p, int some) {
        for (int[] s : seen) {
            if (inWith(p, some, s[0]).humours[s[1]] != s[2]) {
                return false;
            }
        }
        return true;
    }

    int fitting(int p) {
        int b = 0;
        for (int g = 0; g < grounds.size(); g++) {
            b |= people.get(p).held[g] < 0 && agrees(p, 1 << g) ? 1 << g : 0;
        }
        return b;
    }

    int fits(int p) {
        if (noPerson(p)) {
            return -1;
        }
        int b = fitting(p);
        tell(Integer.bitCount(b), agrees(p, 0) ? 1 : 0);
        return b;
    }

    int looks(int p, int n) {
        if (noPerson(p) || n < 0 || n > 30) {
            return -1;
        }
        int b = fitting(p);
        if (b == 0) {
            return -2;
        }
        int best = -1;
        int least = 99;
        for (int h = 0; h < 4; h++) {
            int most = 0;
            for (int v = 0; v <= 9; v++) {
                int left = 0;
                for (int g = 0; g < grounds.size(); g++) {
                    left += (b >> g & 1) == 1 && inWith(p, 1 << g, n).humours[h] == v ? 1 : 0;
                }
                most = Math.max(most, left);
            }
            if (most < least) {
                least = most;
                best = h;
            }
        }
        tell(least);
        return best;
    }

    // ---- covers, shares

    int covers(int n) {
        if (n < 0 || n > 20) {
            return -1;
        }
        int[] serve = new int[grounds.size()];
        for (int g = 0; g < grounds.size(); g++) {
            for (int p = 0; p < people.size(); p++) {
                serve[g] |= people.get(p).held[g] >= 0 ? 0 : had(inWith(p, 1 << g, n));
            }
        }
        int best = -1;
        for (int some = 0; some < 1 << grounds.size(); some++) {
            int b = 0;
            for (int g = 0; g < grounds.size(); g++) {
                b |= (some >> g & 1) == 1 ? serve[g] : 0;
            }
            if (b == (1 << wants.size()) - 1 && (best < 0 || Integer.bitCount(some) < Integer.bitCount(best))) {
                best = some;
            }
        }
        if (best < 0) {
            return -2;
        }
        tell(best);
        return Integer.bitCount(best);
    }

    private int[][] worth;
    private int mostShared;
    private int[] bestShare;

    int shares(int n) {
        if (n < 0 || n > 20) {
            return -1;
        }
        worth = new int[people.size()][grounds.size() + 1];
        for (int p = 0; p < people.size(); p++) {
            for (int g = -1; g < grounds.size(); g++) {
                worth[p][g + 1] = g >= 0 && people.get(p).held[g] >= 0 ? -1
                    : Integer.bitCount(had(inWith(p, g < 0 ? 0 : 1 << g, n)));
            }
        }
        mostShared = -1;
        share(0, new int[people.size()], 0);
        tell();
        for (int g : bestShare) {
            row.add((long) g);
        }
        return mostShared;
    }

    /** All rows, from the least on. */
    private void share(int p, int[] share, int sum) {
        if (p == people.size()) {
            if (sum > mostShared) {
                mostShared = sum;
                bestShare = share.clone();
            }
            return;
        }
        for (int g = -1; g < grounds.size(); g++) {
            int used = 0;
            for (int q = 0; q < p; q++) {
                used += g >= 0 && share[q] == g ? 1 : 0;
            }
            if (worth[p][g + 1] >= 0 && (g < 0 || used < grounds.get(g).stock)) {
                share[p] = g;
                share(p + 1, share, sum + worth[p][g + 1]);
            }
        }
    }

    // ---- the counter, envelopes

    private static final Boolean[][] WINS = new Boolean[100][100];

    /** Both heaps are there; who is to take wins if some way empties one or leaves the other a lost game. */
    static boolean wins(int a, int b) {
        if (WINS[a][b] == null) {
            WINS[a][b] = firstWay(a, b) > 0;
        }
        return WINS[a][b];
    }

    static int firstWay(int a, int b) {
        for (int k = 1; k <= 100; k++) {
            int x = a >= b ? a - k * b : a;
            int y = a >= b ? b : b - k * a;
            if (x < 0 || y < 0) {
                return 0;
            }
            if (x == 0 || y == 0 || !wins(x, y)) {
                return k;
            }
        }
        return 0;
    }

    int counter(int a, int b) {
        if (a < 0 || a > 99 || b < 0 || b > 99) {
            return -1;
        }
        if (a == 0 || b == 0) {
            return -2;
        }
        int k = firstWay(a, b);
        tell();
        if (k > 0) {
            tell(k);
        }
        return k > 0 ? 1 : 0;
    }

    static long[] lots(int n, int at, int used, int own, long[] counts) {
        if (at == n) {
            counts[own]++;
            return counts;
        }
        for (int i = 0; i < n; i++) {
            if ((used >> i & 1) == 0) {
                lots(n, at + 1, used | 1 << i, own + (i == at ? 1 : 0), counts);
            }
        }
        return counts;
    }

    private static final long[][] LOTS = new long[9][];

    void fraction(java.math.BigInteger a, java.math.BigInteger b) {
        java.math.BigInteger g = a.gcd(b);
        tell(a.divide(g).longValueExact(), b.divide(g).longValueExact());
    }

    int right(int n, int k) {
        if (n < 1 || n > 8 || k < 0 || k > 8) {
            return -1;
        }
        if (LOTS[n] == null) {
            LOTS[n] = lots(n, 0, 0, 0, new long[9]);
        }
        fraction(java.math.BigInteger.valueOf(LOTS[n][k]),
            java.math.BigInteger.valueOf(Arrays.stream(LOTS[n]).sum()));
        return 0;
    }

    int same(int k) {
        if (k < 1 || k > 4) {
            return -1;
        }
        int all = grounds.stream().mapToInt(g -> g.stock).sum();
        if (all < k) {
            return -2;
        }
        // Sets of k instead of rows of k: the chance is the same.
        java.math.BigInteger alike = java.math.BigInteger.ZERO;
        for (Ground g : grounds) {
            alike = alike.add(sets(g.stock, k));
        }
        fraction(alike, sets(all, k));
        return 0;
    }

    static java.math.BigInteger sets(int n, int k) {
        java.math.BigInteger r = java.math.BigInteger.ONE;
        for (int i = 0; i < k; i++) {
            r = r.multiply(java.math.BigInteger.valueOf(n - i)).divide(java.math.BigInteger.valueOf(i + 1));
        }
        return n < k ? java.math.BigInteger.ZERO : r;
    }

    // ---- rests, rules, years

    int rests(int v, int c) {
        if (v < 0 || v > 20 || c < 0 || c > 5) {
            return -1;
        }
        int n = 0;
        tell();
        for (int x = 9; x >= 0; x--) {
            for (int y = 9; y >= 0; y--) {
                boolean rest = true;
                for (int z = 0; z <= 9; z++) {
                    rest &= (y >= z ? z : 0) <= (y >= x ? x : 0);
                    rest &= (z >= x ? v : 0) - c * z <= (y >= x ? v : 0) - c * y;
                }
                if (rest) {
                    n++;
                    tell(x, y);
                }
            }
        }
        return n;
    }

    int law() {
        String t = taken();
        int p = ruleSlip(t);
        if (p >= 0) {
            return -10000 - p;
        }
        State s = state();
        spend(10, t);
        int by = allHad(people);
        restore(s);
        spend(10, rule);
        int is = allHad(people);
        restore(s);
        tell(by, is);
        return by - is;
    }

    int years(int seed, int n) {
        if (n < 1 || n > 60) {
            return -1;
        }
        State s = state();
        int r = seed;
        for (int i = 0; i < n; i++) {
            r = r * 1103515245 + 12345;
            int what = (r >>> 16) % 4;
            if (what < 2) {
                spend(1, rule);
            } else if (!people.isEmpty() && !grounds.isEmpty()) {
                r = r * 1103515245 + 12345;
                int p = (r >>> 16) % people.size();
                r = r * 1103515245 + 12345;
                int g = (r >>> 16) % grounds.size();
                int ignored = what == 2 ? give(p, g) : back(p, g);
            }
        }
        tell(allHumours(people), allHeld(people));
        int had = allHad(people);
        restore(s);
        return had;
    }

    // ---- kept

    boolean keep(int i) {
        if (i < 0 || i > 1) {
            return false;
        }
        kept[i] = state();
        return true;
    }

    boolean again(int i) {
        if (i < 0 || i > 1 || kept[i] == null) {
            return false;
        }
        restore(kept[i]);
        past.clear();
        return true;
    }

    int count(int what) {
        switch (what) {
            case 0: return grounds.size();
            case 1: return people.size();
            case 2: return wants.size();
            case 3: return day;
            case 4: return signed;
            case 5: return grounds.stream().mapToInt(g -> g.stock).sum();
            case 6: return allHeld(people);
            case 7: return allHad(people);
            case 8: return allHumours(people);
            case 9: return seen.size();
            case 10: return past.size();
            case 11: return row.size();
            case 12: return text.length();
            default: return -1;
        }
    }

    long row(int i) {
        if (i < 0 || i >= row.size()) {
            throw new NoSuchElementException();
        }
        return row.get(i);
    }
}
