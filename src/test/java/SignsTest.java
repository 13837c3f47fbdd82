/** Promises 4 to 7, 16 and 40: which sign can stand where in a text, where a text ends too early, where it has too many. */
public final class SignsTest {
    private static final Check CHECK = new Check("signs");
    private static final String DIGITS = "0123456789";
    private static final String FIRST = "123456789";
    private static final String PULLS = DIGITS + "-";
    private static final String THINGS = "vtgedsn" + DIGITS + "-(";
    private static final String SUMS = "+-*/";
    private static final String BETWEEN = SUMS + "<>=";
    private static final String ACTS = "gtmd";
    private static final int SIGNS = 256;

    private interface Reads {
        int answer(ReasonsSupplied x, String text);
    }

    public static void main(String[] args) {
        groundSigns();
        peopleSigns();
        wantSigns();
        ruleSigns("7 rule", Check::rule, -1);
        ruleSigns("40 law", Check::law, -10000);
        yearSigns();
        groundRoom();
        peopleRoom();
        wantRoom();
        tooMany();
        tooManyOfRules("7 rule", Check::rule, -1);
        tooManyOfRules("40 law", Check::law, -10000);
        nothingIsLeftOfAWrongText();
        CHECK.end();
    }

    private static String shown(String text) {
        StringBuilder all = new StringBuilder();
        for (int i = 0; i < text.length(); i++) {
            char c = text.charAt(i);
            all.append(c > ' ' && c < 127 ? "" + c : "\\" + (int) c);
        }
        return all.toString();
    }

    /** Behind the first signs just some can stand; without more the text ends well, or at its end too early. */
    private static void next(String call, Reads reads, int slip, String first, String can, boolean mayEnd) {
        for (int sign = 0; sign < SIGNS; sign++) {
            String text = first + (char) sign;
            int answer = reads.answer(new ReasonsSupplied(), text);
            boolean stands = answer != slip - first.length();
            CHECK.due(call + " of " + shown(text) + ": its last sign stands", stands, can.indexOf(sign) >= 0);
        }
        if (!first.isEmpty()) {
            ReasonsSupplied x = new ReasonsSupplied();
            int answer = reads.answer(x, first);
            CHECK.due(call + " of " + first + " ends well", answer > slip - first.length(), mayEnd);
            CHECK.due(call + " of " + first + " ends too early", answer == slip - first.length(), !mayEnd);
            CHECK.due(call + " of " + first + ": THE TEXT is empty then", x.count(12), 0);
        }
    }

    private static void groundSigns() {
        for (String line : new String[] {"", "19-0-9;", "111111;9090--;"}) {
            next("4 grounds", Check::grounds, -1, line, FIRST, false);
            next("4 grounds", Check::grounds, -1, line + "7", DIGITS, false);
            for (int pulls = 0; pulls < 4; pulls++) {
                next("4 grounds", Check::grounds, -1, line + "10" + "-9-0".substring(0, pulls), PULLS, false);
            }
            next("4 grounds", Check::grounds, -1, line + "10-9-0", ";", true);
        }
    }

    private static void peopleSigns() {
        for (String line : new String[] {"", "90909;", "11111;20000;"}) {
            next("5 people", Check::people, -1, line, FIRST, false);
            for (int humours = 0; humours < 4; humours++) {
                next("5 people", Check::people, -1, line + "1" + "0909".substring(0, humours), DIGITS, false);
            }
            next("5 people", Check::people, -1, line + "10909", ";", true);
        }
    }

    private static void wantSigns() {
        for (String line : new String[] {"", "a<0;", "d>9a<1b>2;"}) {
            next("6 wants", Check::wants, -1, line, "abcd", false);
            for (String terms : new String[] {"", "a>0", "d<9c>8"}) {
                next("6 wants", Check::wants, -1, line + terms + "b", "<>", false);
                next("6 wants", Check::wants, -1, line + terms + "c<", DIGITS, false);
                next("6 wants", Check::wants, -1, line + terms + "a>", DIGITS, false);
            }
            next("6 wants", Check::wants, -1, line + "a<1", "abcd;", true);
            next("6 wants", Check::wants, -1, line + "a<1a>1", "abcd;", true);
            next("6 wants: a fourth TERM", Check::wants, -1, line + "a<1a>1a<1", ";", true);
        }
    }

    private static void ruleSigns(String call, Reads reads, int slip) {
        String[] aheadOfThings = {"", "-", "--", "v+", "v-", "v*", "v/", "v<", "v>", "v=", "v--", "(", "(((", "(v)*(", "((((v))))+(((", "(v)+(((", "1<(2<("};
        for (String first : aheadOfThings) {
            next(call, reads, slip, first, THINGS, false);
        }
        for (String first : new String[] {"((((", "-((((", "((((-", "((((v+", "((v)+((v)+(("}) {
            next(call + ": at most 4 in one another", reads, slip, first, THINGS.replace("(", ""), false);
        }
        for (String first : new String[] {"v", "123", "007", "(v)", "(1)", "(12)", "1+v", "12*(3)", "-v", "v+v", "v*-t", "(v<t)", "((v))"}) {
            next(call, reads, slip, first, BETWEEN, true);
        }
        for (String first : new String[] {"1", "12", "v+1", "v-12", "-0", "(v)+99"}) {
            next(call + ": 1 to 3 digits", reads, slip, first, BETWEEN + DIGITS, true);
        }
        for (String first : new String[] {"(v", "(123", "v+(v*(t)", "v<(t", "v<t+(g", "((v<t)+g", "(v=t)+(g"}) {
            next(call, reads, slip, first, BETWEEN + ")", false);
        }
        for (String first : new String[] {"v<t", "v=t", "v>t", "v<t+e", "v<(t)", "v<(t<g)", "(v<t)<(g=e)", "v=-t", "-v=t*(1<2)"}) {
            next(call + ": not one behind the other", reads, slip, first, SUMS, true);
        }
        for (String first : new String[] {"(v<t", "(v>t*g", "((v=t", "v<(t<g", "1+(v=(t<g)", "((v<((t))"}) {
            next(call + ": not one behind the other in ( )", reads, slip, first, SUMS + ")", false);
        }
        next(call + ": a fourth digit", reads, slip, "(123", BETWEEN + ")", false);
        next(call, reads, slip, "v<12", SUMS + DIGITS, true);
        next(call, reads, slip, "(v<12", SUMS + DIGITS + ")", false);
    }

    private static void yearSigns() {
        next("16 year", Check::year, -1, "", ACTS, true);
        for (String act : new String[] {"g00", "t99", "m09", "m91", "d0", "d9", "d1g00", "m11t00"}) {
            next("16 year", Check::year, -1, act, ACTS, true);
            for (String begun : new String[] {"g", "t", "m", "d", "g0", "t9"}) {
                next("16 year", Check::year, -1, act + begun, DIGITS, false);
            }
            next("16 year", Check::year, -1, act + "m0", FIRST, false);
            next("16 year", Check::year, -1, act + "m9", FIRST, false);
        }
    }

    private static String lines(String line, int n) {
        StringBuilder all = new StringBuilder();
        for (int i = 0; i < n; i++) {
            all.append(i > 0 ? ";" : "").append(line);
        }
        return all.toString();
    }

    /** By how many are there, a LINE for which there is no room slips at its first sign; nothing of it comes. */
    private static void room(String call, Reads reads, int what, int most, String line) {
        for (int there = 0; there <= most; there++) {
            ReasonsSupplied x = new ReasonsSupplied();
            CHECK.due(call + " of " + there, reads.answer(x, lines(line, there)), there);
            int left = most - there;
            int at = left * (line.length() + 1);
            if (there > 0) {
                CHECK.due(call + ": one more than there is room for", reads.answer(x, lines(line, left + 1)), -1 - at);
                CHECK.due(call + ": its first sign alone", reads.answer(x, lines(line, left + 1).substring(0, at + 1)), -1 - at);
                CHECK.due(call + ": a sign that never could stand", reads.answer(x, lines(line, left + 1).substring(0, at) + "~"), -1 - at);
            }
            if (there > 0 && left > 0) {
                CHECK.due(call + ": it ends behind a ;", reads.answer(x, lines(line, left) + ";"), -1 - at);
            }
            CHECK.due(call + ": nothing of it comes", x.count(what), there);
            CHECK.due(call + ": an empty text", reads.answer(x, ""), 0);
            CHECK.due(call + ": all for which there is room", reads.answer(x, lines(line, left)), left);
            CHECK.due(call + ": full", x.count(what), most);
            CHECK.due(call + ": an empty text, full", reads.answer(x, ""), 0);
            CHECK.due(call + ": no room", reads.answer(x, line), -1);
            CHECK.due(call + ": full as before", x.count(what), most);
        }
    }

    private static void groundRoom() {
        room("4 grounds", Check::grounds, 0, 8, "10----");
    }

    private static void peopleRoom() {
        room("5 people", Check::people, 1, 6, "10000");
    }

    private static void wantRoom() {
        room("6 wants", Check::wants, 2, 6, "a<1");
        ReasonsSupplied x = new ReasonsSupplied();
        CHECK.due("6 wants: seven lines, room for six", Check.wants(x, lines("a<1", 7)), -1 - 24);
        CHECK.due("6 wants: seven lines of two terms", Check.wants(x, lines("a<1a>1", 7)), -1 - 42);
    }

    /** More signs than a text can have: the first of these, unless one ahead of it can't stand. */
    private static void tooMany() {
        String eight = lines("10----", 8);
        String six = lines("10000", 6);
        String wants = lines("a<1b<1c<1", 6);
        String year = lines("d0", 30).replace(";", "");
        tooMany("4 grounds", Check::grounds, eight, 55, 8);
        tooMany("5 people", Check::people, six, 35, 6);
        tooMany("6 wants", Check::wants, wants, 59, 6);
        tooMany("16 year", Check::year, year, 60, 30);
        CHECK.due("16 year: 60 in the midst of an act", Check.year(new ReasonsSupplied(), year.substring(0, 58) + "m01"), -61);
        CHECK.due("16 year: 60 in the midst, the next one wrong", Check.year(new ReasonsSupplied(), year.substring(0, 58) + "m00"), -61);
        CHECK.due("16 year: the last of 60 wrong", Check.year(new ReasonsSupplied(), year.substring(0, 59) + "xd0"), -60);
    }

    private static void tooMany(String call, Reads reads, String longest, int most, int lines) {
        CHECK.due(call + ": the longest text", longest.length(), most);
        CHECK.due(call + ": the longest text", reads.answer(new ReasonsSupplied(), longest), lines);
        for (String more : new String[] {";", "x", "1", "a", "d", "g00", ";10----", "d0"}) {
            CHECK.due(call + " of more signs", reads.answer(new ReasonsSupplied(), longest + more), -1 - most);
        }
        CHECK.due(call + " of more, the last one that can be wrong", reads.answer(new ReasonsSupplied(), longest.substring(0, most - 1) + "xx"), -most);
        CHECK.due(call + " of more, the first one wrong", reads.answer(new ReasonsSupplied(), "x" + longest), -1);
        CHECK.due(call + " that lacks its last sign", reads.answer(new ReasonsSupplied(), longest.substring(0, most - 1)), -most);
    }

    private static void tooManyOfRules(String call, Reads reads, int slip) {
        String forty = lines("v", 19).replace(';', '+') + "+--";
        String longest = forty.substring(0, 39) + "v";
        CHECK.due(call + ": the longest text", longest.length(), 40);
        CHECK.due(call + ": the longest text", reads.answer(new ReasonsSupplied(), longest), 0);
        CHECK.due(call + " of 41", reads.answer(new ReasonsSupplied(), longest + "+"), slip - 40);
        CHECK.due(call + " of 41, the last wrong", reads.answer(new ReasonsSupplied(), longest + "v"), slip - 40);
        CHECK.due(call + " of 80", reads.answer(new ReasonsSupplied(), longest + longest), slip - 40);
        CHECK.due(call + " of 40 that end too early", reads.answer(new ReasonsSupplied(), forty), slip - 40);
        CHECK.due(call + " of 41, the first 40 could go on", reads.answer(new ReasonsSupplied(), forty + "v"), slip - 40);
        CHECK.due(call + " of 41, the last but one wrong", reads.answer(new ReasonsSupplied(), longest.substring(0, 39) + ")v"), slip - 39);
        CHECK.due(call + " of 41, an open bracket", reads.answer(new ReasonsSupplied(), "(" + longest), slip - 40);
    }

    /** As rules are read by turns into two places, each is read into both. */
    private static void readsAnew(String text) {
        ReasonsSupplied x = Check.bureau("119---", "15555", "a>8");
        x.gives(0, 0);
        String[] rules = {"3", "1<2", "((((v<t))))", "12-v"};
        int[] due = {8, 6, 6, 9};
        for (int turn = 0; turn < 2; turn++) {
            Check.law(x, text);
            CHECK.due("7 v1 behind " + text, Check.rule(x, "v1"), -2);
            for (int i = 0; i < rules.length; i++) {
                Check.rule(x, text);
                Check.law(x, text);
                CHECK.due("7 " + rules[i] + " behind " + text, Check.rule(x, rules[i]), 0);
                CHECK.due("7 " + rules[i] + " behind " + text, x.later(0, 0, 1), due[i]);
            }
            Check.rule(x, "");
            CHECK.due("7 none behind " + text, x.later(0, 0, 1), 6);
        }
    }

    /** A wrong text ends anywhere; a good one behind it is read as if it were the first. */
    private static void nothingIsLeftOfAWrongText() {
        String[] wrong = {"-", "--", "(", "((((", "(((((", "1", "12", "123x", "v+1x", "v<", "v<t<", "(v<t", "((v<t)=g<1", "v+", "v*-", "2-(", ")", "12)"};
        for (String text : wrong) {
            for (String end : new String[] {"", "~"}) {
                readsAnew(text + end);
            }
        }
        for (String text : new String[] {"1", "12", "v<t", "-v", "v+12"}) {
            readsAnew(text);
        }
        for (String text : new String[] {"1", "10", "10---", "10----;", "10----;2"}) {
            ReasonsSupplied x = new ReasonsSupplied();
            Check.grounds(x, text);
            CHECK.due("4 a good one behind " + text, Check.grounds(x, "29----"), 1);
            CHECK.due("4 it alone", x.count(0), 1);
            CHECK.due("4 GRADE", x.ground(0, 0), 2);
            CHECK.due("4 STOCK", x.ground(0, 1), 9);
        }
        for (String text : new String[] {"a", "a<", "a<1b", "a<1b<2c", "a<1b<2c<3d", "a<1;"}) {
            ReasonsSupplied x = new ReasonsSupplied();
            Check.wants(x, text);
            CHECK.due("6 a good one behind " + text, Check.wants(x, "a<1b<1c<1"), 1);
            CHECK.due("6 it alone", x.count(2), 1);
        }
        for (String text : new String[] {"g", "g0", "m", "m0", "d", "d1m0"}) {
            ReasonsSupplied x = new ReasonsSupplied();
            Check.year(x, text);
            CHECK.due("16 a good one behind " + text, Check.year(x, "d0d9"), 2);
            CHECK.due("16 its DAYS alone", x.count(3), 9);
        }
    }
}
