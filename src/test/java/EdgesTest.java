import java.util.List;

/** Promise by promise, what a sentence names as the least, the most, nothing, all, or where numbers wrap. */
public final class EdgesTest {
    private static final Check CHECK = new Check("edges");
    private static final String EIGHT = "119---;22-8--;33--7-;44---6;551---;66-2--;77--3-;88---4";
    private static final String SIX = "15555;24444;33333;46666;57777;62222";

    public static void main(String[] args) {
        aNewObject();
        signsByBytes();
        numbersThatWrap();
        comparisonsInBrackets();
        asAllIsAheadOfADay();
        eachHumour();
        eachOfAll();
        sheets();
        daysOfNobody();
        daysUpToTheirBounds();
        daysHeldUpToTheirBound();
        signedUpToItsBound();
        actsOfAYear();
        whatUndoLeaves();
        whatAgainLeaves();
        settlesByEachHumour();
        lacksAtTheirEnds();
        nothingIsHad();
        quarrelsByJustSoMuch();
        fitsAtTheirEnds();
        looksAtEachHumour();
        coversAndSharesNow();
        whatIsHeldIsNotShared();
        sharesAgainstAll();
        allArguments();
        yearsOfFarSeeds();
        CHECK.end();
    }

    private static void aNewObject() {
        ReasonsSupplied x = new ReasonsSupplied();
        CHECK.due("1 richest()", x.richest(), -2);
        CHECK.due("1 same(1)", x.same(1), -2);
        CHECK.due("1 gives(0, 0)", x.gives(0, 0), -1);
        CHECK.due("1 takesBack(0, 0)", x.takesBack(0, 0), -1);
        CHECK.due("1 makes(0, 1)", x.makes(0, 1), -1);
        CHECK.due("1 later(0, 0, 0)", x.later(0, 0, 0), -1);
        CHECK.due("1 settles(0)", x.settles(0), -1);
        CHECK.due("1 when(0, 0)", x.when(0, 0), -1);
        CHECK.due("1 lacks(0, 0)", x.lacks(0, 0), -1);
        CHECK.due("1 apart(0, 1, 0)", x.apart(0, 1, 0), -1);
        CHECK.due("1 fewest(0, 0, 0)", x.fewest(0, 0, 0), -1);
        CHECK.due("1 serves(0, 0)", x.serves(0, 0), -1);
        CHECK.due("1 burdens(0, 0)", x.burdens(0, 0), -1);
        CHECK.due("1 fits(0)", x.fits(0), -1);
        CHECK.due("1 looks(0, 0)", x.looks(0, 0), -1);
        CHECK.due("1 forget()", x.forget(), 0);
        CHECK.row(x, "1 no ROW of these");
        CHECK.due("1 quarrels(0)", x.quarrels(0), 0);
        CHECK.row(x, "1 quarrels(0)");
        CHECK.due("1 peace(9)", x.peace(9), 0);
        CHECK.row(x, "1 peace(9)", 0);
        CHECK.due("1 pulls(0)", x.pulls(0), 0);
        CHECK.row(x, "1 pulls(0)", -1, -1, -1, -1);
        CHECK.due("1 covers(0)", x.covers(0), 0);
        CHECK.row(x, "1 covers(0): no WANT, no GROUND", 0);
        CHECK.due("1 shares(20)", x.shares(20), 0);
        CHECK.row(x, "1 shares(20): no PEOPLE");
        CHECK.due("1 law()", x.law(), 0);
        CHECK.row(x, "1 law()", 0, 0);
        CHECK.due("1 years(1, 1)", x.years(1, 1), 0);
        CHECK.row(x, "1 years(1, 1)", 0, 0);
        CHECK.due("1 sheet of 8", x.sheet(2, 8, 99, 0), 0);
        CHECK.due("1 a missing sheet", x.sheet(3, 0, 0, 0), -3);
        CHECK.due("1 keep(0)", x.keep(0), true);
        CHECK.due("1 again(0)", x.again(0), true);
        CHECK.due("1 year() of an empty text", x.year(), 0);
        CHECK.row(x, "1 year() of an empty text", 0, 0);
    }

    private static void signsByBytes() {
        ReasonsSupplied x = new ReasonsSupplied();
        // Bytes from 128 on are signs too, and none that can stand.
        for (int v : new int[] {0x80303030, 0xb1b0b0b0, 0xff000000, -1}) {
            x.end(0);
            CHECK.due("2 four signs of " + v, x.sign(v), 4);
            CHECK.due("2 the first of " + v, x.people(), -1);
        }
        x.sign('1' << 24 | '2' << 16 | '3' << 8 | '4');
        x.sign('5' << 24 | ';' << 16 | '9' << 8 | '8');
        x.end(6);
        x.sign('6' << 24 | '7' << 16 | '8' << 8 | '9');
        CHECK.due("3 signs come behind those that are left", x.sign('0' << 24 | 'x' << 16), 14);
        x.end(11);
        CHECK.due("3 end(12) of 11", x.end(12), false);
        CHECK.due("5 two of these", x.people(), 2);
        CHECK.due("5 the second one's STRENGTH", x.person(1, 0), 6);
        CHECK.due("5 the second one's HUMOUR d", x.person(1, 4), 0);
    }

    /** How much one of PEOPLE with HUMOUR a 5 has of it in a DAY, by a GROUND that pulls it to 9. */
    private static int nextBy(String rule) {
        ReasonsSupplied x = Check.bureau("119---", "15555", "a>8");
        x.gives(0, 0);
        CHECK.due("7 rule of " + rule, Check.rule(x, rule), 0);
        return x.later(0, 0, 1);
    }

    private static void numbersThatWrap() {
        String least = "256*256*256*128";
        CHECK.due("7 the least int is below 0", nextBy(least), 0);
        CHECK.due("7 the least int less 1 is above 0", nextBy(least + "-1"), 9);
        CHECK.due("7 the least int by -1", nextBy(least + "/-1"), 0);
        CHECK.due("7 - ahead of the least int", nextBy("-(" + least + ")"), 0);
        CHECK.due("7 the least int by 0", nextBy(least + "/0"), 5);
        CHECK.due("7 the least int by itself", nextBy(least + "/(" + least + ")"), 6);
        CHECK.due("7 256 four times wraps to 0", nextBy("256*256*256*256"), 5);
        CHECK.due("7 0 by 0", nextBy("0/0"), 5);
        CHECK.due("7 -7 by 2 is cut to 0", nextBy("-7/2"), 2);
        CHECK.due("7 -1 by 2 is cut to 0", nextBy("-1/2"), 5);
        CHECK.due("7 1 by -2 is cut to 0", nextBy("1/-2"), 5);
        CHECK.due("7 99 and more", nextBy("99"), 9);
        CHECK.due("7 999", nextBy("999-997"), 7);
        CHECK.due("7 000", nextBy("000"), 5);
        CHECK.due("7 09 is 9", nextBy("09-8"), 6);
        CHECK.due("7 - any many", nextBy("----------------------------------1"), 6);
        CHECK.due("7 - any many, one more", nextBy("-----------------------------------1"), 4);
    }

    private static void comparisonsInBrackets() {
        String[] good = {"(v<t)<t", "v<(t<g)", "(v<t)=(t>v)", "((v<t)<t)<t", "(((v<t)<t)<t)<t", "v<(t<(g<(e<(d<s))))"};
        for (String rule : good) {
            CHECK.due("7 rule of " + rule, Check.rule(new ReasonsSupplied(), rule), 0);
        }
        CHECK.due("7 a comparison is 1", nextBy("(v<t)*3"), 8);
        CHECK.due("7 a comparison is 0", nextBy("(v>t)*3"), 5);
        CHECK.due("7 one in another", nextBy("((v<t)=1)*2"), 7);
        CHECK.due("7 the outer one behind + and *", nextBy("1+v*0<t*1-7"), 6);
        CHECK.due("7 = binds as < does", nextBy("1+1=2"), 6);
        CHECK.due("7 four in one another", nextBy("((((4))))"), 9);
    }

    /** No push of a DAY sees what another one did on it; what is more than 9 or less than 0 is put there behind all of them. */
    private static void asAllIsAheadOfADay() {
        ReasonsSupplied x = Check.bureau("1120--;1120--;3120--", "10900", "a>8");
        Check.rule(x, "t-v");
        x.gives(0, 0);
        x.gives(0, 1);
        CHECK.due("15 both by the a of the day before", x.later(0, 0, 1), 4);
        CHECK.due("15 both by the b of the day before", x.later(0, 1, 1), 0);
        CHECK.due("15 the next DAY by that of this one", x.later(0, 0, 2), 0);
        x.gives(0, 2);
        Check.rule(x, "(g=1)*7-(g=3)*9");
        CHECK.due("15 7 and 7 less 9", x.later(0, 0, 1), 5);
        CHECK.due("15 9, 7 and 7 less 9", x.later(0, 1, 1), 9);
        Check.rule(x, "(g=3)*4-(g=1)*6");
        CHECK.due("15 0 less 6 and 6, 4 more", x.later(0, 0, 1), 0);
        CHECK.due("15 9 less 6 and 6, 4 more", x.later(0, 1, 1), 1);
        Check.rule(x, "(e=3)*(d=0)*(n=0)*(v=0)");
        CHECK.due("15 three at once, on the first DAY alone", x.later(0, 0, 9), 3);
    }

    /** Each HUMOUR is pulled to 9 and to 0, and ends there. */
    private static void eachHumour() {
        for (int h = 0; h < 4; h++) {
            for (int to = 0; to <= 9; to += 9) {
                int far = Math.abs(to - 5);
                String pull = "----".substring(0, h) + to + "---".substring(h);
                ReasonsSupplied x = Check.bureau("11" + pull, "15555", "abcd".charAt(h) + (to == 0 ? "<1" : ">8"));
                x.gives(0, 0);
                CHECK.due("18 one DAY ahead of it", x.later(0, h, far - 1), to == 0 ? 1 : 8);
                CHECK.due("18 when it is there", x.later(0, h, far), to);
                CHECK.due("18 never beyond", x.later(0, h, 99), to);
                CHECK.due("20 when it is there", x.when(0, 0), far);
                CHECK.due("19 when it is there", x.settles(0), far);
                Check.rule(x, to == 0 ? "-99" : "99");
                CHECK.due("18 put to 0 .. 9", x.later(0, h, 1), to);
                for (int other = 0; other < 4; other++) {
                    CHECK.due("18 no other HUMOUR", x.later(0, other, 99), other == h ? to : 5);
                }
            }
        }
    }

    /** Eight GROUNDS, six PEOPLE, who hold all. */
    private static void eachOfAll() {
        ReasonsSupplied x = Check.bureau(EIGHT, SIX, "a<1;b<1;c<1;d<1;a>8;b>8");
        x.sheet(2, 8, 6, 0);
        for (int p = 0; p < 6; p++) {
            for (int g = 0; g < 8; g++) {
                CHECK.due("12 gives(" + p + ", " + g + ")", x.gives(p, g), g + 1);
            }
            CHECK.due("9 GROUNDS of " + p, x.person(p, 5), 255);
        }
        for (int g = 0; g < 8; g++) {
            CHECK.due("8 PEOPLE of " + g, x.ground(g, 6), 63);
            CHECK.due("8 STOCK of " + g, x.ground(g, 1), 0);
        }
        CHECK.due("44 GROUNDS that are held", x.count(6), 48);
        CHECK.due("44 SIGNED", x.count(4), 48);
        CHECK.due("25 there is no such GROUND", x.serves(5, 0), -2);
        CHECK.due("26 of eight", x.burdens(5, 0), 0);
        CHECK.due("32 none but those that are held", x.fits(5), 0);
        CHECK.due("34 all are held by all", x.covers(0), -2);
        CHECK.due("35 nothing to give", x.shares(0), 0);
        CHECK.row(x, "35 nothing to give", -1, -1, -1, -1, -1, -1);
        CHECK.due("13 the last of the last one", x.takesBack(5, 7), 7);
        CHECK.due("8 PEOPLE of the last GROUND", x.ground(7, 6), 31);
        CHECK.due("25 the last one", x.serves(5, 0), 7);
        CHECK.due("32 the last one", x.fits(5), 128);
        Check.rule(x, "e*10+s");
        CHECK.due("7 e of seven, s of six", x.later(5, 3, 1), 9);
        Check.rule(x, "(e=7)*(s=6)*(g=8)");
        CHECK.due("7 the last GROUND is not held", x.later(5, 3, 1), 2);
        CHECK.due("7 e of eight, s of five", x.later(4, 3, 1), 7);
    }

    private static void sheets() {
        ReasonsSupplied x = Check.bureau("11----", "15555", "a<1");
        int[][] due = {{0, 127, 99}, {0, 128, 0}, {0, 255, 0}, {0, 256, 0}, {0, 257, 1}, {0, -1, 0}, {0, -128, 0}, {0, -129, 99}, {0, -255, 1},
            {0, 0x7fffff63, 99}, {0, Integer.MIN_VALUE + 5, 5}, {1, 127, 99}, {1, 255, 99}, {1, 32767, 99}, {1, 32768, 0}, {1, 65535, 0},
            {1, 65536, 0}, {1, 65546, 10}, {1, -1, 0}, {1, -65530, 6}, {1, -32769, 99}, {2, 98, 98}, {2, 99, 99}, {2, 100, 99}, {2, 0, 0},
            {2, -1, 0}, {2, 65536, 99}, {2, Integer.MAX_VALUE, 99}, {2, Integer.MIN_VALUE, 0}};
        for (int[] d : due) {
            CHECK.due("11 sheet(" + d[0] + ", 1, " + d[1] + ", 0)", x.sheet(d[0], 1, d[1], 0), d[2]);
            CHECK.due("11 STOCK", x.ground(0, 1), d[2]);
        }
        ReasonsSupplied y = Check.bureau(EIGHT, "15555", "a<1");
        CHECK.due("11 of 8, all of them", y.sheet(2, 8, 1, 1), 36);
        CHECK.due("11 the last one", y.ground(7, 1), 8);
        CHECK.due("11 of 7: the last one has 0", y.sheet(2, 7, 1, 1), 28);
        CHECK.due("11 the last one", y.ground(7, 1), 0);
        CHECK.due("11 of 1", y.sheet(2, 1, 99, 99), 99);
        CHECK.due("11 of none: all have 0", y.sheet(1, 0, 99, 99), 0);
        CHECK.due("11 all are 99 at most", y.sheet(2, 8, 99, 99), 8 * 99);
        CHECK.due("11 steps that wrap", y.sheet(2, 4, 5, 0x40000000), 5 + 99 + 0 + 0);
        CHECK.due("11 the wrapped ones", y.ground(1, 1) * 1000 + y.ground(2, 1) * 10 + y.ground(3, 1), 99000);
        CHECK.due("11 steps that come round", y.sheet(2, 5, 5, 0x40000000), 5 + 99 + 0 + 0 + 5);
        CHECK.due("11 f wraps", y.sheet(2, 3, Integer.MAX_VALUE - 1, 1), 99 + 99 + 0);
        CHECK.due("11 bytes go round", y.sheet(0, 8, 253, 1), 0 + 0 + 0 + 0 + 1 + 2 + 3 + 4);
        CHECK.due("11 steps down", y.sheet(1, 8, 3, -1), 3 + 2 + 1);
        y.sheet(2, 8, 1, 0);
        y.keep(0);
        y.sheet(3, 0, 0, 0);
        y.again(0);
        CHECK.due("43 STOCK ahead of a sheet", y.count(5), 8);
    }

    private static void daysOfNobody() {
        ReasonsSupplied x = new ReasonsSupplied();
        CHECK.due("15 days(60) of nobody", x.days(60), 0);
        CHECK.row(x, "15 days(60) of nobody", 0, 0);
        CHECK.due("15 DAY", x.count(3), 60);
        CHECK.due("16 a year of nobody", Check.year(x, "d9d0d1"), 3);
        CHECK.due("16 DAY", x.count(3), 70);
        CHECK.due("17 the year is undone", x.undo(), 1);
        CHECK.due("17 DAY", x.count(3), 60);
        CHECK.due("17 the days are undone", x.undo(), 0);
        CHECK.due("17 DAY", x.count(3), 0);
        x.days(3);
        Check.grounds(x, "119---");
        Check.people(x, "15555");
        x.gives(0, 0);
        Check.rule(x, "n");
        CHECK.due("7 n of DAY 3", x.later(0, 0, 1), 8);
        x.days(3);
        CHECK.due("7 n of DAY 6, of which 3 were without it", x.later(0, 0, 1), 9);
        Check.rule(x, "-(n=6)");
        CHECK.due("7 n is 6", x.later(0, 0, 1), 8);
        x.days(1);
        Check.rule(x, "-(n=0)");
        CHECK.due("7 n is 0 on DAY 7", x.later(0, 0, 1), x.person(0, 1) - 1);
    }

    /** By the rule a goes up on the DAY behind so many of holding: the bound itself counts, one less does not. */
    private static ReasonsSupplied upOnDay(int d) {
        ReasonsSupplied x = Check.bureau("119---", "15555;25555", "a>8");
        StringBuilder rule = new StringBuilder("(d=").append(d).append(")*4");
        Check.rule(x, rule.toString());
        return x;
    }

    private static void daysUpToTheirBounds() {
        ReasonsSupplied x = upOnDay(19);
        CHECK.due("24 behind 20 DAYS", x.fewest(0, 0, 20), 1);
        CHECK.due("24 behind 19 DAYS", x.fewest(0, 0, 19), -2);
        CHECK.due("34 behind 20 DAYS", x.covers(20), 1);
        CHECK.due("34 behind 19 DAYS", x.covers(19), -2);
        CHECK.due("35 behind 20 DAYS", x.shares(20), 1);
        CHECK.due("35 behind 19 DAYS", x.shares(19), 0);
        x = upOnDay(59);
        x.serves(0, 60);
        CHECK.row(x, "25 behind 60 DAYS", 1, 0);
        x.serves(0, 59);
        CHECK.row(x, "25 behind 59 DAYS", 0, 0);
        x.gives(0, 0);
        CHECK.due("15 days(59)", x.days(59), 0);
        CHECK.due("15 the 60th", x.days(1), 1);
        CHECK.row(x, "15 the 60th", 9 + 15 + 20, 1);
        x.undo();
        x.undo();
        CHECK.due("15 days(60)", x.days(60), 1);
        CHECK.row(x, "15 days(60)", 9 + 15 + 20, 1);
        x = upOnDay(29);
        x.seen(30, 0, 9);
        CHECK.due("32 behind 30 DAYS", x.fits(0), 1);
        x.forget();
        x.seen(29, 0, 9);
        CHECK.due("32 behind 29 DAYS", x.fits(0), 0);
        x = upOnDay(98);
        x.gives(0, 0);
        CHECK.due("18 in 99 DAYS", x.later(0, 0, 99), 9);
        CHECK.due("18 in 98 DAYS", x.later(0, 0, 98), 5);
        CHECK.due("23 in 99 DAYS", x.apart(0, 1, 99), 4);
        CHECK.due("23 in 98 DAYS", x.apart(0, 1, 98), 0);
        CHECK.due("20 in 99 DAYS", x.when(0, 0), 99);
        CHECK.due("19 at once, though it moves later", x.settles(0), 0);
        x = upOnDay(8);
        x.gives(0, 0);
        CHECK.due("16 d9", Check.year(x, "d9"), 1);
        CHECK.due("16 d9 are nine DAYS", x.person(0, 1), 9);
        x.undo();
        Check.year(x, "d8");
        CHECK.due("16 d8 are eight DAYS", x.person(0, 1), 5);
        x = upOnDay(9);
        x.gives(0, 0);
        CHECK.due("40 ten DAYS", Check.law(x, "0"), -1);
        CHECK.row(x, "40 ten DAYS", 0, 1);
        CHECK.due("40 not eleven", Check.law(x, "(d=10)*9"), -1);
        burdensAndLooksUpToTheirBounds();
    }

    private static void burdensAndLooksUpToTheirBounds() {
        ReasonsSupplied x = Check.bureau("119---;219---", "15555", "a>5");
        Check.rule(x, "(d=59)*((g=1)-(g=2))");
        x.gives(0, 0);
        x.gives(0, 1);
        CHECK.due("26 behind 60 DAYS", x.burdens(0, 60), 1);
        CHECK.row(x, "26 behind 60 DAYS", 1);
        CHECK.due("26 behind 59 DAYS", x.burdens(0, 59), 0);
        CHECK.row(x, "26 behind 59 DAYS", 0);
        ReasonsSupplied y = Check.bureau("1199--;2199--", "15555", "a>5");
        Check.rule(y, "(d=29)*(g=1)*(t>v)");
        CHECK.due("33 behind 30 DAYS", y.looks(0, 30), 0);
        CHECK.row(y, "33 behind 30 DAYS", 1);
        CHECK.due("33 behind 29 DAYS", y.looks(0, 29), 0);
        CHECK.row(y, "33 behind 29 DAYS", 2);
    }

    private static void daysHeldUpToTheirBound() {
        ReasonsSupplied x = Check.bureau("119---;11-9--", "15555", "a>8");
        Check.rule(x, "d=99");
        x.gives(0, 0);
        x.days(60);
        x.days(38);
        CHECK.due("10 98 DAYS", x.held(0, 0), 98);
        x.days(1);
        CHECK.due("10 99 DAYS", x.held(0, 0), 99);
        CHECK.due("7 d was at most 98", x.person(0, 1), 5);
        x.gives(0, 1);
        x.days(1);
        CHECK.due("10 99 at most", x.held(0, 0), 99);
        CHECK.due("10 another one has its own DAYS", x.held(0, 1), 1);
        CHECK.due("7 d was 99", x.person(0, 1), 6);
        x.days(2);
        CHECK.due("7 d is 99 from then on", x.person(0, 1), 8);
        CHECK.due("7 d of the other one is not", x.person(0, 2), 5);
        x.takesBack(0, 0);
        x.gives(0, 0);
        CHECK.due("12 DAYS are 0 anew", x.held(0, 0), 0);
        CHECK.due("7 d is 0 anew", x.later(0, 0, 99), 8);
    }

    /** These are more calls than an object is promised for: what tells of this bound needs so many. */
    private static void signedUpToItsBound() {
        ReasonsSupplied x = Check.bureau("11----", "15555", "a<1");
        for (int i = 0; i < 9998; i++) {
            x.gives(0, 0);
            x.takesBack(0, 0);
        }
        CHECK.due("12 SIGNED 9998", x.count(4), 9998);
        x.gives(0, 0);
        CHECK.due("12 SIGNED 9999", x.count(4), 9999);
        x.takesBack(0, 0);
        CHECK.due("12 it is given all the same", x.gives(0, 0), 1);
        CHECK.due("12 SIGNED 9999 at most", x.count(4), 9999);
    }

    private static void actsOfAYear() {
        // Each way in which an ACT can't be, as the first and as the last one.
        for (String act : new String[] {"g10", "g20", "g03", "g99", "g00", "g02", "t10", "t01", "t03", "t99", "m31", "m99"}) {
            ReasonsSupplied x = Check.bureau("119---;115---;10----", "15555", "a>8;a>5");
            x.gives(0, 0);
            CHECK.due("16 " + act + " first", Check.year(x, act + "d9"), 0);
            CHECK.row(x, "16 " + act + " first", 1, 0);
            CHECK.due("16 nothing to undo", x.count(10), 1);
            CHECK.due("16 " + act + " last", Check.year(x, "d1" + act), 1);
            CHECK.row(x, "16 " + act + " last", 1, 1);
            CHECK.due("16 one to undo", x.count(10), 2);
            CHECK.due("16 the DAY ahead of it is done", x.count(3), 1);
            CHECK.due("17 and undone", x.undo(), 1);
            CHECK.due("17 DAY", x.count(3), 0);
        }
        ReasonsSupplied x = Check.bureau("119---", "15555", "a>8;a>5");
        CHECK.due("16 made to 99 and no more", Check.year(x, "m09m09m09m09m09m09m09m09m09m09m09m09"), 12);
        CHECK.row(x, "16 made to 99 and no more", 0, 0);
        CHECK.due("16 STOCK", x.ground(0, 1), 99);
        CHECK.due("16 taken back what was given in it", Check.year(x, "g00t00g00d0d9"), 5);
        CHECK.row(x, "16 taken back what was given in it", 0, 2);
        CHECK.due("16 SIGNED", x.count(4), 2);
        CHECK.due("16 DAYS", x.held(0, 0), 9);
        CHECK.due("16 two to undo", x.count(10), 2);
    }

    private static void whatUndoLeaves() {
        ReasonsSupplied x = Check.bureau("119---", "15555", "a>8");
        x.gives(0, 0);
        Check.rule(x, "2");
        x.seen(1, 0, 7);
        x.keep(1);
        x.quarrels(0);
        x.later(0, 0, 1);
        Check.text(x, "d1");
        x.undo();
        CHECK.due("17 THE TEXT stays", x.count(12), 2);
        CHECK.due("17 the ROW stays", x.count(11), 5);
        CHECK.due("17 what was seen stays", x.count(9), 1);
        CHECK.due("17 what is kept stays", x.again(1), true);
        CHECK.due("17 THE RULE stays", x.later(0, 0, 1), 7);
        // The thirteenth pushes the first out; what was refused pushes none.
        ReasonsSupplied y = Check.bureau("10----", "15555", "a>8");
        for (int i = 1; i <= 12; i++) {
            y.makes(0, 1);
        }
        y.makes(0, 0);
        y.gives(0, 1);
        y.takesBack(0, 0);
        y.days(0);
        y.days(61);
        Check.year(y, "t00");
        Check.year(y, "");
        Check.year(y, "x");
        CHECK.due("17 twelve", y.count(10), 12);
        for (int i = 11; i >= 0; i--) {
            CHECK.due("17 undo()", y.undo(), i);
        }
        CHECK.due("17 all twelve", y.ground(0, 1), 0);
        for (int i = 1; i <= 13; i++) {
            Check.year(y, i % 2 == 0 ? "d1" : "m01");
        }
        CHECK.due("17 twelve of thirteen", y.count(10), 12);
        while (y.undo() > 0) {
            CHECK.due("17 no more than twelve", y.count(10) < 12, true);
        }
        CHECK.due("17 the first one is not undone", y.ground(0, 1), 1);
        CHECK.due("17 the second one is", y.count(3), 0);
    }

    private static void whatAgainLeaves() {
        ReasonsSupplied x = Check.bureau("119---", "15555", "a>8");
        x.keep(0);
        x.gives(0, 0);
        Check.rule(x, "2");
        x.seen(1, 0, 7);
        x.later(0, 0, 1);
        Check.text(x, "d1");
        CHECK.due("43 THE RULE came since", x.again(0), true);
        CHECK.due("43 THE TEXT stays", x.count(12), 2);
        CHECK.due("43 the ROW stays", x.count(11), 5);
        CHECK.due("43 what was seen stays", x.count(9), 1);
        x.gives(0, 0);
        CHECK.due("43 THE RULE stays", x.later(0, 0, 1), 7);
        CHECK.due("43 the other one was not kept", x.again(1), false);
        CHECK.due("43 refused: what can be undone stays", x.count(10), 1);
        x.undo();
        CHECK.due("42 kept behind undo()", x.keep(1), true);
        x.days(2);
        CHECK.due("43 the other one", x.again(1), true);
        CHECK.due("43 DAY", x.count(3), 0);
        Check.people(x, "2555x");
        CHECK.due("43 refused PEOPLE did not come", x.again(0), true);
        Check.people(x, "25555");
        CHECK.due("43 PEOPLE came", x.again(0), false);
        CHECK.due("43 PEOPLE came", x.again(1), false);
        CHECK.due("42 kept anew", x.keep(0), true);
        CHECK.due("43 kept anew", x.again(0), true);
        CHECK.due("43 the other one not", x.again(1), false);
    }

    private static void settlesByEachHumour() {
        for (int h = 0; h < 4; h++) {
            String pull = "----".substring(0, h) + "9" + "---".substring(h);
            ReasonsSupplied x = Check.bureau("11" + pull, "15555", "a>8");
            x.gives(0, 0);
            CHECK.due("19 HUMOUR " + h + " comes to 9", x.settles(0), 4);
            Check.rule(x, "(v<6)*2-1");
            CHECK.due("19 HUMOUR " + h + " swings", x.settles(0), -2);
            Check.rule(x, "(d<98)*((v<6)*2-1)");
            CHECK.due("19 HUMOUR " + h + " swings for 98 DAYS", x.settles(0), 98);
            CHECK.row(x, "19 in 98 DAYS", 5, 5, 5, 5);
        }
        // One goes down as another goes up.
        String[] grounds = {"1109--", "11-09-", "11--09", "110--9", "119--0", "1190--"};
        String[] people = {"11000", "10100", "10010", "11000", "10009", "10900"};
        for (int i = 0; i < grounds.length; i++) {
            ReasonsSupplied x = Check.bureau(grounds[i], people[i], "a>8");
            x.gives(0, 0);
            Check.rule(x, "t-v");
            CHECK.due("19 all change and then rest", x.settles(0), 1);
        }
        ReasonsSupplied y = Check.bureau("119---", "15555", "a>8");
        CHECK.due("19 it HOLDS nothing", y.settles(0), 0);
        CHECK.row(y, "19 it HOLDS nothing", 5, 5, 5, 5);
    }

    private static void lacksAtTheirEnds() {
        ReasonsSupplied x = Check.bureau("11----", "10909;25555", "a<0b>9;a>9b<0;c<0d>9;a>8b<1c>4;a<1b>8c<1;d>8d<9");
        int[][] due = {{0, 0, 3, 2}, {0, 1, 3, 20}, {0, 2, 3, 2}, {0, 3, 7, 9 + 9 + 5}, {0, 4, 0, 0}, {0, 5, 2, 1},
            {1, 0, 3, 6 + 5}, {1, 1, 3, 5 + 6}, {1, 3, 3, 4 + 5}, {1, 4, 7, 5 + 4 + 5}, {1, 5, 1, 4}};
        for (int[] d : due) {
            CHECK.due("21 lacks(" + d[0] + ", " + d[1] + ")", x.lacks(d[0], d[1]), d[2]);
            CHECK.row(x, "21 lacks(" + d[0] + ", " + d[1] + ")", d[3]);
        }
        CHECK.due("9 less than 0 and more than 9 never are", x.person(0, 6), 16);
        CHECK.due("22 the first one", x.richest(), 0);
        CHECK.row(x, "22 the first one", 16, 63 - 16);
    }

    private static void nothingIsHad() {
        ReasonsSupplied x = Check.bureau("119---;11-9--;119---", "15555;25555", "a<0;b>9");
        CHECK.due("22 of equal ones the first", x.richest(), 0);
        CHECK.row(x, "22 nobody HAS any", 0, 3);
        CHECK.due("25 of equal ones the first", x.serves(1, 60), 0);
        CHECK.row(x, "25 none by all", 0, 0);
        x.gives(1, 1);
        x.gives(1, 2);
        CHECK.due("26 of equal ones the first", x.burdens(1, 60), 1);
        CHECK.row(x, "26 none without all", 0);
        CHECK.due("24 by none", x.fewest(1, 0, 20), -2);
        CHECK.due("35 none", x.shares(20), 0);
        CHECK.row(x, "35 none", -1, -1);
    }

    private static void quarrelsByJustSoMuch() {
        for (int k = 0; k <= 9; k++) {
            for (int to = 0; to <= 9; to++) {
                ReasonsSupplied x = Check.bureau("11-" + to + "--;1190--", "15555", "a>8");
                CHECK.due("27 " + to + " and 0 by " + k, x.quarrels(k), to > k ? 1 : 0);
                CHECK.due("28 " + to + " and 0 by " + k, x.peace(k), to > k ? 1 : 2);
            }
        }
        ReasonsSupplied x = Check.bureau("119---;11-0--;1109--;11--9-", "15555", "a>8");
        CHECK.due("27 just HUMOURS that both pull", x.quarrels(8), 2);
        CHECK.row(x, "27 just HUMOURS that both pull", 0, 2);
        CHECK.due("28 without the third", x.peace(8), 3);
        CHECK.row(x, "28 without the third", 1 + 2 + 8);
        ReasonsSupplied y = Check.bureau("1100--;1109--;1190--;1199--;1104--;1140--;1149--;1194--", "15555", "a>8");
        CHECK.due("27 eight", y.quarrels(0), 28);
        CHECK.due("28 one of eight", y.peace(0), 1);
        CHECK.row(y, "28 the first one", 1);
        CHECK.due("28 all eight", y.peace(9), 8);
        CHECK.row(y, "28 all eight", 255);
        CHECK.due("29 of all eight", y.pulls(255), 3);
        CHECK.row(y, "29 0 0 9 9 0 4 4 9 and 0 9 0 9 4 0 9 4: cut", 4, 4, -1, -1);
        CHECK.due("29 of the last one", y.pulls(128), 3);
        CHECK.row(y, "29 of the last one", 9, 4, -1, -1);
    }

    private static void fitsAtTheirEnds() {
        ReasonsSupplied x = Check.bureau(EIGHT, "15555", "a>8");
        CHECK.due("32 nothing was seen: all eight", x.fits(0), 255);
        CHECK.row(x, "32 nothing was seen", 8, 1);
        for (int i = 0; i < 12; i++) {
            x.seen(i, 3, Math.min(9, 5 + i) > 6 ? 6 : 5 + i);
        }
        CHECK.due("32 twelve: d comes to 6 and stays", x.fits(0), 8);
        CHECK.row(x, "32 twelve", 1, 0);
        CHECK.due("33 one is left", x.looks(0, 30), 0);
        CHECK.row(x, "33 one is left", 1);
        x.forget();
        x.seen(0, 0, 5);
        x.seen(30, 0, 5);
        CHECK.due("32 a stays at 5", x.fits(0), 255 - 1 - 16);
        CHECK.row(x, "32 a stays at 5, with none too", 6, 1);
        x.seen(30, 0, 6);
        CHECK.due("32 two at once of one HUMOUR", x.fits(0), 0);
        CHECK.row(x, "32 two at once of one HUMOUR", 0, 0);
        CHECK.due("33 none fits", x.looks(0, 0), -2);
        ReasonsSupplied y = Check.bureau("", "15555", "a>8");
        CHECK.due("32 no GROUNDS", y.fits(0), 0);
        CHECK.row(y, "32 no GROUNDS", 0, 1);
        CHECK.due("33 no GROUNDS", y.looks(0, 0), -2);
    }

    private static void looksAtEachHumour() {
        for (int h = 0; h < 4; h++) {
            StringBuilder grounds = new StringBuilder();
            for (int to = 9; to >= 2; to--) {
                grounds.append(to < 9 ? ";" : "").append("10").append("0000", 0, h).append(to).append("0000", h + 1, 4);
            }
            ReasonsSupplied x = Check.bureau(grounds.toString(), "15555", "a>8");
            Check.rule(x, "t-v");
            CHECK.due("33 by HUMOUR " + h + " all are told apart", x.looks(0, 1), h);
            CHECK.row(x, "33 by HUMOUR " + h, 1);
            CHECK.due("33 of equal ones the first", x.looks(0, 0), 0);
            CHECK.row(x, "33 of equal ones the first", 8);
        }
    }

    private static void coversAndSharesNow() {
        ReasonsSupplied x = Check.bureau("10----;10----", "19555;25555", "a>8");
        CHECK.due("34 now: who HAS it HAS it with any GROUND", x.covers(0), 1);
        CHECK.row(x, "34 now", 1);
        x.makes(0, 1);
        x.gives(0, 0);
        CHECK.due("34 one that he does not HOLD", x.covers(0), 1);
        CHECK.row(x, "34 one that he does not HOLD", 2);
        x.makes(1, 1);
        x.gives(0, 1);
        CHECK.due("34 he HOLDS all", x.covers(0), -2);
        CHECK.due("35 now", x.shares(0), 1);
        CHECK.row(x, "35 now", -1, -1);
        // All eight are needed.
        ReasonsSupplied y = Check.bureau("109---;10-9--;10--9-;10---9;100---;10-0--;10--0-;10---0", "15555", "a>5;b>5;c>5;d>5;a<5;b<5");
        CHECK.due("34 six of eight", y.covers(1), 6);
        CHECK.row(y, "34 six of eight", 63);
        // Each WANT by some other one of PEOPLE.
        ReasonsSupplied z = Check.bureau("109---", "15000;21000;31900", "a>5;a>1b<1;a>1b>8");
        CHECK.due("34 each by another", z.covers(1), 1);
        CHECK.row(z, "34 each by another", 1);
    }

    private static void whatIsHeldIsNotShared() {
        ReasonsSupplied x = Check.bureau("139---", "15555;25555", "a>9");
        x.gives(0, 0);
        CHECK.due("35 what it HOLDS is not given", x.shares(1), 0);
        CHECK.row(x, "35 what it HOLDS is not given", -1, -1);
        ReasonsSupplied y = Check.bureau("119---;109---", "15555;25555", "a>5");
        CHECK.due("35 no more than STOCK", y.shares(1), 1);
        CHECK.row(y, "35 the last one has it: the least row", -1, 0);
        ReasonsSupplied z = Check.bureau("129---", "15555;25555", "a>5");
        CHECK.due("35 just STOCK", z.shares(1), 2);
        CHECK.row(z, "35 just STOCK", 0, 0);
        z.gives(0, 0);
        CHECK.due("35 besides what it HOLDS", z.shares(1), 2);
        CHECK.row(z, "35 besides what it HOLDS", -1, 0);
        ReasonsSupplied w = Check.bureau("190---;199---", "14555;24555", "a<4;a>4;a<9");
        CHECK.due("35 of as good ones the least row", w.shares(1), 4);
        CHECK.row(w, "35 of as good ones the least row", 0, 0);
    }

    /** Six PEOPLE, eight GROUNDS, few of each in STOCK: all rows are tried by the plain bureau. */
    private static void sharesAgainstAll() {
        String wants = "a>5;b>5;c>5;d>5;a<3b>2;c<3d>2";
        for (int stock = 0; stock < 3; stock++) {
            ReasonsSupplied x = Check.bureau(EIGHT, SIX, wants);
            PlainBureau plain = plain(EIGHT, SIX, wants);
            x.sheet(0, 8, stock, 85);
            plain.sheet(0, 8, stock, 85);
            for (int n = 0; n <= 20; n += 5) {
                CHECK.due("35 shares(" + n + ") by stock " + stock, x.shares(n), plain.shares(n));
                CHECK.row(x, "35 shares(" + n + ") by stock " + stock, longs(plain.row));
                CHECK.due("34 covers(" + n + ")", x.covers(n), plain.covers(n));
                CHECK.row(x, "34 covers(" + n + ")", longs(plain.row));
            }
        }
    }

    private static long[] longs(List<Long> row) {
        long[] all = new long[row.size()];
        for (int i = 0; i < all.length; i++) {
            all[i] = row.get(i);
        }
        return all;
    }

    private static PlainBureau plain(String grounds, String people, String wants) {
        PlainBureau plain = new PlainBureau();
        plain.text = grounds;
        plain.grounds();
        plain.text = people;
        plain.people();
        plain.text = wants;
        plain.wants();
        return plain;
    }

    /** A new one with the same GROUNDS; both have the same ROW. */
    private static ReasonsSupplied withRowOf(PlainBureau plain) {
        ReasonsSupplied x = Check.bureau(EIGHT, "", "");
        plain.pulls(3);
        x.pulls(3);
        return x;
    }

    /** Where all numbers that a call takes can be tried, and two beyond. */
    private static void allArguments() {
        PlainBureau plain = plain(EIGHT, "", "");
        for (int v = -2; v <= 22; v++) {
            ReasonsSupplied x = withRowOf(plain);
            for (int c = -2; c <= 7; c++) {
                alike("39 rests(" + v + ", " + c + ")", x, x.rests(v, c), plain, plain.rests(v, c));
            }
        }
        for (int n = -2; n <= 10; n++) {
            ReasonsSupplied x = withRowOf(plain);
            for (int k = -2; k <= 10; k++) {
                alike("37 right(" + n + ", " + k + ")", x, x.right(n, k), plain, plain.right(n, k));
            }
        }
        for (int n = -2; n <= 101; n++) {
            for (int i = 0; i < 4; i++) {
                ReasonsSupplied x = withRowOf(plain);
                for (int b = i * 26 - 2; b < i * 26 + 24; b++) {
                    alike("36 counter(" + n + ", " + b + ")", x, x.counter(n, b), plain, plain.counter(n, b));
                }
            }
        }
        allOfGrounds(plain);
    }

    private static void allOfGrounds(PlainBureau plain) {
        for (int k = -2; k <= 11; k++) {
            ReasonsSupplied x = withRowOf(plain);
            alike("27 quarrels(" + k + ")", x, x.quarrels(k), plain, plain.quarrels(k));
            alike("28 peace(" + k + ")", x, x.peace(k), plain, plain.peace(k));
        }
        for (int some = -2; some <= 257; some++) {
            ReasonsSupplied x = withRowOf(plain);
            alike("29 pulls(" + some + ")", x, x.pulls(some), plain, plain.pulls(some));
        }
        for (int f = 0; f <= 100; f += 7) {
            for (int step = -20; step <= 20; step += 5) {
                ReasonsSupplied x = withRowOf(plain);
                alike("11 sheet of " + f + ", " + step, x, x.sheet(2, 8, f, step), plain, plain.sheet(2, 8, f, step));
                for (int k = -1; k <= 6; k++) {
                    alike("38 same(" + k + ") of " + f + ", " + step, x, x.same(k), plain, plain.same(k));
                }
            }
        }
    }

    private static void alike(String call, ReasonsSupplied x, long got, PlainBureau plain, long want) {
        CHECK.due(call, got, want);
        CHECK.row(x, call, longs(plain.row));
    }

    private static void yearsOfFarSeeds() {
        int[] seeds = {0, 1, -1, Integer.MIN_VALUE, Integer.MAX_VALUE, 65536, -65536, 1 << 16 | 3};
        for (int seed : seeds) {
            for (int n : new int[] {1, 2, 59, 60}) {
                ReasonsSupplied x = Check.bureau(EIGHT, SIX, "a>5;b<3");
                PlainBureau plain = plain(EIGHT, SIX, "a>5;b<3");
                alike("41 years(" + seed + ", " + n + ")", x, x.years(seed, n), plain, plain.years(seed, n));
            }
        }
        // What can't be is left out: none in STOCK, none held.
        ReasonsSupplied y = Check.bureau("109---", "15555", "a>5");
        CHECK.due("41 nothing to give", y.years(1, 60), 0);
        CHECK.row(y, "41 nothing to give", 20, 0);
    }
}
