/** Promises 8 to 17 and 42 to 45: what is, what is done, undone and kept. */
public final class BureauTest {
    private static final Check CHECK = new Check("bureau");

    public static void main(String[] args) {
        ground();
        person();
        held();
        sheet();
        gives();
        takesBack();
        makes();
        days();
        daysToTheirEnds();
        daysByTheirNumber();
        year();
        yearTexts();
        undo();
        undoOfTwelve();
        undoForgotten();
        kept();
        count();
        row();
        CHECK.end();
    }

    private static ReasonsSupplied bureau() {
        return Check.bureau("329---;51-0--;70--5-", "15500;24567", "a>6;b<4a>5;c>9");
    }

    private static void ground() {
        ReasonsSupplied x = bureau();
        x.gives(0, 0);
        x.gives(1, 0);
        long[] want = {3, 0, 9, -1, -1, -1, 3};
        for (int what = 0; what < 7; what++) {
            CHECK.due("8 ground(0, " + what + ")", x.ground(0, what), want[what]);
        }
        x.takesBack(0, 0);
        CHECK.due("8 held by the second one alone", x.ground(0, 6), 2);
        CHECK.due("8 a pull to 0", x.ground(1, 3), 0);
        CHECK.due("8 STOCK 0", x.ground(2, 1), 0);
        CHECK.none("8 ground(3, 0)", () -> x.ground(3, 0));
        CHECK.none("8 ground(-1, 0)", () -> x.ground(-1, 0));
        CHECK.none("8 ground(0, 7)", () -> x.ground(0, 7));
        CHECK.none("8 ground(0, -1)", () -> x.ground(0, -1));
        CHECK.none("8 ground(max, min)", () -> x.ground(Integer.MAX_VALUE, Integer.MIN_VALUE));
    }

    private static void person() {
        ReasonsSupplied x = bureau();
        x.gives(1, 0);
        x.gives(1, 1);
        long[] want = {2, 4, 5, 6, 7, 3, 0};
        for (int what = 0; what < 7; what++) {
            CHECK.due("9 person(1, " + what + ")", x.person(1, what), want[what]);
        }
        x.days(3);
        CHECK.due("9 HUMOUR a", x.person(1, 1), 7);
        CHECK.due("9 HUMOUR b", x.person(1, 2), 2);
        CHECK.due("9 WANTS", x.person(1, 6), 3);
        CHECK.none("9 person(2, 0)", () -> x.person(2, 0));
        CHECK.none("9 person(-1, 0)", () -> x.person(-1, 0));
        CHECK.none("9 person(0, 7)", () -> x.person(0, 7));
        CHECK.none("9 person(0, -1)", () -> x.person(0, -1));
    }

    private static void held() {
        ReasonsSupplied x = bureau();
        CHECK.due("10 not held", x.held(0, 0), -2);
        x.gives(0, 0);
        CHECK.due("10 just given", x.held(0, 0), 0);
        x.days(60);
        CHECK.due("10 60 days", x.held(0, 0), 60);
        x.days(40);
        CHECK.due("10 99 at most", x.held(0, 0), 99);
        x.takesBack(0, 0);
        x.gives(0, 0);
        CHECK.due("10 given anew", x.held(0, 0), 0);
        CHECK.due("10 held(2, 0)", x.held(2, 0), -1);
        CHECK.due("10 held(0, 3)", x.held(0, 3), -1);
        CHECK.due("10 held(-1, -1)", x.held(-1, -1), -1);
    }

    private static void sheet() {
        ReasonsSupplied x = bureau();
        CHECK.due("11 ints", x.sheet(2, 3, 1, 2), 1 + 3 + 5);
        CHECK.due("11 in their order", x.ground(2, 1), 5);
        CHECK.due("11 ints put to 0 .. 99", x.sheet(2, 3, -50, 100), 0 + 50 + 99);
        CHECK.due("11 ints wrap", x.sheet(2, 3, Integer.MAX_VALUE, 1), 99);
        CHECK.due("11 bytes", x.sheet(0, 3, 250, 4), 0 + 0 + 2);
        CHECK.due("11 bytes at 127, 128", x.sheet(0, 2, 127, 1), 99);
        CHECK.due("11 shorts", x.sheet(1, 3, 65536 + 7, 0), 21);
        CHECK.due("11 shorts with their sign", x.sheet(1, 3, 32767, 1), 99);
        CHECK.due("11 those behind have 0", x.sheet(2, 2, 4, 0), 8);
        CHECK.due("11 the third has 0", x.ground(2, 1), 0);
        CHECK.due("11 entries beyond are left aside", x.sheet(2, 8, 4, 1), 4 + 5 + 6);
        CHECK.due("11 of 9", x.sheet(2, 9, 1, 0), -1);
        CHECK.due("11 of 9, a missing one", x.sheet(3, 9, 1, 0), -1);
        CHECK.due("11 another kind", x.sheet(4, 1, 1, 0), -1);
        CHECK.due("11 another kind, n below 0", x.sheet(-1, -1, 1, 0), -1);
        CHECK.due("11 n below 0", x.sheet(0, -1, 1, 0), -2);
        CHECK.due("11 n below 0", x.sheet(1, Integer.MIN_VALUE, 1, 0), -2);
        CHECK.due("11 n below 0", x.sheet(2, -1, 1, 0), -2);
        CHECK.due("11 nothing has changed", x.count(5), 15);
        CHECK.due("11 missing, n below 0", x.sheet(3, -1, 1, 0), -3);
        CHECK.due("11 all 0", x.count(5), 0);
        x.sheet(2, 3, 1, 0);
        CHECK.due("11 of none", x.sheet(2, 0, 1, 0), 0);
        CHECK.due("11 it is no act", x.undo(), -1);
        CHECK.due("11 without GROUNDS", new ReasonsSupplied().sheet(2, 8, 1, 0), 0);
    }

    private static void gives() {
        ReasonsSupplied x = bureau();
        CHECK.due("12 gives(0, 0)", x.gives(0, 0), 1);
        CHECK.due("12 gives(0, 1)", x.gives(0, 1), 2);
        CHECK.due("12 STOCK", x.ground(0, 1), 1);
        CHECK.due("12 SIGNED", x.count(4), 2);
        CHECK.due("12 held already", x.gives(0, 0), -2);
        CHECK.due("12 held already, none in STOCK", x.gives(0, 1), -2);
        CHECK.due("12 none in STOCK", x.gives(1, 1), -3);
        CHECK.due("12 gives(2, 0)", x.gives(2, 0), -1);
        CHECK.due("12 gives(0, 3)", x.gives(0, 3), -1);
        CHECK.due("12 gives(-1, 0)", x.gives(-1, 0), -1);
        CHECK.due("12 gives(0, -1)", x.gives(0, -1), -1);
        CHECK.due("12 SIGNED stays", x.count(4), 2);
        CHECK.due("12 what was not done can't be undone", x.count(10), 2);
    }

    private static void takesBack() {
        ReasonsSupplied x = bureau();
        x.gives(0, 0);
        x.gives(0, 1);
        CHECK.due("13 takesBack(0, 0)", x.takesBack(0, 0), 1);
        CHECK.due("13 STOCK", x.ground(0, 1), 2);
        CHECK.due("13 the other one is held", x.person(0, 5), 2);
        CHECK.due("13 not held", x.takesBack(0, 0), -2);
        CHECK.due("13 takesBack(2, 0)", x.takesBack(2, 0), -1);
        CHECK.due("13 takesBack(0, 3)", x.takesBack(0, 3), -1);
        CHECK.due("13 takesBack(-1, -1)", x.takesBack(-1, -1), -1);
        CHECK.due("13 SIGNED stays", x.count(4), 2);
        x.makes(1, 99);
        CHECK.due("13 the last one", x.takesBack(0, 1), 0);
        CHECK.due("13 STOCK 99 at most", x.ground(1, 1), 99);
        CHECK.due("13 four were done", x.count(10), 5);
    }

    private static void makes() {
        ReasonsSupplied x = bureau();
        CHECK.due("14 makes(0, 1)", x.makes(0, 1), 3);
        CHECK.due("14 makes(0, 95)", x.makes(0, 95), 98);
        CHECK.due("14 99 at most", x.makes(0, 2), 99);
        CHECK.due("14 makes(2, 99)", x.makes(2, 99), 99);
        CHECK.due("14 makes(0, 0)", x.makes(0, 0), -1);
        CHECK.due("14 makes(0, 100)", x.makes(0, 100), -1);
        CHECK.due("14 makes(0, -1)", x.makes(0, -1), -1);
        CHECK.due("14 makes(3, 1)", x.makes(3, 1), -1);
        CHECK.due("14 makes(-1, 1)", x.makes(-1, 1), -1);
        CHECK.due("14 such as were done", x.count(10), 4);
    }

    private static void days() {
        ReasonsSupplied x = bureau();
        x.gives(0, 0);
        CHECK.due("15 days(0)", x.days(0), 0);
        CHECK.row(x, "15 days(0)", 10 + 22, 0);
        CHECK.due("15 days(0) is not undone", x.count(10), 1);
        CHECK.due("15 days(1)", x.days(1), 0);
        CHECK.row(x, "15 days(1)", 11 + 22, 0);
        CHECK.due("15 days(1)", x.days(1), 1);
        CHECK.row(x, "15 days(1)", 12 + 22, 1);
        x.gives(0, 1);
        CHECK.due("15 days(2): b is 3", x.days(2), 2);
        CHECK.row(x, "15 days(2)", 9 + 3 + 22, 1);
        CHECK.due("15 DAY", x.count(3), 4);
        CHECK.due("15 days(60)", x.days(60), 2);
        CHECK.row(x, "15 days(60)", 9 + 0 + 22, 0);
        CHECK.due("15 days(61)", x.days(61), -1);
        CHECK.due("15 days(-1)", x.days(-1), -1);
        CHECK.row(x, "15 the ROW stays", 9 + 0 + 22, 0);
        CHECK.due("15 DAY stays", x.count(3), 64);
    }

    private static void daysToTheirEnds() {
        // a swings between 5 and 6, and comes to have a>5 each second day.
        ReasonsSupplied x = Check.bureau("199---;199---", "15000;16000", "a>5;a<6");
        Check.rule(x, "(v<6)*2-1");
        x.gives(0, 0);
        x.gives(1, 0);
        CHECK.due("15 days(4) of two that swing", x.days(4), 2);
        CHECK.row(x, "15 each day each comes to have one", 11, 8);
        // Pushes are added up ahead of being put to 0 .. 9.
        x.gives(0, 1);
        Check.rule(x, "(d>3)*98-49");
        CHECK.due("15 49 up, 49 down", x.later(0, 0, 1), 5);
        Check.rule(x, "-99");
        x.days(1);
        CHECK.due("15 0 at least", x.person(0, 1), 0);
        Check.rule(x, "99");
        x.days(1);
        CHECK.due("15 9 at most", x.person(0, 1), 9);
    }

    private static void daysByTheirNumber() {
        ReasonsSupplied x = Check.bureau("199---", "15000;16000", "a>5;a<6");
        x.makes(0, 1);
        x.gives(0, 0);
        x.gives(1, 0);
        Check.rule(x, "n-1");
        x.days(3);
        CHECK.due("15 n goes on: -1 0 1 for both", x.person(0, 1) * 10 + x.person(1, 1), 56);
        x.days(1);
        CHECK.due("15 n goes on: 2 for both", x.person(0, 1) * 10 + x.person(1, 1), 78);
        x.days(4);
        CHECK.due("15 n goes on: 3 4 5 -1 for both", x.person(0, 1) * 10 + x.person(1, 1), 88);
    }

    private static void year() {
        ReasonsSupplied x = bureau();
        CHECK.due("16 an empty one", Check.year(x, ""), 0);
        CHECK.row(x, "16 an empty one", 0, 0);
        CHECK.due("16 none can be undone", x.count(10), 0);
        CHECK.due("16 of each", Check.year(x, "g00m19d2t00"), 4);
        CHECK.row(x, "16 of each", 0, 1);
        CHECK.due("16 a is 7", x.person(0, 1), 7);
        CHECK.due("16 made", x.ground(1, 1), 10);
        CHECK.due("16 taken back", x.person(0, 5), 0);
        CHECK.due("16 SIGNED", x.count(4), 1);
        CHECK.due("16 as one", x.count(10), 1);
        CHECK.due("16 till one can't be", Check.year(x, "g00g00d9"), 1);
        CHECK.row(x, "16 till one can't be", 1, 1);
        CHECK.due("16 nothing behind it", x.count(3), 2);
        CHECK.due("16 the first can't be", Check.year(x, "g20d1"), 0);
        CHECK.row(x, "16 the first can't be", 1, 1);
        CHECK.due("16 makes() of none such", Check.year(x, "m31"), 0);
        CHECK.due("16 takesBack() of what is not held", Check.year(x, "t10"), 0);
        CHECK.due("16 nothing to undo of these", x.count(10), 2);
        CHECK.due("16 days(0) is done", Check.year(x, "d0"), 1);
        CHECK.due("16 and can be undone", x.count(10), 3);
    }

    private static void yearTexts() {
        ReasonsSupplied x = bureau();
        String[] wrong = {"x", ";", "g", "g0", "g0x", "t", "t-", "t0", "m", "m0", "m00", "mx", "d", "dd", "d1;", "d11", "g001", "d1x"};
        int[] at = {0, 0, 1, 2, 2, 1, 1, 2, 1, 2, 2, 1, 1, 1, 2, 2, 3, 2};
        for (int i = 0; i < wrong.length; i++) {
            CHECK.due("16 year of " + wrong[i], Check.year(x, wrong[i]), -1 - at[i]);
            CHECK.due("16 THE TEXT is empty then", x.count(12), 0);
        }
        CHECK.row(x, "16 no ROW of these");
        CHECK.due("16 nothing is done", Check.year(x, "g00x"), -4);
        CHECK.due("16 nothing is held", x.count(6), 0);
        String sixty = "d1d1d1d1d1d1d1d1d1d1d1d1d1d1d1d1d1d1d1d1d1d1d1d1d1d1d1d1d1d1";
        CHECK.due("16 61 signs", Check.year(x, sixty + "d"), -1 - 60);
        CHECK.due("16 61 signs, whatever the last", Check.year(x, sixty + "x"), -1 - 60);
        CHECK.due("16 61 signs, an act cut", Check.year(x, sixty.substring(0, 58) + "g00"), -1 - 60);
        CHECK.due("16 60 signs, an act cut", Check.year(x, sixty.substring(0, 58) + "g0"), -1 - 60);
        CHECK.due("16 no DAY of these", x.count(3), 0);
        CHECK.due("16 60 signs", Check.year(x, sixty), 30);
        CHECK.due("16 DAY", x.count(3), 30);
    }

    private static void undo() {
        ReasonsSupplied x = bureau();
        CHECK.due("17 none", x.undo(), -1);
        x.gives(0, 0);
        x.days(2);
        x.makes(2, 5);
        x.takesBack(0, 0);
        Check.year(x, "g01d9g12");
        CHECK.due("17 five", x.count(10), 5);
        CHECK.due("17 year()", x.undo(), 4);
        CHECK.due("17 DAY", x.count(3), 2);
        CHECK.due("17 SIGNED", x.count(4), 1);
        CHECK.due("17 none held", x.count(6), 0);
        CHECK.due("17 takesBack()", x.undo(), 3);
        CHECK.due("17 DAYS", x.held(0, 0), 2);
        CHECK.due("17 STOCK", x.ground(0, 1), 1);
        CHECK.due("17 makes()", x.undo(), 2);
        CHECK.due("17 STOCK", x.ground(2, 1), 0);
        CHECK.due("17 days()", x.undo(), 1);
        CHECK.due("17 DAY", x.count(3), 0);
        CHECK.due("17 HUMOURS", x.person(0, 1), 5);
        CHECK.due("17 DAYS", x.held(0, 0), 0);
        CHECK.due("17 gives()", x.undo(), 0);
        CHECK.due("17 not held", x.held(0, 0), -2);
        CHECK.due("17 SIGNED", x.count(4), 0);
        CHECK.due("17 none", x.undo(), -1);
        // What a question tried out has nothing to do with it.
        Check.year(x, "m29g12");
        x.years(1, 60);
        x.makes(2, 1);
        x.undo();
        CHECK.due("17 STOCK as ahead of makes()", x.count(5), 2 + 1 + 8);
        x.years(1, 60);
        x.takesBack(1, 2);
        x.undo();
        CHECK.due("17 held as ahead of takesBack()", x.person(1, 5), 4);
        x.years(1, 60);
        x.days(1);
        x.undo();
        CHECK.due("17 HUMOURS as ahead of days()", x.count(8), 10 + 22);
        x.undo();
        // STOCK is as ahead of it, whatever a sheet told since.
        x.gives(0, 0);
        x.sheet(2, 3, 50, 0);
        x.undo();
        CHECK.due("17 STOCK behind a sheet", x.count(5), 3);
    }

    private static void undoOfTwelve() {
        ReasonsSupplied x = bureau();
        for (int i = 1; i <= 15; i++) {
            x.makes(2, 1);
        }
        CHECK.due("17 twelve are kept", x.count(10), 12);
        for (int i = 11; i >= 0; i--) {
            CHECK.due("17 left", x.undo(), i);
            CHECK.due("17 STOCK", x.ground(2, 1), 3 + i);
        }
        CHECK.due("17 no more", x.undo(), -1);
        CHECK.due("17 the latest ones", x.ground(2, 1), 3);
        x.makes(2, 2);
        x.days(1);
        CHECK.due("17 two anew", x.undo(), 1);
        CHECK.due("17 two anew", x.undo(), 0);
        CHECK.due("17 STOCK", x.ground(2, 1), 3);
    }

    private static void undoForgotten() {
        ReasonsSupplied x = bureau();
        x.makes(0, 1);
        Check.grounds(x, "");
        Check.people(x, "");
        Check.wants(x, "");
        Check.rule(x, "1");
        Check.grounds(x, "x");
        Check.people(x, "x");
        Check.wants(x, "x");
        x.again(0);
        x.keep(0);
        CHECK.due("17 none of these forgets", x.count(10), 1);
        Check.grounds(x, "11----");
        CHECK.due("17 grounds() forgets", x.count(10), 0);
        CHECK.due("17 grounds() forgets", x.undo(), -1);
        x.makes(0, 1);
        Check.people(x, "11111");
        CHECK.due("17 people() forgets", x.count(10), 0);
        x.makes(0, 1);
        Check.wants(x, "a<1");
        CHECK.due("17 wants() forgets", x.count(10), 0);
        x.makes(0, 1);
        x.keep(0);
        x.again(0);
        CHECK.due("17 again() forgets", x.count(10), 0);
    }

    private static void kept() {
        ReasonsSupplied x = bureau();
        CHECK.due("42 keep(-1)", x.keep(-1), false);
        CHECK.due("42 keep(2)", x.keep(2), false);
        CHECK.due("43 nothing kept", x.again(0), false);
        CHECK.due("43 again(-1)", x.again(-1), false);
        CHECK.due("43 again(2)", x.again(2), false);
        CHECK.due("42 keep(0)", x.keep(0), true);
        Check.year(x, "g00m21d3");
        CHECK.due("42 keep(1)", x.keep(1), true);
        CHECK.due("42 nothing is done by it", x.count(10), 1);
        CHECK.due("43 again(0)", x.again(0), true);
        CHECK.due("43 STOCK", x.count(5), 3);
        CHECK.due("43 HUMOURS", x.person(0, 1), 5);
        CHECK.due("43 held", x.held(0, 0), -2);
        CHECK.due("43 DAY", x.count(3), 0);
        CHECK.due("43 SIGNED", x.count(4), 0);
        CHECK.due("43 again(1)", x.again(1), true);
        CHECK.due("43 STOCK", x.count(5), 3);
        CHECK.due("43 HUMOURS", x.person(0, 1), 8);
        CHECK.due("43 held", x.held(0, 0), 3);
        CHECK.due("43 DAY", x.count(3), 3);
        CHECK.due("43 SIGNED", x.count(4), 1);
        x.days(1);
        x.keep(0);
        x.days(1);
        CHECK.due("42 kept anew", x.again(0), true);
        CHECK.due("43 DAY", x.count(3), 4);
        CHECK.due("43 more than once", x.again(0), true);
        Check.grounds(x, "x");
        Check.wants(x, "");
        CHECK.due("43 nothing came", x.again(1), true);
        Check.grounds(x, "11----");
        CHECK.due("43 GROUNDS came", x.again(0), false);
        CHECK.due("43 GROUNDS came", x.again(1), false);
        x.keep(1);
        CHECK.due("43 kept since", x.again(1), true);
        CHECK.due("43 not kept since", x.again(0), false);
        Check.people(x, "11111");
        CHECK.due("43 PEOPLE came", x.again(1), false);
        x.keep(0);
        Check.wants(x, "a<1");
        CHECK.due("43 WANTS came", x.again(0), false);
    }

    private static void count() {
        ReasonsSupplied x = bureau();
        x.gives(0, 0);
        x.gives(1, 1);
        x.days(3);
        x.seen(1, 1, 1);
        x.sign(1);
        int[] want = {3, 2, 3, 3, 2, 1, 2, 1, 8 + 5 + 4 + 2 + 6 + 7, 1, 3, 2, 4};
        for (int what = 0; what < want.length; what++) {
            CHECK.due("44 count(" + what + ")", x.count(what), want[what]);
        }
        CHECK.due("44 count(-1)", x.count(-1), -1);
        CHECK.due("44 count(13)", x.count(13), -1);
        CHECK.due("44 count(min)", x.count(Integer.MIN_VALUE), -1);
    }

    private static void row() {
        ReasonsSupplied x = bureau();
        CHECK.none("45 no ROW yet", () -> x.row(0));
        x.days(1);
        CHECK.row(x, "45 days(1)", 32, 0);
        CHECK.none("45 row(max)", () -> x.row(Integer.MAX_VALUE));
        CHECK.none("45 row(min)", () -> x.row(Integer.MIN_VALUE));
        x.gives(0, 0);
        x.count(3);
        x.held(0, 0);
        x.days(99);
        x.same(5);
        x.burdens(1, 1);
        Check.law(x, "x");
        CHECK.row(x, "45 the ROW stays with those that tell none, NONE and -2", 32, 0);
        CHECK.due("45 a call that tells none", x.counter(3, 2), 0);
        CHECK.row(x, "45 a ROW of none");
    }
}
