/** Promises 30 to 35: which ground it was, what covers, what is shared out. */
public final class SeenTest {
    private static final Check CHECK = new Check("seen");

    public static void main(String[] args) {
        seen();
        forget();
        fits();
        looks();
        covers();
        shares();
        sharesOfStock();
        sharesOfAll();
        CHECK.end();
    }

    private static void seen() {
        ReasonsSupplied x = new ReasonsSupplied();
        CHECK.due("30 seen(31, 0, 0)", x.seen(31, 0, 0), -1);
        CHECK.due("30 seen(-1, 0, 0)", x.seen(-1, 0, 0), -1);
        CHECK.due("30 seen(0, 4, 0)", x.seen(0, 4, 0), -1);
        CHECK.due("30 seen(0, -1, 0)", x.seen(0, -1, 0), -1);
        CHECK.due("30 seen(0, 0, 10)", x.seen(0, 0, 10), -1);
        CHECK.due("30 seen(0, 0, -1)", x.seen(0, 0, -1), -1);
        CHECK.due("30 none of these", x.count(9), 0);
        CHECK.due("30 the most", x.seen(30, 3, 9), 1);
        for (int i = 2; i <= 12; i++) {
            CHECK.due("30 seen " + i, x.seen(0, 0, 0), i);
        }
        CHECK.due("30 twelve", x.seen(0, 0, 0), -1);
        CHECK.due("30 twelve stay", x.count(9), 12);
    }

    private static void forget() {
        ReasonsSupplied x = new ReasonsSupplied();
        CHECK.due("31 none", x.forget(), 0);
        x.seen(0, 0, 0);
        x.seen(1, 1, 1);
        CHECK.due("31 two", x.forget(), 2);
        CHECK.due("31 forgotten", x.count(9), 0);
        CHECK.due("31 forgotten", x.forget(), 0);
        CHECK.due("31 seen anew", x.seen(0, 0, 0), 1);
    }

    private static void fits() {
        ReasonsSupplied x = Check.bureau("109---;10-9--;1098--;10----", "15500;16500", "a>5");
        CHECK.due("32 nothing seen", x.fits(0), 15);
        CHECK.row(x, "32 nothing seen", 4, 1);
        x.seen(0, 0, 5);
        CHECK.due("32 as it is now", x.fits(0), 15);
        CHECK.due("32 otherwise than he is now", x.fits(1), 0);
        CHECK.row(x, "32 otherwise than he is now", 0, 0);
        x.seen(2, 0, 7);
        CHECK.due("32 a was pulled, not in STOCK", x.fits(0), 1 + 4);
        CHECK.row(x, "32 a was pulled", 2, 0);
        x.seen(30, 1, 8);
        CHECK.due("32 b was pulled to 8", x.fits(0), 4);
        CHECK.row(x, "32 b was pulled to 8", 1, 0);
        x.makes(2, 1);
        x.gives(0, 2);
        CHECK.due("32 what it holds does it: those that change nothing of it", x.fits(0), 8);
        CHECK.row(x, "32 with no GROUND too", 1, 1);
        x.days(1);
        CHECK.due("32 from now", x.fits(0), 0);
        CHECK.row(x, "32 from now", 0, 0);
        CHECK.due("32 fits(2)", x.fits(2), -1);
        CHECK.due("32 fits(-1)", x.fits(-1), -1);
        CHECK.row(x, "32 the ROW stays", 0, 0);
    }

    private static void looks() {
        ReasonsSupplied x = Check.bureau("109---;109---;11-9--;110-3-;11-3--", "15555", "a>5");
        CHECK.due("33 looks(0, 0)", x.looks(0, 0), 0);
        CHECK.row(x, "33 all are left", 5);
        CHECK.due("33 looks(0, 1): by a 2, 2, 1, by b 3, 1, 1", x.looks(0, 1), 0);
        CHECK.row(x, "33 looks(0, 1)", 2);
        x.seen(1, 3, 5);
        x.seen(1, 2, 5);
        CHECK.due("33 without the fourth: by a 2, 2, by b 2, 1, 1", x.looks(0, 1), 0);
        CHECK.row(x, "33 of equal ones the first", 2);
        x.forget();
        x.seen(1, 0, 5);
        CHECK.due("33 of two that pull b", x.looks(0, 1), 1);
        CHECK.row(x, "33 of two that pull b", 1);
        x.seen(0, 0, 4);
        CHECK.due("33 none fits", x.looks(0, 1), -2);
        CHECK.row(x, "33 the ROW stays", 1);
        CHECK.due("33 looks(1, 0)", x.looks(1, 0), -1);
        CHECK.due("33 looks(-1, 0)", x.looks(-1, 0), -1);
        CHECK.due("33 looks(0, 31)", x.looks(0, 31), -1);
        CHECK.due("33 looks(0, -1)", x.looks(0, -1), -1);
        x.forget();
        CHECK.due("33 looks(0, 30)", x.looks(0, 30), 0);
        x.gives(0, 2);
        x.gives(0, 3);
        x.gives(0, 4);
        // HUMOURS that come to 0 and to 9 are told apart from those beside them.
        ReasonsSupplied y = Check.bureau("1090--;1001--;1012--;1023--;1034--", "15555", "a>5");
        Check.rule(y, "t-v");
        CHECK.due("33 a 9 0 1 2 3, b 0 1 2 3 4", y.looks(0, 1), 0);
        CHECK.row(y, "33 a 9 0 1 2 3, b 0 1 2 3 4", 1);
        ReasonsSupplied z = Check.bureau("1090-0;1091-0;100--0", "15559", "a>5");
        Check.rule(z, "t-v");
        CHECK.due("33 a 9 9 0, b 0 1 5, c 5 5 5, d 0 0 0", z.looks(0, 1), 1);
        CHECK.row(z, "33 a 9 9 0, b 0 1 5, c 5 5 5, d 0 0 0", 1);
        ReasonsSupplied w = Check.bureau("109-10;109-00;100-00", "15559", "a>5");
        Check.rule(w, "t-v");
        CHECK.due("33 a 9 9 0, b 5 5 5, c 1 0 0", w.looks(0, 1), 0);
        CHECK.row(w, "33 a 9 9 0, b 5 5 5, c 1 0 0", 2);
        // a is pulled to 9 and 0: by either of both it is pulled up once more.
        CHECK.due("33 of those not held", x.looks(0, 1), 0);
        CHECK.row(x, "33 of those not held", 2);
    }

    private static void covers() {
        ReasonsSupplied x = Check.bureau("109---;10-9--;10--9-;1099--", "15555;26444", "a>5;b>5;c>5");
        // The second one, who has a>5, has that with any GROUND.
        CHECK.due("34 of as few the least", x.covers(1), 2);
        CHECK.row(x, "34 of as few the least", 2 + 4);
        CHECK.due("34 in no days", x.covers(0), -2);
        CHECK.row(x, "34 the ROW stays", 2 + 4);
        Check.wants(x, "a>6b>5");
        CHECK.due("34 covers(2): b by the last one too", x.covers(2), 2);
        CHECK.row(x, "34 covers(2)", 4 + 8);
        CHECK.due("34 covers(21)", x.covers(21), -1);
        CHECK.due("34 covers(-1)", x.covers(-1), -1);
        ReasonsSupplied z = Check.bureau("109---;10-9--;1099--", "15555", "a>5;b>5");
        CHECK.due("34 the fewest, not the least", z.covers(1), 1);
        CHECK.row(z, "34 the fewest, not the least", 4);
        ReasonsSupplied y = Check.bureau("119---", "15555", "");
        CHECK.due("34 no WANTS", y.covers(1), 0);
        CHECK.row(y, "34 no WANTS", 0);
        Check.wants(y, "a>5");
        CHECK.due("34 by one", y.covers(1), 1);
        y.gives(0, 0);
        CHECK.due("34 given to who does not hold it", y.covers(1), -2);
        Check.people(y, "11000");
        CHECK.due("34 given to the other", y.covers(20), 1);
        CHECK.due("34 no GROUNDS", Check.bureau("", "15555", "a>4").covers(1), -2);
        CHECK.due("34 no PEOPLE", Check.bureau("119---", "", "a>4").covers(1), -2);
    }

    private static void shares() {
        ReasonsSupplied x = Check.bureau("129---;11-9--;1099--", "15555;25505;35050", "a>5;b>5;b>0");
        CHECK.due("35 shares(1)", x.shares(1), 1 + 1 + 3);
        CHECK.row(x, "35 each has one more at most: of as good ones the least row", 0, 0, 1);
        CHECK.due("35 shares(0)", x.shares(0), 2);
        CHECK.row(x, "35 none is better than one that brings nothing", -1, -1, -1);
        x.gives(0, 0);
        CHECK.due("35 in 20 days", x.shares(20), 2 + 2 + 1 + 1);
        CHECK.due("35 what it holds", x.shares(1), 2 + 1 + 2);
        CHECK.row(x, "35 what it holds", -1, 0, 1);
        CHECK.due("35 shares(21)", x.shares(21), -1);
        CHECK.due("35 shares(-1)", x.shares(-1), -1);
        CHECK.row(x, "35 the ROW stays", -1, 0, 1);
        CHECK.due("35 STOCK stays", x.count(5), 2);
        ReasonsSupplied y = new ReasonsSupplied();
        CHECK.due("35 nobody", y.shares(0), 0);
        CHECK.row(y, "35 nobody");
        Check.people(y, "15555");
        Check.wants(y, "a>4");
        CHECK.due("35 no GROUNDS", y.shares(0), 1);
        CHECK.row(y, "35 no GROUNDS", -1);
    }

    private static void sharesOfStock() {
        // The first one gains by either, the second by the first GROUND alone, of which there is one.
        ReasonsSupplied x = Check.bureau("119---;11-9--", "15555;25055", "a>5;b>5");
        CHECK.due("35 the first one leaves it", x.shares(1), 2);
        CHECK.row(x, "35 the first one leaves it", 1, 0);
        ReasonsSupplied y = Check.bureau("119---;11-9--", "15555;25055", "a>5;b>5a>4;a>5b<1");
        CHECK.due("35 who gains more by it has it", y.shares(1), 3);
        CHECK.row(y, "35 who gains more by it has it", 1, 0);
        // Nothing is given that takes a WANT away.
        ReasonsSupplied z = Check.bureau("190---;199---", "15555;29555", "a>4;a>5");
        CHECK.due("35 none is better than a loss", z.shares(1), 4);
        CHECK.row(z, "35 none is better than a loss", 1, -1);
    }

    private static void sharesOfAll() {
        // Six people, three of each of two: as good ones, the least row.
        ReasonsSupplied x = Check.bureau("139---;13-9--", "15555;15555;15555;15555;15555;15555", "a>5;b>5");
        CHECK.due("35 six of six", x.shares(1), 6);
        CHECK.row(x, "35 six of six", 0, 0, 0, 1, 1, 1);
        x.takesBack(0, 0);
        x.sheet(2, 2, 2, 1);
        CHECK.due("35 five of six", x.shares(1), 5);
        CHECK.row(x, "35 five of six: the least row has none first", -1, 0, 0, 1, 1, 1);
    }
}
