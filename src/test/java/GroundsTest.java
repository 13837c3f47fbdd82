/** Promises 24 to 29: which grounds. */
public final class GroundsTest {
    private static final Check CHECK = new Check("grounds");

    public static void main(String[] args) {
        fewest();
        fewestOfMany();
        serves();
        burdens();
        quarrels();
        peace();
        pulls();
        CHECK.end();
    }

    private static void fewest() {
        ReasonsSupplied x = Check.bureau("519---;31-9--;419---;10--9-", "15555", "a>5;a>5b>5;a>6;c>5;a<9");
        CHECK.due("24 fewest(0, 0, 1)", x.fewest(0, 0, 1), 1);
        CHECK.row(x, "24 the least GRADE", 4, 4);
        CHECK.due("24 fewest(0, 1, 1)", x.fewest(0, 1, 1), 2);
        CHECK.row(x, "24 two", 6, 7);
        CHECK.due("24 both push a", x.fewest(0, 2, 1), 2);
        CHECK.row(x, "24 both push a", 5, 9);
        CHECK.due("24 one in two days", x.fewest(0, 2, 2), 1);
        CHECK.row(x, "24 one in two days", 4, 4);
        CHECK.due("24 none", x.fewest(0, 4, 1), 0);
        CHECK.row(x, "24 none", 0, 0);
        CHECK.due("24 not in STOCK", x.fewest(0, 3, 20), -2);
        CHECK.due("24 in no days", x.fewest(0, 0, 0), -2);
        CHECK.row(x, "24 the ROW stays", 0, 0);
        x.gives(0, 2);
        x.makes(2, 1);
        CHECK.due("24 what it holds", x.fewest(0, 0, 1), 0);
        CHECK.due("24 besides those that it holds", x.fewest(0, 2, 1), 1);
        CHECK.row(x, "24 besides those that it holds", 1, 5);
        CHECK.due("24 fewest(1, 0, 0)", x.fewest(1, 0, 0), -1);
        CHECK.due("24 fewest(-1, 0, 0)", x.fewest(-1, 0, 0), -1);
        CHECK.due("24 fewest(0, 5, 0)", x.fewest(0, 5, 0), -1);
        CHECK.due("24 fewest(0, -1, 0)", x.fewest(0, -1, 0), -1);
        CHECK.due("24 fewest(0, 0, 21)", x.fewest(0, 0, 21), -1);
        CHECK.due("24 fewest(0, 0, -1)", x.fewest(0, 0, -1), -1);
        CHECK.due("24 STOCK stays", x.count(5), 3);
        CHECK.due("24 SIGNED stays", x.count(4), 1);
    }

    private static void fewestOfMany() {
        // Of two each pair does it: the least GRADE together, then the least bits.
        ReasonsSupplied x = Check.bureau("619---;319---;419---;219---;319---", "15555", "a>6");
        CHECK.due("24 of as few the least GRADE", x.fewest(0, 0, 1), 2);
        CHECK.row(x, "24 of as few the least GRADE, then the least bits", 2 + 8, 5);
        // How many it holds counts: three with e 3, one with e 1 do nothing.
        Check.rule(x, "(e=2)*9");
        CHECK.due("24 by e", x.fewest(0, 0, 1), 2);
        // One alone of more GRADE is fewer than two of less.
        ReasonsSupplied y = Check.bureau("119---;119---;918---", "15555", "a>7");
        Check.rule(y, "(g=9)*3+(g=1)*2");
        CHECK.due("24 the fewest, not the least GRADE", y.fewest(0, 0, 1), 1);
        CHECK.row(y, "24 the fewest, not the least GRADE", 4, 9);
        // DAYS of what is given are 0 at first.
        Check.rule(x, "(d=0)*(g=6)*2");
        CHECK.due("24 by d", x.fewest(0, 0, 1), 1);
        CHECK.row(x, "24 by d", 1, 6);
        // All eight.
        ReasonsSupplied z = Check.bureau("119---;119---;119---;119---;119---;119---;119---;119---", "11000", "a>8");
        CHECK.due("24 all eight", z.fewest(0, 0, 1), 8);
        CHECK.row(z, "24 all eight", 255, 8);
    }

    private static void serves() {
        ReasonsSupplied x = Check.bureau("119---;11-9--;110---;1099--", "15555", "a>5;b>5;a>6;b<9");
        CHECK.due("25 of equal ones the first", x.serves(0, 1), 0);
        CHECK.row(x, "25 of equal ones the first", 1 + 8, 8);
        CHECK.due("25 serves(0, 60)", x.serves(0, 60), 0);
        CHECK.row(x, "25 serves(0, 60)", 1 + 4 + 8, 8);
        CHECK.due("25 serves(0, 0)", x.serves(0, 0), 0);
        CHECK.row(x, "25 serves(0, 0)", 8, 8);
        x.gives(0, 0);
        CHECK.due("25 not held yet", x.serves(0, 1), 1);
        CHECK.row(x, "25 besides what it holds", 1 + 2 + 8, 1 + 8);
        x.gives(0, 1);
        CHECK.due("25 the last one, whatever it does", x.serves(0, 1), 2);
        CHECK.row(x, "25 the last one: a stays", 2 + 8, 1 + 2 + 8);
        x.gives(0, 2);
        CHECK.due("25 no such", x.serves(0, 1), -2);
        CHECK.row(x, "25 the ROW stays", 2 + 8, 1 + 2 + 8);
        ReasonsSupplied y = Check.bureau("110---;119---;119---", "15555", "a>5");
        CHECK.due("25 better than one by which it has none", y.serves(0, 1), 1);
        CHECK.row(y, "25 better than one by which it has none", 1, 0);
        CHECK.due("25 the first, if it has none by all", y.serves(0, 0), 0);
        CHECK.row(y, "25 the first, if it has none by all", 0, 0);
        CHECK.due("25 serves(1, 0)", x.serves(1, 0), -1);
        CHECK.due("25 serves(-1, 0)", x.serves(-1, 0), -1);
        CHECK.due("25 serves(0, 61)", x.serves(0, 61), -1);
        CHECK.due("25 serves(0, -1)", x.serves(0, -1), -1);
    }

    private static void burdens() {
        ReasonsSupplied x = Check.bureau("119---;110---;11-0--", "15555", "a>5;b>5;a>6;b>4");
        CHECK.due("26 holds none", x.burdens(0, 1), -2);
        CHECK.row(x, "26 no ROW");
        Check.year(x, "g00g01g02");
        CHECK.due("26 without the second", x.burdens(0, 2), 1);
        CHECK.row(x, "26 without the second", 1 + 4);
        CHECK.due("26 burdens(0, 0)", x.burdens(0, 0), 0);
        CHECK.row(x, "26 burdens(0, 0)", 8);
        CHECK.due("26 burdens(0, 60)", x.burdens(0, 60), 1);
        x.takesBack(0, 1);
        CHECK.due("26 of equal ones the first, of two", x.burdens(0, 1), 2);
        CHECK.row(x, "26 of two", 1 + 8);
        CHECK.due("26 burdens(1, 0)", x.burdens(1, 0), -1);
        CHECK.due("26 burdens(-1, 0)", x.burdens(-1, 0), -1);
        CHECK.due("26 burdens(0, 61)", x.burdens(0, 61), -1);
        CHECK.due("26 burdens(0, -1)", x.burdens(0, -1), -1);
        CHECK.row(x, "26 the ROW stays", 1 + 8);
        CHECK.due("26 it holds them", x.person(0, 5), 5);
        // e is less without it.
        Check.rule(x, "(e=1)*9");
        CHECK.due("26 by e", x.burdens(0, 1), 2);
        CHECK.row(x, "26 by e", 1 + 4 + 8);
    }

    private static void quarrels() {
        ReasonsSupplied x = Check.bureau("1190--;115---;11-5--;11--5-;1124--", "15555", "a>5");
        CHECK.due("27 quarrels(0)", x.quarrels(0), 5);
        CHECK.row(x, "27 the least", 0, 1);
        CHECK.due("27 quarrels(4)", x.quarrels(4), 2);
        CHECK.row(x, "27 quarrels(4)", 0, 2);
        CHECK.due("27 quarrels(5)", x.quarrels(5), 1);
        CHECK.row(x, "27 quarrels(5)", 0, 4);
        CHECK.due("27 quarrels(9)", x.quarrels(9), 0);
        CHECK.row(x, "27 nothing without");
        x.pulls(0);
        CHECK.due("27 quarrels(10)", x.quarrels(10), -1);
        CHECK.due("27 quarrels(-1)", x.quarrels(-1), -1);
        CHECK.row(x, "27 the ROW stays", -1, -1, -1, -1);
        CHECK.due("27 none of none", new ReasonsSupplied().quarrels(0), 0);
    }

    private static void peace() {
        ReasonsSupplied x = Check.bureau("1190--;115---;11-5--;11--5-;1124--", "15555", "a>5");
        CHECK.due("28 peace(0)", x.peace(0), 3);
        CHECK.row(x, "28 of as many the least", 2 + 4 + 8);
        CHECK.due("28 peace(4)", x.peace(4), 4);
        CHECK.row(x, "28 peace(4)", 2 + 4 + 8 + 16);
        CHECK.due("28 peace(5)", x.peace(5), 4);
        CHECK.row(x, "28 peace(5)", 1 + 2 + 4 + 8);
        CHECK.due("28 peace(9)", x.peace(9), 5);
        CHECK.row(x, "28 peace(9)", 31);
        CHECK.due("28 peace(10)", x.peace(10), -1);
        CHECK.due("28 peace(-1)", x.peace(-1), -1);
        CHECK.row(x, "28 the ROW stays", 31);
        ReasonsSupplied y = new ReasonsSupplied();
        CHECK.due("28 none of none", y.peace(0), 0);
        CHECK.row(y, "28 none of none", 0);
        Check.grounds(y, "1100--;1199--");
        CHECK.due("28 one of two", y.peace(8), 1);
        CHECK.row(y, "28 the first of two", 1);
    }

    private static void pulls() {
        ReasonsSupplied x = Check.bureau("1190--;115---;10-5--;114--0", "15555", "a>5");
        CHECK.due("29 pulls(15)", x.pulls(15), 1 + 2 + 8);
        CHECK.row(x, "29 pulls(15)", 6, 2, -1, 0);
        CHECK.due("29 pulls(3)", x.pulls(3), 1 + 2);
        CHECK.row(x, "29 pulls(3)", 7, 0, -1, -1);
        CHECK.due("29 pulls(10)", x.pulls(10), 1 + 8);
        CHECK.row(x, "29 pulls(10): cut", 4, -1, -1, 0);
        CHECK.due("29 pulls(0)", x.pulls(0), 0);
        CHECK.row(x, "29 pulls(0)", -1, -1, -1, -1);
        CHECK.due("29 pulls(16)", x.pulls(16), -1);
        CHECK.due("29 pulls(17)", x.pulls(17), -1);
        CHECK.due("29 pulls(-1)", x.pulls(-1), -1);
        CHECK.due("29 pulls(min)", x.pulls(Integer.MIN_VALUE), -1);
        CHECK.row(x, "29 the ROW stays", -1, -1, -1, -1);
        ReasonsSupplied y = new ReasonsSupplied();
        CHECK.due("29 pulls(0) of none", y.pulls(0), 0);
        CHECK.due("29 pulls(1) of none", y.pulls(1), -1);
        Check.grounds(y, "11----;11----;11----;11----;11----;11----;11----;11---9");
        CHECK.due("29 pulls(255)", y.pulls(255), 8);
        CHECK.due("29 pulls(256)", y.pulls(256), -1);
    }
}
