/** Promises 18 to 23: what is later, nothing being done. */
public final class LaterTest {
    private static final Check CHECK = new Check("later");

    public static void main(String[] args) {
        later();
        settles();
        when();
        lacks();
        richest();
        apart();
        CHECK.end();
    }

    /** The first one goes a to 9 and b to 0, the second one c to 4. */
    private static ReasonsSupplied bureau() {
        ReasonsSupplied x = Check.bureau("3290--;51--4-", "15500;24567", "a>6;b<4a>5;c>3d<8");
        x.gives(0, 0);
        x.gives(1, 1);
        return x;
    }

    private static void later() {
        ReasonsSupplied x = bureau();
        CHECK.due("18 later(0, 0, 0)", x.later(0, 0, 0), 5);
        CHECK.row(x, "18 now", 5, 5, 0, 0, 0);
        CHECK.due("18 later(0, 0, 1)", x.later(0, 0, 1), 6);
        CHECK.due("18 later(0, 1, 2)", x.later(0, 1, 2), 3);
        CHECK.row(x, "18 in two days", 7, 3, 0, 0, 3);
        CHECK.due("18 later(0, 1, 99)", x.later(0, 1, 99), 0);
        CHECK.due("18 later(1, 2, 1)", x.later(1, 2, 1), 5);
        CHECK.row(x, "18 the second one", 4, 5, 5, 7, 4);
        CHECK.due("18 later(1, 3, 1)", x.later(1, 3, 1), 7);
        CHECK.due("18 later(2, 0, 0)", x.later(2, 0, 0), -1);
        CHECK.due("18 later(-1, 0, 0)", x.later(-1, 0, 0), -1);
        CHECK.due("18 later(0, 4, 0)", x.later(0, 4, 0), -1);
        CHECK.due("18 later(0, -1, 0)", x.later(0, -1, 0), -1);
        CHECK.due("18 later(0, 0, 100)", x.later(0, 0, 100), -1);
        CHECK.due("18 later(0, 0, -1)", x.later(0, 0, -1), -1);
        CHECK.row(x, "18 the ROW stays", 4, 5, 5, 7, 4);
        CHECK.due("18 DAY stays", x.count(3), 0);
        CHECK.due("18 HUMOURS stay", x.count(8), 10 + 22);
        CHECK.due("18 held stays", x.held(0, 0), 0);
        // DAY and DAYS go on in it.
        Check.rule(x, "n*(d<2)");
        CHECK.due("18 n and d go on", x.later(0, 0, 9), 6);
        x.days(1);
        CHECK.due("18 from now", x.later(0, 0, 8), 6);
    }

    private static void settles() {
        ReasonsSupplied x = bureau();
        CHECK.due("19 settles(0)", x.settles(0), 5);
        CHECK.row(x, "19 settles(0)", 9, 0, 0, 0);
        CHECK.due("19 settles(1)", x.settles(1), 2);
        CHECK.row(x, "19 settles(1)", 4, 5, 4, 7);
        Check.rule(x, "(v<6)*2-1");
        CHECK.due("19 it swings", x.settles(0), -2);
        CHECK.row(x, "19 the ROW stays", 4, 5, 4, 7);
        Check.rule(x, "0");
        CHECK.due("19 at once", x.settles(0), 0);
        CHECK.row(x, "19 at once", 5, 5, 0, 0);
        // It rests for a while, then goes on: the first time counts.
        Check.rule(x, "d>2");
        CHECK.due("19 the first time", x.settles(0), 0);
        CHECK.due("19 settles(2)", x.settles(2), -1);
        CHECK.due("19 settles(-1)", x.settles(-1), -1);
        // On day 98 for the last time it goes otherwise than the day before: 99 is the first.
        Check.rule(x, "(d<99)*((v<6)*2-1)");
        CHECK.due("19 in 99 days", x.settles(0), 99);
        x.makes(1, 1);
        x.gives(0, 1);
        CHECK.due("19 DAYS 99 at most, so never later", x.settles(0), 99);
        Check.rule(x, "(v<6)*2-(v<9)-(v>5)*(n<9)");
        CHECK.due("19 in none of these", x.settles(0), -2);
    }

    private static void when() {
        ReasonsSupplied x = bureau();
        CHECK.due("20 when(0, 0)", x.when(0, 0), 2);
        CHECK.row(x, "20 when(0, 0)", 2);
        CHECK.due("20 when(1, 2): now", x.when(1, 2), 0);
        CHECK.row(x, "20 when(1, 2)", 1);
        CHECK.due("20 when(1, 0)", x.when(1, 0), -2);
        CHECK.row(x, "20 the ROW stays", 1);
        CHECK.due("20 when(2, 0)", x.when(2, 0), -1);
        CHECK.due("20 when(0, 3)", x.when(0, 3), -1);
        CHECK.due("20 when(-1, 0)", x.when(-1, 0), -1);
        CHECK.due("20 when(0, -1)", x.when(0, -1), -1);
        Check.rule(x, "(d>97)*9");
        CHECK.due("20 in 99 days", x.when(0, 0), 99);
        Check.rule(x, "(d>98)*9");
        CHECK.due("20 in 100 days", x.when(0, 0), -2);
    }

    private static void lacks() {
        ReasonsSupplied x = Check.bureau("11----", "15505", "a<5b>5c>0;a<6b>4d<6;a<1d>9;c<0");
        CHECK.due("21 lacks(0, 0)", x.lacks(0, 0), 7);
        CHECK.row(x, "21 one off each", 3);
        CHECK.due("21 lacks(0, 1)", x.lacks(0, 1), 0);
        CHECK.row(x, "21 none off", 0);
        CHECK.due("21 lacks(0, 2)", x.lacks(0, 2), 3);
        CHECK.row(x, "21 far off", 5 + 5);
        CHECK.due("21 lacks(0, 3)", x.lacks(0, 3), 1);
        CHECK.row(x, "21 what never is", 1);
        CHECK.due("21 lacks(0, 4)", x.lacks(0, 4), -1);
        CHECK.due("21 lacks(1, 0)", x.lacks(1, 0), -1);
        CHECK.due("21 lacks(-1, 0)", x.lacks(-1, 0), -1);
        CHECK.due("21 lacks(0, -1)", x.lacks(0, -1), -1);
        CHECK.row(x, "21 the ROW stays", 1);
        Check.wants(x, "b<9a<3c>2");
        CHECK.due("21 by their order", x.lacks(0, 4), 6);
        CHECK.row(x, "21 by their order", 3 + 3);
    }

    private static void richest() {
        ReasonsSupplied x = new ReasonsSupplied();
        CHECK.due("22 no PEOPLE", x.richest(), -2);
        CHECK.row(x, "22 no ROW");
        Check.people(x, "10000;29000;30900");
        CHECK.due("22 no WANTS", x.richest(), 0);
        CHECK.row(x, "22 no WANTS", 0, 0);
        Check.wants(x, "a>5;b>5;c>5");
        CHECK.due("22 of equal ones the first", x.richest(), 1);
        CHECK.row(x, "22 of equal ones the first", 1, 4);
        Check.wants(x, "a<5;d>5");
        CHECK.due("22 the most", x.richest(), 2);
        CHECK.row(x, "22 the most", 2 + 8, 4 + 16);
    }

    private static void apart() {
        ReasonsSupplied x = bureau();
        CHECK.due("23 apart(0, 1, 0)", x.apart(0, 1, 0), 1 + 0 + 6 + 7);
        CHECK.row(x, "23 apart(0, 1, 0)", 1, 0, -6, -7);
        CHECK.due("23 apart(1, 0, 0)", x.apart(1, 0, 0), 14);
        CHECK.row(x, "23 apart(1, 0, 0)", -1, 0, 6, 7);
        CHECK.due("23 apart(0, 1, 99)", x.apart(0, 1, 99), 5 + 5 + 4 + 7);
        CHECK.row(x, "23 apart(0, 1, 99)", 5, -5, -4, -7);
        CHECK.due("23 like ones", x.apart(1, 1, 0), -1);
        CHECK.due("23 apart(0, 2, 0)", x.apart(0, 2, 0), -1);
        CHECK.due("23 apart(-1, 0, 0)", x.apart(-1, 0, 0), -1);
        CHECK.due("23 apart(0, 1, 100)", x.apart(0, 1, 100), -1);
        CHECK.due("23 apart(0, 1, -1)", x.apart(0, 1, -1), -1);
        CHECK.row(x, "23 the ROW stays", 5, -5, -4, -7);
        // Both from the same DAY on.
        Check.rule(x, "n=0");
        CHECK.due("23 a day of n 0 for both", x.apart(0, 1, 1), 2 + 1 + 7 + 7);
        CHECK.row(x, "23 a day of n 0 for both", 2, 1, -7, -7);
    }
}
