/** Promises 1 to 7: a new object, THE TEXT, and what it tells. */
public final class TextsTest {
    private static final Check CHECK = new Check("texts");

    public static void main(String[] args) {
        aNewObject();
        sign();
        end();
        grounds();
        people();
        wants();
        ruleTexts();
        ruleMeanings();
        ruleLetters();
        CHECK.end();
    }

    private static void aNewObject() {
        ReasonsSupplied x = new ReasonsSupplied();
        for (int what = 0; what <= 12; what++) {
            CHECK.due("1 count(" + what + ") of a new object", x.count(what), 0);
        }
        CHECK.none("1 ground(0, 0)", () -> x.ground(0, 0));
        CHECK.none("1 person(0, 0)", () -> x.person(0, 0));
        CHECK.due("1 held(0, 0)", x.held(0, 0), -1);
        CHECK.due("1 undo()", x.undo(), -1);
        CHECK.due("1 again(0)", x.again(0), false);
        CHECK.row(x, "1 a new object");
    }

    private static void sign() {
        ReasonsSupplied x = new ReasonsSupplied();
        CHECK.due("2 sign", x.sign('1' << 24 | '2' << 16 | '3' << 8 | '4'), 4);
        CHECK.due("2 sign", x.sign('5' << 24), 8);
        x.end(5);
        CHECK.due("2 the highest byte is first", x.people(), 1);
        for (int i = 0; i < 5; i++) {
            CHECK.due("2 sign " + i + " of a person", x.person(0, i), i + 1);
        }
        for (int i = 1; i <= 20; i++) {
            CHECK.due("2 sign " + i, x.sign(-i), 4 * i);
        }
        CHECK.due("2 more than 80", x.sign(0), -1);
        CHECK.due("2 80 stay", x.count(12), 80);
        x.end(77);
        CHECK.due("2 81 would be there", x.sign(0), -1);
        CHECK.due("2 77 stay", x.count(12), 77);
        x.end(76);
        CHECK.due("2 just 80", x.sign(0), 80);
        x.end(0);
        x.sign(0xffffffff);
        CHECK.due("2 signs up to 255 are no digits", x.rule(), -1);
    }

    private static void end() {
        ReasonsSupplied x = new ReasonsSupplied();
        CHECK.due("3 end(0) of none", x.end(0), true);
        CHECK.due("3 end(1) of none", x.end(1), false);
        x.sign('v' << 24 | '+' << 16 | 't' << 8);
        CHECK.due("3 end(-1)", x.end(-1), false);
        CHECK.due("3 end(5) of 4", x.end(5), false);
        CHECK.due("3 end(min)", x.end(Integer.MIN_VALUE), false);
        CHECK.due("3 end(max)", x.end(Integer.MAX_VALUE), false);
        CHECK.due("3 refused: nothing is cut", x.count(12), 4);
        CHECK.due("3 end(4) of 4", x.end(4), true);
        CHECK.due("3 end(3)", x.end(3), true);
        CHECK.due("3 the first ones stay", x.count(12), 3);
        CHECK.due("3 the first ones", x.rule(), 0);
    }

    private static void grounds() {
        ReasonsSupplied x = new ReasonsSupplied();
        CHECK.due("4 an empty text", Check.grounds(x, ""), 0);
        String[] wrong = {"0", "-", ";", "1", "1-", "10", "10-x", "10--", "10----x", "10----;", "10----;0", "10----1", "10---->"};
        int[] at = {0, 0, 0, 1, 1, 2, 3, 4, 6, 7, 7, 6, 6};
        for (int i = 0; i < wrong.length; i++) {
            CHECK.due("4 grounds of " + wrong[i], Check.grounds(x, wrong[i]), -1 - at[i]);
            CHECK.due("4 THE TEXT is empty then", x.count(12), 0);
        }
        CHECK.due("4 a line wrong: nothing comes", x.count(0), 0);
        CHECK.due("4 two lines", Check.grounds(x, "109-0-;99-8-7"), 2);
        CHECK.due("4 THE TEXT is empty then", x.count(12), 0);
        long[][] want = {{1, 0, 9, -1, 0, -1, 0}, {9, 9, -1, 8, -1, 7, 0}};
        for (int g = 0; g < 2; g++) {
            for (int what = 0; what < 7; what++) {
                CHECK.due("4 ground(" + g + ", " + what + ")", x.ground(g, what), want[g][what]);
            }
        }
        String seven = "11----;21----;31----;41----;51----;61----;71----";
        CHECK.due("4 seven more: no room for the last", Check.grounds(x, seven), -1 - 42);
        CHECK.due("4 nothing of it comes", x.count(0), 2);
        CHECK.due("4 six more", Check.grounds(x, seven.substring(0, 41)), 6);
        CHECK.due("4 a third line of these", x.ground(4, 0), 3);
        CHECK.due("4 full: its first sign", Check.grounds(x, "11----"), -1);
        CHECK.due("4 full: an empty text", Check.grounds(x, ""), 0);
        String eight = seven + ";81----";
        ReasonsSupplied y = new ReasonsSupplied();
        CHECK.due("4 56 signs", Check.grounds(y, eight + ";"), -1 - 55);
        CHECK.due("4 56 signs, whatever the last", Check.grounds(y, eight + "x"), -1 - 55);
        CHECK.due("4 80 signs, one wrong early", Check.grounds(y, "1x" + eight + ";91----"), -1 - 1);
        CHECK.due("4 a line too early at its end", Check.grounds(y, eight.substring(0, 54)), -1 - 54);
        CHECK.due("4 eight lines", Check.grounds(y, eight), 8);
    }

    private static void people() {
        ReasonsSupplied x = new ReasonsSupplied();
        CHECK.due("5 an empty text", Check.people(x, ""), 0);
        String[] wrong = {"0", "x", "1", "1-", "1234", "1234-", "12345;", "123456", "12345;0"};
        int[] at = {0, 0, 1, 1, 4, 4, 6, 5, 6};
        for (int i = 0; i < wrong.length; i++) {
            CHECK.due("5 people of " + wrong[i], Check.people(x, wrong[i]), -1 - at[i]);
            CHECK.due("5 THE TEXT is empty then", x.count(12), 0);
        }
        CHECK.due("5 a line wrong: nothing comes", x.count(1), 0);
        String six = "10000;29999;31234;44321;50505;65050";
        CHECK.due("5 36 signs", Check.people(x, six + ";"), -1 - 35);
        CHECK.due("5 six", Check.people(x, six), 6);
        CHECK.due("5 STRENGTH", x.person(3, 0), 4);
        CHECK.due("5 HUMOUR a", x.person(3, 1), 4);
        CHECK.due("5 HUMOUR d", x.person(3, 4), 1);
        CHECK.due("5 they hold nothing", x.person(3, 5), 0);
        CHECK.due("5 full", Check.people(x, "10000"), -1);
        ReasonsSupplied y = new ReasonsSupplied();
        Check.people(y, "10000;10000;10000");
        CHECK.due("5 no room for the fourth", Check.people(y, "10000;10000;10000;10000"), -1 - 18);
    }

    private static void wants() {
        ReasonsSupplied x = new ReasonsSupplied();
        CHECK.due("6 an empty text", Check.wants(x, ""), 0);
        String[] wrong = {"e", "A", "a", "a=", "a<", "a<a", "a<1;", "a<1;;", "a<1x", "a<1b<2c<3d<4", "a<1b<2c<3d", ";a<1"};
        int[] at = {0, 0, 1, 1, 2, 2, 4, 4, 3, 9, 9, 0};
        for (int i = 0; i < wrong.length; i++) {
            CHECK.due("6 wants of " + wrong[i], Check.wants(x, wrong[i]), -1 - at[i]);
            CHECK.due("6 THE TEXT is empty then", x.count(12), 0);
        }
        CHECK.due("6 a line wrong: nothing comes", x.count(2), 0);
        Check.people(x, "15555;10990");
        CHECK.due("6 three", Check.wants(x, "a<6;b>5c>8;d<1a<1b>8"), 3);
        CHECK.due("6 has a<6 alone", x.person(0, 6), 1);
        CHECK.due("6 has all", x.person(1, 6), 7);
        CHECK.due("6 less than 5, more than 5 are not so of 5", Check.wants(x, "a<5;a>5;a<5a>5"), 3);
        CHECK.due("6 not had", x.person(0, 6), 1);
        CHECK.due("6 full", Check.wants(x, "a<5"), -1);
        ReasonsSupplied y = new ReasonsSupplied();
        String six = "a<1b<2c<3;a<1b<2c<3;a<1b<2c<3;a<1b<2c<3;a<1b<2c<3;a<1b<2c<3";
        CHECK.due("6 60 signs", Check.wants(y, six + ";"), -1 - 59);
        CHECK.due("6 60 signs, whatever the last", Check.wants(y, six + "d"), -1 - 59);
        CHECK.due("6 seven short ones: no room", Check.wants(y, "a<1;a<1;a<1;a<1;a<1;a<1;a<1"), -1 - 24);
        CHECK.due("6 six long ones", Check.wants(y, six), 6);
    }

    private static void ruleTexts() {
        ReasonsSupplied x = new ReasonsSupplied();
        CHECK.due("7 an empty text", Check.rule(x, ""), 0);
        String[] wrong = {"x", "+v", "v+", "vt", "v1", "1v", "1234", "(v", "v)", "()", "v<t<g", "v=t>g", "(v<t", "-", "v--",
            "(((((v)))))", "v~t", "v(t)", "(v)t", "(v)1", "v;", "a", "v*/t", "(v<t)<(t<v)<n", "v<t+(g<e)<1", "~v"};
        int[] at = {0, 0, 2, 1, 1, 1, 3, 2, 1, 1, 3, 3, 4, 1, 3,
            4, 1, 1, 3, 3, 1, 0, 2, 11, 9, 0};
        for (int i = 0; i < wrong.length; i++) {
            CHECK.due("7 rule of " + wrong[i], Check.rule(x, wrong[i]), -1 - at[i]);
            CHECK.due("7 THE TEXT is empty then", x.count(12), 0);
        }
        for (int sign = 0; sign < 256; sign++) {
            int known = "+-*/<>=".indexOf(sign) >= 0 ? 2 : 1;
            CHECK.due("7 rule of v, sign " + sign, Check.rule(new ReasonsSupplied(), "v" + (char) sign + (char) 0), -1 - known);
        }
        String[] good = {"v", "999", "((((v))))", "(v<t)<(t<v)", "v<(t<(g<(e<(d<s))))", "--v---t", "(v)*(t)+((v)+((t)))", "007/-3"};
        for (String text : good) {
            CHECK.due("7 rule of " + text, Check.rule(x, text), 0);
        }
        String forty = "v+v+v+v+v+v+v+v+v+v+v+v+v+v+v+v+v+v+v+-v";
        CHECK.due("7 40 signs", Check.rule(x, forty), 0);
        CHECK.due("7 41, the first 40 could end", Check.rule(x, forty + "+"), -1 - 40);
        CHECK.due("7 41, the last never could stand", Check.rule(x, forty + "x"), -1 - 40);
        CHECK.due("7 41, the first 40 could go on", Check.rule(x, forty.substring(0, 39) + "-v"), -1 - 40);
        CHECK.due("7 40 that end too early", Check.rule(x, forty.substring(0, 39) + "-"), -1 - 40);
        CHECK.due("7 42, a wrong one early", Check.rule(x, "vv" + forty), -1 - 1);
        // A wrong text leaves THE RULE as it was.
        ReasonsSupplied y = Check.bureau("199---", "15555", "a>8");
        y.gives(0, 0);
        Check.rule(y, "3");
        Check.rule(y, "4+");
        CHECK.due("7 THE RULE stays", y.later(0, 0, 1), 8);
        Check.rule(y, "");
        CHECK.due("7 none again", y.later(0, 0, 1), 6);
    }

    /** One of PEOPLE with HUMOUR a 5 and a GROUND of GRADE 1 that pulls a to 9: by how much a is more in a DAY. */
    private static int push(String rule) {
        ReasonsSupplied x = Check.bureau("199---", "35555", "a>8");
        x.gives(0, 0);
        CHECK.due("7 rule of " + rule, Check.rule(x, rule), 0);
        return x.later(0, 0, 1) - 5;
    }

    private static void ruleMeanings() {
        String[] rules = {"", "0", "2", "-2", "1+2*2-1", "8-3-2", "(8-3)-(2-1)", "12/3/2", "7/2", "-7/2", "7/-2", "3/0", "3/(1-1)",
            "2*3/4", "3/4*2", "1<2", "2<1", "2>1", "1=1", "1=2", "1+1=2", "(1=1)+(2=2)", "1<2+1", "-(1-3)", "--2", "---2", "2--1",
            "2*-1", "-2*2", "1-2-3", "9/(1+1)", "-v+t", "999*999*999*999-999*999*999*999+1", "1+(2<1)", "4*(2>1)-3"};
        int[] want = {1, 0, 2, -2, 4, 3, 4, 2, 3, -3, -3, 0, 0,
            1, 0, 1, 0, 1, 1, 0, 1, 2, 1, 2, 2, -2, 3,
            -2, -4, -4, 4, 4, 1, 1, 1};
        for (int i = 0; i < rules.length; i++) {
            CHECK.due("7 push by " + rules[i], push(rules[i]), want[i]);
        }
        // One pushes up by more than 99, one down by 99: put to -99 .. 99 both are as much.
        ReasonsSupplied x = Check.bureau("119---;210---", "15555", "a>8");
        Check.rule(x, "(g=1)*999-(g=2)*99");
        x.gives(0, 0);
        x.makes(1, 1);
        x.gives(0, 1);
        CHECK.due("7 put to 99", x.later(0, 0, 1), 5);
        Check.rule(x, "(g=1)*99-(g=2)*999");
        CHECK.due("7 put to -99", x.later(0, 0, 1), 5);
        Check.rule(x, "(g=1)*99-(g=2)*98");
        CHECK.due("7 both are added up", x.later(0, 0, 1), 6);
    }

    private static void ruleLetters() {
        ReasonsSupplied x = Check.bureau("319---;513---;81-0--", "22500", "a>8");
        x.gives(0, 0);
        String[] rules = {"v", "t-8", "g", "e", "d", "s", "n"};
        int[] want = {2, 1, 3, 1, 0, 2, 0};
        for (int i = 0; i < rules.length; i++) {
            Check.rule(x, rules[i]);
            CHECK.due("7 letter " + rules[i], x.later(0, 0, 1), 2 + want[i]);
        }
        // A HUMOUR that no held GROUND pulls stays.
        Check.rule(x, "9");
        CHECK.due("7 not pulled", x.later(0, 1, 1), 5);
        // e counts all that are held; a is pulled by two of three.
        x.gives(0, 1);
        x.gives(0, 2);
        Check.rule(x, "e");
        CHECK.due("7 e", x.later(0, 0, 1), 2 + 3 + 3);
        CHECK.due("7 e", x.later(0, 1, 1), 5 + 3);
        // d and n go on with the days, and are as ahead of each.
        Check.rule(x, "0");
        x.days(3);
        Check.rule(x, "d*(g=8)");
        CHECK.due("7 d", x.later(0, 1, 1), 5 + 3);
        CHECK.due("7 d in two days", x.later(0, 1, 2), 9);
        Check.rule(x, "n*(g=8)-1");
        CHECK.due("7 n", x.later(0, 1, 1), 5 + 2);
        Check.rule(x, "0");
        x.days(4);
        Check.rule(x, "n-1");
        CHECK.due("7 n by 7", x.later(0, 1, 1), 4);
        x.days(1);
        CHECK.due("7 n behind a day", x.later(0, 1, 1), 4);
    }
}
