/** For each promise of the document: ordinary inputs, the edges that it names, and wrong inputs. */
public final class PromisesTest {
    private static final int NONE = ManorRolls.NONE;
    private static final int NO_SUCH = -2;
    private static final int[] WILD = {Integer.MIN_VALUE, -3, -2, 60, 1000, Integer.MAX_VALUE};
    private static final Check check = new Check();

    public static void main(String[] args) {
        newObject();
        custom();
        customInForce();
        person();
        marry();
        merchet();
        marriageEndsParts();
        die();
        dieByHoldings();
        dieOfWidow();
        heirsOnDeath();
        grant();
        rod();
        weeks();
        sick();
        works();
        pay();
        suit();
        appear();
        court();
        courtWithTheDead();
        holder();
        right();
        heir();
        heirByOrder();
        heirOfSiblings();
        heirsOfDaughters();
        heirOfOneself();
        heirTwice();
        told();
        suited();
        count();
        check.end();
    }

    /** A new object with so many men; they have no parents. */
    private static ManorRolls withMen(int men) {
        ManorRolls x = new ManorRolls();
        for (int i = 0; i < men; i++) {
            x.person(0, NONE, NONE);
        }
        return x;
    }

    /** Man 0 and woman 1, married. */
    private static ManorRolls withCouple(int what, int dues) {
        ManorRolls x = new ManorRolls();
        x.custom(what, dues);
        x.person(0, NONE, NONE);
        x.person(1, NONE, NONE);
        x.marry(0, 1);
        return x;
    }

    private static void holders(ManorRolls x, int holding, int day, int... want) {
        for (int s = 0; s < want.length; s++) {
            check.due("holder(" + holding + ", " + s + ", " + day + ")", x.holder(holding, s, day), want[s]);
        }
    }

    private static void heirs(ManorRolls x, int person, int... want) {
        for (int i = 0; i < want.length; i++) {
            check.due("heir(" + person + ", " + i + ")", x.heir(person, i), want[i]);
        }
        if (want.length < 40) {
            check.due("heir(" + person + ", " + want.length + ")", x.heir(person, want.length), NONE);
        }
    }

    private static void newObject() {
        check.begin("1 a new object");
        ManorRolls x = new ManorRolls();
        int[] counts = {0, 0, 0, 0, 120, 0, 0, 120};
        for (int what = 0; what < counts.length; what++) {
            check.due("count(" + what + ")", x.count(what), counts[what]);
        }
        check.due("told(0, 0)", x.told(0, 0), NO_SUCH);
        check.due("heir(0, 0)", x.heir(0, 0), NONE);
        for (int holding = 0; holding < 10; holding++) {
            for (int strip = 0; strip < 12; strip++) {
                check.due("holder", x.holder(holding, strip, 0), NONE);
                check.due("right how", x.right(holding, strip, 0, 0, 1), 0);
                check.due("right day", x.right(holding, strip, 0, 0, 2), 0);
                check.due("right ahead", x.right(holding, strip, 0, 1, 0), NO_SUCH);
            }
        }
        ManorRolls other = new ManorRolls();
        x.person(0, NONE, NONE);
        x.grant(0, 1, 0);
        check.due("another object's count(1)", other.count(1), 0);
        check.due("another object's count(4)", other.count(4), 120);
    }

    private static void custom() {
        check.begin("2 custom");
        ManorRolls x = new ManorRolls();
        check.due("custom(0, 0)", x.custom(0, 0), 1);
        check.due("custom(212330, 999999)", x.custom(212330, 999999), 2);
        int[] badWhats = {-1, -10, -100000, 300000, 13000, 99000, 212430, 212340, 212331, 400, 40, 1, 9, 1000000,
            Integer.MAX_VALUE, Integer.MIN_VALUE};
        for (int what : badWhats) {
            check.due("custom(" + what + ", 0)", x.custom(what, 0), NONE);
        }
        int[] badDues = {-1, 1000000, Integer.MAX_VALUE, Integer.MIN_VALUE};
        for (int dues : badDues) {
            check.due("custom(0, " + dues + ")", x.custom(0, dues), NONE);
        }
        check.due("count(2)", x.count(2), 2);
        check.due("custom(112000, 10203)", x.custom(112000, 10203), 3);
    }

    private static void customInForce() {
        check.begin("2 the custom in force");
        ManorRolls x = withMen(3);
        x.grant(0, 12, 0);
        x.weeks(1);
        check.due("works due by the first custom", x.told(0, 9), 0);
        x.custom(300, 0);
        x.weeks(1);
        check.due("works due by the second", x.told(0, 9), 36);
        x.custom(13000, 0);
        x.weeks(1);
        check.due("one that can't be changes nothing", x.told(0, 9), 72);
        x.custom(100, 123456);
        x.weeks(1);
        check.due("works due by the third", x.told(0, 9), 84);
        x.rod(0, 2, 0, 1);
        check.due("ENTRY 34 for each", x.told(1, 8), 68);
        x.die(0);
        check.due("HERIOT 12", x.told(0, 8), 12);
        x.person(1, NONE, NONE);
        x.marry(2, 3);
        check.due("MERCHET 56", x.told(3, 8), 56);
    }

    private static void person() {
        check.begin("3 person");
        ManorRolls x = new ManorRolls();
        check.due("person(0, NONE, NONE)", x.person(0, NONE, NONE), 0);
        check.due("person(1, NONE, NONE)", x.person(1, NONE, NONE), 1);
        int[][] bad = {{-1, NONE, NONE}, {2, NONE, NONE}, {0, 1, NONE}, {0, NONE, 0}, {0, 2, NONE}, {0, NONE, 2},
            {0, 0, 0}, {1, 1, 1}};
        for (int[] one : bad) {
            check.due("person(" + one[0] + ", " + one[1] + ", " + one[2] + ")",
                x.person(one[0], one[1], one[2]), NONE);
        }
        for (int wild : WILD) {
            check.due("person(" + wild + ", ..)", x.person(wild, NONE, NONE), NONE);
            check.due("person(0, " + wild + ", ..)", x.person(0, wild, NONE), NONE);
            check.due("person(0, NONE, " + wild + ")", x.person(0, NONE, wild), NONE);
        }
        check.due("count(1)", x.count(1), 2);
        x.weeks(3);
        x.die(0);
        check.due("of a dead father", x.person(1, 0, 1), 2);
        int[] want = {1, 0, 1, 1, NONE, 21, 0, 0, 0, 0, 0, 0, 0, 0};
        for (int what = 0; what < want.length; what++) {
            check.due("told(2, " + what + ")", x.told(2, what), want[what]);
        }
        for (int number = 3; number < 60; number++) {
            check.due("person", x.person(0, NONE, 1), number);
        }
        check.due("the 61st", x.person(0, NONE, NONE), NONE);
        check.due("count(1)", x.count(1), 60);
    }

    private static void marry() {
        check.begin("4 marry");
        ManorRolls x = new ManorRolls();
        x.custom(0, 7);
        for (int i = 0; i < 6; i++) {
            x.person(i % 2, NONE, NONE);
        }
        x.die(4);
        x.die(5);
        int[][] bad = {{1, 0}, {0, 0}, {1, 1}, {0, 2}, {1, 3}, {4, 1}, {0, 5}, {NONE, 1}, {0, NONE}, {6, 1}, {0, 6}};
        for (int[] two : bad) {
            check.due("marry(" + two[0] + ", " + two[1] + ")", x.marry(two[0], two[1]), false);
        }
        for (int wild : WILD) {
            check.due("marry(" + wild + ", 1)", x.marry(wild, 1), false);
            check.due("marry(0, " + wild + ")", x.marry(0, wild), false);
        }
        check.due("nothing is owed", x.count(5), 0);
        check.due("marry(0, 1)", x.marry(0, 1), true);
        check.due("told(0, 4)", x.told(0, 4), 1);
        check.due("told(1, 4)", x.told(1, 4), 0);
        check.due("again", x.marry(0, 1), false);
        check.due("a married man", x.marry(0, 3), false);
        check.due("a married woman", x.marry(2, 1), false);
        check.due("owed once", x.count(5), 7);
        x.die(0);
        check.due("told(1, 4)", x.told(1, 4), NONE);
        check.due("told(0, 4) of the dead", x.told(0, 4), NONE);
        check.due("marry(2, 1)", x.marry(2, 1), true);
        x.die(1);
        check.due("told(2, 4)", x.told(2, 4), NONE);
        check.due("marry(2, 3)", x.marry(2, 3), true);
    }

    private static void merchet() {
        check.begin("4 merchet");
        ManorRolls x = withMen(3);
        x.custom(0, 99);
        x.person(1, NONE, NONE);
        x.person(1, 0, 3);
        x.person(1, 0, 3);
        x.marry(1, 4);
        check.due("by the father who is alive", x.told(0, 8), 99);
        check.due("not by her", x.told(4, 8), 0);
        x.die(0);
        x.marry(2, 5);
        check.due("by her", x.told(5, 8), 99);
        check.due("not by the dead father", x.told(0, 8), 99);
        check.due("not by the mother", x.told(3, 8), 0);
        check.due("not by the man", x.told(2, 8), 0);
    }

    private static void marriageEndsParts() {
        check.begin("4 a marriage ends widow's parts");
        ManorRolls x = withCouple(212000, 0);
        x.person(0, 0, 1);
        x.person(0, 0, 1);
        x.grant(3, 7, 0);
        x.grant(4, 3, 0);
        x.grant(4, 2, 1);
        check.due("die(0)", x.die(0), 10);
        check.due("parts", x.told(1, 7), 10);
        x.weeks(1);
        x.person(0, NONE, NONE);
        check.due("refused", x.marry(2, 2), false);
        check.due("parts stay", x.told(1, 7), 10);
        check.due("marry(4, 1)", x.marry(4, 1), true);
        holders(x, 3, 7, 2, 2, 2, 2, 3, 3, 3, NONE);
        holders(x, 4, 7, 2, 2, 3, 1, 1, NONE);
        check.due("told(1, 6)", x.told(1, 6), 2);
        check.due("told(1, 7)", x.told(1, 7), 0);
        check.due("how", x.right(3, 0, 7, 0, 1), 2);
        check.due("day", x.right(3, 0, 7, 0, 2), 7);
        check.due("the right ahead", x.right(3, 0, 7, 1, 1), 3);

        ManorRolls y = withCouple(6000, 0);
        y.grant(0, 12, 1);
        check.due("die(1)", y.die(1), 12);
        check.due("a widower's part", y.told(0, 7), 6);
        check.due("no heirs", y.count(4), 114);
        y.person(1, NONE, NONE);
        y.marry(0, 2);
        check.due("back to the lord", y.count(4), 120);
        check.due("how", y.right(0, 0, 0, 0, 1), 5);
    }

    private static void die() {
        check.begin("5 die");
        ManorRolls x = withCouple(5000, 20000);
        x.person(0, 0, 1);
        x.grant(0, 12, 0);
        for (int wild : WILD) {
            check.due("die(" + wild + ")", x.die(wild), NONE);
        }
        check.due("die(NONE)", x.die(NONE), NONE);
        check.due("die(3)", x.die(3), NONE);
        x.weeks(2);
        check.due("die(0)", x.die(0), 12);
        check.due("told(0, 3)", x.told(0, 3), 0);
        holders(x, 0, 14, 1, 1, 1, 1, 1, 2, 2, 2, 2, 2, 2, 2);
        holders(x, 0, 13, 0, 0, 0, 0, 0, 0, 0, 0, 0, 0, 0, 0);
        check.due("HERIOT", x.told(0, 8), 2);
        check.due("die(0) again", x.die(0), NONE);
        check.due("HERIOT once", x.told(0, 8), 2);
        check.due("die(1)", x.die(1), 5);
        check.due("no HERIOT of parts", x.told(1, 8), 0);
        check.due("told(2, 6)", x.told(2, 6), 12);
        check.due("told(2, 7)", x.told(2, 7), 0);
        check.due("die(2)", x.die(2), 12);
        check.due("count(4)", x.count(4), 120);
        check.due("how", x.right(0, 11, 14, 0, 1), 5);
        ManorRolls y = withMen(1);
        y.custom(0, 990000);
        check.due("one without strips", y.die(0), 0);
        check.due("no HERIOT", y.told(0, 8), 0);
    }

    private static void dieByHoldings() {
        check.begin("5 holding by holding");
        ManorRolls x = withCouple(5000, 30000);
        x.person(0, 0, NONE);
        x.grant(9, 2, 0);
        x.grant(0, 5, 0);
        x.grant(4, 3, 0);
        check.due("die(0)", x.die(0), 10);
        // 2 * 5 / 12 = 0, 5 * 5 / 12 = 2, 3 * 5 / 12 = 1
        holders(x, 9, 0, 2, 2, NONE);
        holders(x, 0, 0, 1, 1, 2, 2, 2, NONE);
        holders(x, 4, 0, 1, 2, 2, NONE);
        check.due("HERIOT for each holding", x.told(0, 8), 9);

        ManorRolls y = withCouple(211000, 0);
        y.person(0, 0, NONE);
        y.person(0, 0, NONE);
        y.grant(0, 1, 0);
        y.grant(1, 1, 0);
        y.grant(2, 3, 0);
        y.custom(200000, 0);
        y.die(0);
        holders(y, 0, 0, 2);
        holders(y, 1, 0, 2);
        holders(y, 2, 0, 2, 2, 3);
    }

    private static void dieOfWidow() {
        check.begin("5 a widow dies");
        ManorRolls x = withCouple(6000, 10000);
        x.person(0, 0, NONE);
        x.person(0, NONE, 1);
        x.grant(0, 4, 0);
        x.grant(0, 2, 1);
        x.die(0);
        holders(x, 0, 0, 1, 1, 2, 2, 1, 1, NONE);
        check.due("told(1, 6)", x.told(1, 6), 4);
        check.due("told(1, 7)", x.told(1, 7), 2);
        check.due("parts can't go by rod", x.rod(0, 3, 1, 3), false);
        x.custom(12000, 70000);
        check.due("die(1)", x.die(1), 4);
        holders(x, 0, 0, 2, 2, 2, 2, 3, 3, NONE);
        check.due("HERIOT by the custom of that day", x.told(1, 8), 7);
        check.due("her son's", x.right(0, 4, 0, 0, 1), 2);

        ManorRolls y = withCouple(12000, 0);
        y.person(0, 0, NONE);
        y.person(0, 0, NONE);
        y.grant(0, 4, 0);
        y.die(0);
        y.die(2);
        y.custom(100000, 0);
        y.person(0, 0, NONE);
        y.die(1);
        holders(y, 0, 0, 4, 4, 4, 4, NONE);
    }

    private static void heirsOnDeath() {
        check.begin("5 strips pass in parts");
        ManorRolls x = withMen(1);
        x.custom(200000, 0);
        for (int i = 0; i < 5; i++) {
            x.person(0, 0, NONE);
        }
        x.person(1, 1, NONE);
        x.person(1, 1, NONE);
        x.person(0, 5, NONE);
        x.grant(7, 12, 0);
        x.grant(8, 3, 0);
        x.die(1);
        x.die(5);
        check.due("die(0)", x.die(0), 15);
        // 12 by 5: 3, 3, 2, 2, 2; the first one's 3 by 2: 2, 1
        holders(x, 7, 0, 6, 6, 7, 2, 2, 2, 3, 3, 4, 4, 8, 8);
        // 3 by 5: 1, 1, 1, 0, 0
        holders(x, 8, 0, 6, 2, 3, NONE);

        ManorRolls y = withMen(2);
        y.custom(100000, 0);
        y.person(1, 0, NONE);
        y.person(1, 0, NONE);
        y.person(1, 0, NONE);
        y.grant(0, 8, 0);
        y.die(0);
        holders(y, 0, 0, 2, 2, 2, 3, 3, 3, 4, 4, NONE);
    }

    private static void grant() {
        check.begin("6 grant");
        ManorRolls x = withMen(3);
        x.custom(0, 9900);
        x.die(2);
        int[][] bad = {{10, 1, 0}, {-1, 1, 0}, {0, 0, 0}, {0, -1, 0}, {0, 13, 0}, {0, 1, 2}, {0, 1, 3}, {0, 1, NONE}};
        for (int[] one : bad) {
            check.due("grant(" + one[0] + ", " + one[1] + ", " + one[2] + ")",
                x.grant(one[0], one[1], one[2]), false);
        }
        for (int wild : WILD) {
            check.due("grant(" + wild + ", ..)", x.grant(wild, 1, 0), false);
            check.due("grant(0, " + wild + ", 0)", x.grant(0, wild, 0), false);
            check.due("grant(0, 1, " + wild + ")", x.grant(0, 1, wild), false);
        }
        check.due("count(7)", x.count(7), 120);
        x.weeks(1);
        check.due("grant(9, 5, 0)", x.grant(9, 5, 0), true);
        check.due("too many", x.grant(9, 8, 1), false);
        check.due("grant(9, 3, 1)", x.grant(9, 3, 1), true);
        holders(x, 9, 7, 0, 0, 0, 0, 0, 1, 1, 1, NONE, NONE, NONE, NONE);
        check.due("how", x.right(9, 7, 7, 0, 1), 1);
        check.due("day", x.right(9, 7, 7, 0, 2), 7);
        check.due("nothing is owed", x.count(5), 0);
        check.due("count(4)", x.count(4), 112);
        check.due("count(7)", x.count(7), 128);
        x.die(0);
        check.due("the lord's first ones", x.grant(9, 6, 1), true);
        holders(x, 9, 7, 1, 1, 1, 1, 1, 1, 1, 1, 1, NONE, NONE, NONE);
    }

    private static void rod() {
        check.begin("7 rod");
        ManorRolls x = withMen(4);
        x.custom(0, 1100);
        x.grant(2, 6, 0);
        x.grant(2, 6, 1);
        x.die(3);
        int[][] bad = {{10, 1, 0, 1}, {-1, 1, 0, 1}, {2, 0, 0, 1}, {2, -1, 0, 1}, {2, 7, 0, 1}, {2, 1, 0, 0},
            {2, 1, 2, 0}, {2, 1, 3, 0}, {2, 1, 0, 3}, {2, 1, 0, 4}, {2, 1, 4, 0}, {2, 1, NONE, 0}, {2, 1, 0, NONE},
            {3, 1, 0, 1}};
        for (int[] one : bad) {
            check.due("rod(" + one[0] + ", " + one[1] + ", " + one[2] + ", " + one[3] + ")",
                x.rod(one[0], one[1], one[2], one[3]), false);
        }
        for (int wild : WILD) {
            check.due("rod(" + wild + ", ..)", x.rod(wild, 1, 0, 1), false);
            check.due("rod(2, " + wild + ", ..)", x.rod(2, wild, 0, 1), false);
            check.due("rod(2, 1, " + wild + ", 1)", x.rod(2, 1, wild, 1), false);
            check.due("rod(2, 1, 0, " + wild + ")", x.rod(2, 1, 0, wild), false);
        }
        check.due("count(7)", x.count(7), 132);
        check.due("count(5)", x.count(5), 0);
        check.due("rod(2, 2, 0, 1)", x.rod(2, 2, 0, 1), true);
        check.due("ENTRY for each", x.told(1, 8), 22);
        check.due("none of the giver", x.told(0, 8), 0);
        holders(x, 2, 0, 1, 1, 0, 0, 0, 0, 1, 1, 1, 1, 1, 1);
        check.due("rod(2, 8, 1, 2)", x.rod(2, 8, 1, 2), true);
        check.due("how", x.right(2, 0, 0, 0, 1), 4);
        check.due("from whom", x.right(2, 0, 0, 1, 0), 1);
        check.due("from whom that one", x.right(2, 0, 0, 2, 0), 0);
        check.due("told(2, 8)", x.told(2, 8), 88);
        check.due("rod(2, 4, 0, 2)", x.rod(2, 4, 0, 2), true);
        check.due("told(2, 6)", x.told(2, 6), 12);

        ManorRolls y = withCouple(6000, 0);
        y.person(0, NONE, NONE);
        y.grant(0, 6, 0);
        y.grant(0, 1, 1);
        y.die(0);
        check.due("told(1, 6)", y.told(1, 6), 4);
        check.due("one not as a part", y.rod(0, 2, 1, 2), false);
        check.due("that one", y.rod(0, 1, 1, 2), true);
        holders(y, 0, 0, 1, 1, 1, NONE, NONE, NONE, 2);
        check.due("only parts are left", y.rod(0, 1, 1, 2), false);
    }

    private static void weeks() {
        check.begin("8 weeks");
        ManorRolls x = withCouple(6300, 0);
        x.person(0, NONE, NONE);
        x.grant(0, 4, 0);
        check.due("weeks(-1)", x.weeks(-1), NONE);
        check.due("weeks(61)", x.weeks(61), NONE);
        for (int wild : WILD) {
            if (wild != 60) {
                check.due("weeks(" + wild + ")", x.weeks(wild), NONE);
            }
        }
        check.due("count(0)", x.count(0), 0);
        check.due("weeks(0)", x.weeks(0), 0);
        check.due("told(0, 9)", x.told(0, 9), 0);
        check.due("weeks(1)", x.weeks(1), 7);
        check.due("told(0, 9)", x.told(0, 9), 12);
        check.due("told(2, 9) of one without strips", x.told(2, 9), 0);
        x.die(0);
        check.due("weeks(2)", x.weeks(2), 21);
        check.due("the dead's works", x.told(0, 9), 12);
        check.due("works for parts", x.told(1, 9), 12);
        int day = 21;
        while (day + 420 <= 40000) {
            day += 420;
            check.due("weeks(60)", x.weeks(60), day);
        }
        // day is 39921: eleven weeks more end on 39998
        check.due("above 40000", x.weeks(12), NONE);
        check.due("weeks(11)", x.weeks(11), 39998);
        check.due("weeks(1)", x.weeks(1), NONE);
        check.due("weeks(0)", x.weeks(0), 39998);
        check.due("told(1, 9)", x.told(1, 9), 6 * (39998 / 7 - 1));
    }

    private static void sick() {
        check.begin("9 sick");
        ManorRolls x = withMen(3);
        x.custom(200, 0);
        x.grant(0, 3, 0);
        x.die(2);
        check.due("the dead", x.sick(2, 1), false);
        check.due("sick(0, -1)", x.sick(0, -1), false);
        check.due("sick(0, 61)", x.sick(0, 61), false);
        check.due("sick(NONE, 1)", x.sick(NONE, 1), false);
        check.due("sick(3, 1)", x.sick(3, 1), false);
        for (int wild : WILD) {
            check.due("sick(" + wild + ", 1)", x.sick(wild, 1), false);
            if (wild != 60) {
                check.due("sick(0, " + wild + ")", x.sick(0, wild), false);
            }
        }
        check.due("sick(0, 60)", x.sick(0, 60), true);
        check.due("told(0, 13)", x.told(0, 13), 60);
        check.due("in place of what was left", x.sick(0, 2), true);
        check.due("told(0, 13)", x.told(0, 13), 2);
        check.due("sick(1, 4)", x.sick(1, 4), true);
        x.weeks(3);
        check.due("excused", x.told(0, 12), 12);
        check.due("due", x.told(0, 9), 6);
        check.due("well again", x.told(0, 13), 0);
        check.due("one without strips", x.told(1, 13), 1);
        check.due("excused of nothing", x.told(1, 12), 0);
        x.die(1);
        x.weeks(1);
        check.due("the dead stay as they were", x.told(1, 13), 1);
        x.sick(0, 5);
        check.due("sick(0, 0)", x.sick(0, 0), true);
        x.weeks(1);
        check.due("due", x.told(0, 9), 18);
        check.due("excused", x.told(0, 12), 12);
    }

    private static void works() {
        check.begin("10 works");
        ManorRolls x = withMen(2);
        x.custom(100, 0);
        x.grant(0, 10, 0);
        x.weeks(1);
        check.due("works(0, 0)", x.works(0, 0, true), NONE);
        check.due("works(0, -1)", x.works(0, -1, true), NONE);
        check.due("works(0, 11)", x.works(0, 11, true), NONE);
        check.due("works(1, 1)", x.works(1, 1, false), NONE);
        check.due("works(2, 1)", x.works(2, 1, false), NONE);
        check.due("works(NONE, 1)", x.works(NONE, 1, false), NONE);
        for (int wild : WILD) {
            check.due("works(" + wild + ", 1)", x.works(wild, 1, false), NONE);
            check.due("works(0, " + wild + ")", x.works(0, wild, true), NONE);
        }
        check.due("count(5)", x.count(5), 0);
        check.due("done", x.works(0, 3, false), 7);
        check.due("owed", x.told(0, 8), 0);
        check.due("sold", x.works(0, 5, true), 2);
        check.due("owed", x.told(0, 8), 5);
        check.due("told(0, 9)", x.told(0, 9), 2);
        check.due("told(0, 10)", x.told(0, 10), 3);
        check.due("told(0, 11)", x.told(0, 11), 5);
        x.die(0);
        check.due("the dead's", x.works(0, 2, true), 0);
        check.due("none is due", x.works(0, 1, true), NONE);
        check.due("owed", x.told(0, 8), 7);
    }

    private static void pay() {
        check.begin("11 pay");
        ManorRolls x = withMen(2);
        x.custom(0, 100500);
        x.grant(0, 3, 0);
        check.due("nothing is owed", x.pay(1, 1), NONE);
        x.rod(0, 2, 0, 1);
        check.due("pay(1, 0)", x.pay(1, 0), NONE);
        check.due("pay(1, -1)", x.pay(1, -1), NONE);
        check.due("pay(1, 11)", x.pay(1, 11), NONE);
        check.due("pay(2, 1)", x.pay(2, 1), NONE);
        check.due("pay(NONE, 1)", x.pay(NONE, 1), NONE);
        for (int wild : WILD) {
            check.due("pay(" + wild + ", 1)", x.pay(wild, 1), NONE);
            check.due("pay(1, " + wild + ")", x.pay(1, wild), NONE);
        }
        check.due("count(6)", x.count(6), 0);
        check.due("pay(1, 4)", x.pay(1, 4), 6);
        check.due("told(1, 8)", x.told(1, 8), 6);
        check.due("pay(1, 6)", x.pay(1, 6), 0);
        check.due("pay(1, 1)", x.pay(1, 1), NONE);
        x.die(0);
        check.due("the dead one's debt", x.pay(0, 9), 1);
        check.due("count(6)", x.count(6), 19);
        check.due("count(5)", x.count(5), 1);
    }

    private static void suit() {
        check.begin("12 suit");
        ManorRolls x = withMen(4);
        x.die(3);
        int[][] bad = {{0, 0, 1}, {0, 1, 0}, {1, 0, 0}, {0, 0, 0}, {3, 0, 1}, {0, 3, 1}, {0, 1, 3}, {4, 0, 1},
            {0, 4, 1}, {0, 1, 4}, {NONE, 0, 1}, {0, NONE, 1}, {0, 1, NONE}};
        for (int[] three : bad) {
            check.due("suit(" + three[0] + ", " + three[1] + ", " + three[2] + ")",
                x.suit(three[0], three[1], three[2]), NONE);
        }
        for (int wild : WILD) {
            check.due("suit(" + wild + ", 0, 1)", x.suit(wild, 0, 1), NONE);
            check.due("suit(0, " + wild + ", 1)", x.suit(0, wild, 1), NONE);
            check.due("suit(0, 1, " + wild + ")", x.suit(0, 1, wild), NONE);
        }
        check.due("count(3)", x.count(3), 0);
        for (int s = 0; s < 40; s++) {
            check.due("suit", x.suit(s % 3, (s + 1) % 3, (s + 2) % 3), s);
        }
        check.due("the 41st", x.suit(0, 1, 2), NONE);
        check.due("count(3)", x.count(3), 40);
        check.due("suited(39, 0)", x.suited(39, 0), 0);
    }

    private static void appear() {
        check.begin("13 appear");
        ManorRolls x = withMen(3);
        x.custom(30, 0);
        check.due("no suit", x.appear(0, 1), false);
        x.suit(0, 1, 2);
        check.due("appear(0, -1)", x.appear(0, -1), false);
        check.due("appear(0, 4)", x.appear(0, 4), false);
        check.due("appear(1, 1)", x.appear(1, 1), false);
        check.due("appear(-1, 1)", x.appear(-1, 1), false);
        for (int wild : WILD) {
            check.due("appear(" + wild + ", 1)", x.appear(wild, 1), false);
            check.due("appear(0, " + wild + ")", x.appear(0, wild), false);
        }
        for (int what = 3; what >= 0; what--) {
            check.due("appear(0, " + what + ")", x.appear(0, what), true);
        }
        check.due("in default", x.court(), 0);
        check.due("suited(0, 2)", x.suited(0, 2), 1);
        check.due("appear(0, 1)", x.appear(0, 1), true);
        check.due("what is refused changes nothing", x.appear(0, 4), false);
        check.due("court()", x.court(), 0);
        check.due("suited(0, 1)", x.suited(0, 1), 1);
        check.due("appear(0, 2)", x.appear(0, 2), true);
        check.due("court()", x.court(), 1);
        check.due("not open", x.appear(0, 2), false);
        check.due("not open", x.appear(0, 0), false);
    }

    private static void court() {
        check.begin("14 court");
        ManorRolls x = withMen(6);
        check.due("no suits", x.court(), 0);
        x.custom(20, 0);
        x.suit(0, 1, 2);
        x.suit(3, 4, 5);
        x.suit(4, 3, 5);
        x.appear(0, 1);
        x.appear(1, 2);
        x.appear(2, 3);
        check.due("two end", x.court(), 2);
        check.due("lost by the defendant", x.suited(1, 0), 2);
        check.due("won", x.suited(2, 0), 3);
        check.due("6 and 6", x.told(4, 8), 12);
        check.due("none", x.told(3, 8), 0);
        check.due("essoined", x.suited(0, 1), 1);
        check.due("what will be is 0 again", x.court(), 0);
        check.due("suited(0, 1)", x.suited(0, 1), 1);
        check.due("suited(0, 2)", x.suited(0, 2), 1);
        check.due("by the pledge", x.told(2, 8), 3);
        x.appear(0, 1);
        check.due("court()", x.court(), 0);
        check.due("essoined in all", x.suited(0, 1), 2);
        x.appear(0, 1);
        check.due("court()", x.court(), 1);
        check.due("essoined in all", x.suited(0, 1), 2);
        check.due("the second default", x.suited(0, 2), 2);
        check.due("lost", x.suited(0, 0), 2);
        check.due("by the pledge", x.told(2, 8), 6);
        check.due("by the defendant", x.told(1, 8), 6);
        check.due("by the other one", x.told(0, 8), 0);
        check.due("none is open", x.court(), 0);
        check.due("count(5)", x.count(5), 24);

        ManorRolls y = withMen(3);
        y.suit(0, 1, 2);
        y.appear(0, 1);
        y.court();
        check.due("ESSOINS 0: a default", y.suited(0, 2), 1);
        y.custom(10, 0);
        y.appear(0, 1);
        check.due("ESSOINS of the custom in force", y.court(), 0);
        check.due("suited(0, 1)", y.suited(0, 1), 1);
    }

    private static void courtWithTheDead() {
        check.begin("14 court, with the dead");
        ManorRolls x = withMen(5);
        x.suit(0, 1, 2);
        x.suit(3, 4, 2);
        x.suit(0, 4, 2);
        x.appear(0, 3);
        x.appear(2, 3);
        x.die(1);
        x.die(2);
        check.due("open till the court", x.suited(0, 0), 0);
        check.due("appear for the dead", x.appear(0, 3), true);
        check.due("void and won", x.court(), 2);
        check.due("void", x.suited(0, 0), 1);
        check.due("suited(2, 0)", x.suited(2, 0), 3);
        check.due("only for the one that was won", x.told(0, 8), 6);
        check.due("the pledge is dead: by the defendant", x.told(4, 8), 3);
        check.due("told(2, 8)", x.told(2, 8), 0);
        x.die(3);
        check.due("the other one's death ends nothing", x.court(), 1);
        check.due("3 and 6 more", x.told(4, 8), 12);
        ManorRolls y = withMen(3);
        y.suit(0, 1, 2);
        y.appear(0, 3);
        y.die(0);
        check.due("court()", y.court(), 1);
        check.due("owed by the dead who lost", y.told(0, 8), 6);
    }

    private static void holder() {
        check.begin("15 holder");
        ManorRolls x = withMen(2);
        x.weeks(1);
        x.grant(9, 12, 0);
        x.rod(9, 1, 0, 1);
        x.weeks(1);
        x.die(1);
        check.due("ahead of the grant", x.holder(9, 0, 6), NONE);
        check.due("the last on a day", x.holder(9, 0, 7), 1);
        check.due("day 13", x.holder(9, 0, 13), 1);
        check.due("day 14", x.holder(9, 0, 14), NONE);
        check.due("strip 11", x.holder(9, 11, 14), 0);
        int[][] bad = {{10, 0, 0}, {-1, 0, 0}, {0, 12, 0}, {0, -1, 0}, {0, 0, 15}, {0, 0, -1}};
        for (int[] one : bad) {
            check.due("holder(" + one[0] + ", " + one[1] + ", " + one[2] + ")",
                x.holder(one[0], one[1], one[2]), NO_SUCH);
        }
        for (int wild : WILD) {
            check.due("holder(" + wild + ", 0, 0)", x.holder(wild, 0, 0), NO_SUCH);
            check.due("holder(0, " + wild + ", 0)", x.holder(0, wild, 0), NO_SUCH);
            check.due("holder(0, 0, " + wild + ")", x.holder(0, 0, wild), NO_SUCH);
        }
    }

    private static void right() {
        check.begin("16 right");
        ManorRolls x = withCouple(12000, 0);
        x.person(0, 0, 1);
        x.weeks(1);
        x.grant(5, 1, 0);
        x.weeks(1);
        x.die(0);
        x.die(1);
        x.person(0, NONE, NONE);
        x.weeks(1);
        x.rod(5, 1, 2, 3);
        x.weeks(1);
        x.die(3);
        int[][] want = {{NONE, 5, 28}, {3, 4, 21}, {2, 2, 14}, {1, 3, 14}, {0, 1, 7}, {NONE, 0, 0}};
        int[] newestOn = {28, 27, 20, NO_SUCH, 13, 6};
        for (int first = 0; first < want.length; first++) {
            if (newestOn[first] == NO_SUCH) {
                continue;
            }
            for (int k = 0; first + k < want.length; k++) {
                for (int what = 0; what < 3; what++) {
                    check.due("right(5, 0, " + newestOn[first] + ", " + k + ", " + what + ")",
                        x.right(5, 0, newestOn[first], k, what), want[first + k][what]);
                }
            }
            check.due("behind the first", x.right(5, 0, newestOn[first], want.length - first, 0), NO_SUCH);
        }
        int[][] bad = {{5, 0, 28, 0, 3}, {5, 0, 28, 0, -1}, {5, 0, 28, -1, 0}, {5, 0, 29, 0, 0}, {5, 0, -1, 0, 0},
            {5, 12, 28, 0, 0}, {5, -1, 28, 0, 0}, {10, 0, 28, 0, 0}, {-1, 0, 28, 0, 0}, {5, 1, 28, 1, 0}};
        for (int[] one : bad) {
            check.due("right(" + one[0] + ", " + one[1] + ", " + one[2] + ", " + one[3] + ", " + one[4] + ")",
                x.right(one[0], one[1], one[2], one[3], one[4]), NO_SUCH);
        }
        for (int wild : WILD) {
            check.due("right(" + wild + ", ..)", x.right(wild, 0, 0, 0, 0), NO_SUCH);
            check.due("right(5, " + wild + ", ..)", x.right(5, wild, 0, 0, 0), NO_SUCH);
            check.due("right(5, 0, " + wild + ", ..)", x.right(5, 0, wild, 0, 0), NO_SUCH);
            check.due("right(5, 0, 0, " + wild + ", 0)", x.right(5, 0, 0, wild, 0), NO_SUCH);
            check.due("right(5, 0, 0, 0, " + wild + ")", x.right(5, 0, 0, 0, wild), NO_SUCH);
        }
    }

    private static void heir() {
        check.begin("17 heir");
        ManorRolls x = withMen(1);
        heirs(x, 0);
        x.person(1, 0, NONE);
        heirs(x, 0, 1);
        x.person(0, 0, NONE);
        heirs(x, 0, 2);
        check.due("heir(0, -1)", x.heir(0, -1), NONE);
        check.due("heir(3, 0)", x.heir(3, 0), NONE);
        check.due("heir(NONE, 0)", x.heir(NONE, 0), NONE);
        for (int wild : WILD) {
            check.due("heir(" + wild + ", 0)", x.heir(wild, 0), NONE);
            check.due("heir(0, " + wild + ")", x.heir(0, wild), NONE);
        }
        heirs(x, 1, 2);
        heirs(x, 2, 1);
        check.due("they are alive yet", x.told(0, 3), 1);
        x.die(0);
        heirs(x, 0, 2);

        ManorRolls y = withMen(1);
        y.custom(200000, 0);
        for (int i = 0; i < 50; i++) {
            y.person(0, 0, NONE);
        }
        for (int i = 0; i < 40; i++) {
            check.due("heir(0, " + i + ")", y.heir(0, i), i + 1);
        }
        check.due("heir(0, 40)", y.heir(0, 40), NONE);
    }

    private static void heirByOrder() {
        check.begin("17 heir by order");
        ManorRolls x = new ManorRolls();
        x.person(0, NONE, NONE);
        x.person(1, NONE, NONE);
        x.person(1, 0, 1);
        x.person(0, 0, 1);
        x.person(0, 0, NONE);
        x.person(0, NONE, 1);
        x.person(1, 4, NONE);
        x.person(0, 4, NONE);
        x.person(0, 4, NONE);
        int[][] father = {{3}, {4}, {3, 4}};
        int[][] mother = {{3}, {5}, {3, 5}};
        int[][] fatherWithFourDead = {{3}, {8}, {3, 7, 8}};
        int[][] fatherWithThreeDeadToo = {{7}, {8}, {7, 8}};
        for (int order = 0; order < 3; order++) {
            x.custom(order * 100000, 0);
            heirs(x, 0, father[order]);
            heirs(x, 1, mother[order]);
        }
        x.die(4);
        for (int order = 0; order < 3; order++) {
            x.custom(order * 100000, 0);
            heirs(x, 0, fatherWithFourDead[order]);
        }
        x.die(3);
        for (int order = 0; order < 3; order++) {
            x.custom(order * 100000, 0);
            heirs(x, 0, fatherWithThreeDeadToo[order]);
        }
        x.die(7);
        x.die(8);
        // The son without sons alive still stands ahead of the daughter, for his own daughter.
        heirs(x, 0, 6);
        x.die(6);
        heirs(x, 0, 2);
        heirs(x, 1, 5);
        x.die(2);
        heirs(x, 0);
    }

    private static void heirOfSiblings() {
        check.begin("17 heirs of one without children");
        ManorRolls x = new ManorRolls();
        x.custom(200000, 0);
        x.person(0, NONE, NONE);
        x.person(1, NONE, NONE);
        x.person(0, 0, 1);
        x.person(0, 0, NONE);
        x.person(1, 0, NONE);
        x.person(0, NONE, 1);
        x.person(0, 3, NONE);
        heirs(x, 2, 3);
        heirs(x, 4, 2, 3);
        heirs(x, 5);
        heirs(x, 0, 2, 3);
        heirs(x, 6);
        x.die(3);
        heirs(x, 2, 6);
        heirs(x, 3, 6);
        x.die(6);
        heirs(x, 2, 4);
        heirs(x, 3, 2);
        x.custom(0, 0);
        heirs(x, 4, 2);
        x.die(4);
        heirs(x, 2);
    }

    private static void heirsOfDaughters() {
        check.begin("17 daughters are heirs all together");
        ManorRolls x = withMen(1);
        x.person(1, 0, NONE);
        x.person(1, 0, NONE);
        x.person(1, NONE, 2);
        x.person(1, NONE, 2);
        for (int order = 0; order < 3; order++) {
            x.custom(order * 100000, 0);
            heirs(x, 0, 1, 2);
        }
        x.die(2);
        for (int order = 0; order < 3; order++) {
            x.custom(order * 100000, 0);
            heirs(x, 0, 1, 3, 4);
        }
    }

    private static void heirOfOneself() {
        check.begin("17 nobody is their own heir");
        ManorRolls x = withMen(1);
        x.person(1, 0, NONE);
        x.person(0, 0, 1);
        x.grant(0, 2, 2);
        heirs(x, 2, 1);
        x.die(1);
        heirs(x, 2);
        check.due("die(2)", x.die(2), 2);
        check.due("back to the lord", x.count(4), 120);
    }

    private static void heirTwice() {
        check.begin("17 one who is an heir twice");
        ManorRolls x = new ManorRolls();
        x.custom(200000, 0);
        x.person(0, NONE, NONE);
        x.person(0, 0, NONE);
        x.person(0, 0, NONE);
        x.person(1, 2, NONE);
        x.person(0, 1, 3);
        x.grant(0, 7, 0);
        x.die(1);
        x.die(2);
        x.die(3);
        heirs(x, 0, 4, 4);
        check.due("die(0)", x.die(0), 7);
        holders(x, 0, 0, 4, 4, 4, 4, 4, 4, 4, NONE);
    }

    private static void told() {
        check.begin("18 told");
        ManorRolls x = withCouple(6200, 11);
        x.weeks(4);
        x.person(1, 0, 1);
        x.person(0, NONE, NONE);
        x.marry(3, 2);
        x.grant(1, 6, 3);
        x.grant(2, 4, 2);
        x.sick(3, 1);
        x.weeks(2);
        x.works(3, 3, false);
        x.works(3, 5, true);
        x.pay(3, 1);
        int[][] want = {
            {0, NONE, NONE, 1, 1, 0, 0, 0, 11, 0, 0, 0, 0, 0},
            {1, NONE, NONE, 1, 0, 0, 0, 0, 11, 0, 0, 0, 0, 0},
            {1, 0, 1, 1, 3, 28, 4, 0, 0, 16, 0, 0, 0, 0},
            {0, NONE, NONE, 1, 2, 28, 6, 0, 4, 4, 3, 5, 12, 0}};
        for (int p = 0; p < want.length; p++) {
            for (int what = 0; what < 14; what++) {
                check.due("told(" + p + ", " + what + ")", x.told(p, what), want[p][what]);
            }
        }
        x.die(3);
        x.sick(2, 9);
        check.due("told(3, 3)", x.told(3, 3), 0);
        check.due("told(3, 6)", x.told(3, 6), 0);
        check.due("told(2, 4)", x.told(2, 4), NONE);
        check.due("told(2, 6)", x.told(2, 6), 7);
        check.due("told(2, 7)", x.told(2, 7), 3);
        check.due("told(2, 13)", x.told(2, 13), 9);
        check.due("told(0, 14)", x.told(0, 14), NO_SUCH);
        check.due("told(0, -1)", x.told(0, -1), NO_SUCH);
        check.due("told(4, 0)", x.told(4, 0), NO_SUCH);
        check.due("told(NONE, 6)", x.told(NONE, 6), NO_SUCH);
        for (int wild : WILD) {
            check.due("told(" + wild + ", 0)", x.told(wild, 0), NO_SUCH);
            check.due("told(0, " + wild + ")", x.told(0, wild), NO_SUCH);
        }
    }

    private static void suited() {
        check.begin("19 suited");
        ManorRolls x = withMen(3);
        check.due("no suit", x.suited(0, 0), NONE);
        x.suit(0, 1, 2);
        for (int what = 0; what < 3; what++) {
            check.due("suited(0, " + what + ")", x.suited(0, what), 0);
        }
        check.due("suited(0, 3)", x.suited(0, 3), NONE);
        check.due("suited(0, -1)", x.suited(0, -1), NONE);
        check.due("suited(1, 0)", x.suited(1, 0), NONE);
        check.due("suited(-1, 0)", x.suited(-1, 0), NONE);
        for (int wild : WILD) {
            check.due("suited(" + wild + ", 0)", x.suited(wild, 0), NONE);
            check.due("suited(0, " + wild + ")", x.suited(0, wild), NONE);
        }
        x.court();
        x.court();
        check.due("lost", x.suited(0, 0), 2);
        check.due("essoined", x.suited(0, 1), 0);
        check.due("defaults", x.suited(0, 2), 2);
    }

    private static void count() {
        check.begin("20 count");
        ManorRolls x = withMen(3);
        x.custom(100, 100200);
        x.custom(100, 100200);
        x.grant(0, 5, 0);
        x.grant(6, 5, 1);
        x.rod(0, 2, 0, 1);
        x.weeks(2);
        x.works(1, 3, true);
        x.pay(1, 6);
        x.suit(0, 1, 2);
        x.die(0);
        int[] want = {14, 3, 2, 1, 113, 11, 6, 135};
        for (int what = 0; what < want.length; what++) {
            check.due("count(" + what + ")", x.count(what), want[what]);
        }
        check.due("count(-1)", x.count(-1), NONE);
        check.due("count(8)", x.count(8), NONE);
        for (int wild : WILD) {
            check.due("count(" + wild + ")", x.count(wild), NONE);
        }
        check.due("NONE", ManorRolls.NONE, -1);
    }
}
