import java.util.Set;
import java.util.TreeSet;

/**
 * Each sentence of promises 1 to 20 that names an edge or a refusal has a test of its own here: the last value that is
 * taken, the first ones that are not, and behind each refusal a look at all that can be asked.
 */
public final class PromisesEdgesTest {
    private static final int NONE = -1;
    private static final int NO_SUCH = -2;
    private static final int NO = 0;
    private static final int YES = 1;
    private static final int MAN = 0;
    private static final int WOMAN = 1;
    private static final int[] ENDS = {Integer.MIN_VALUE, Integer.MIN_VALUE + 1, Integer.MAX_VALUE - 1,
        Integer.MAX_VALUE};
    // What a byte, a short, a long's shift or a product with 7, 12 or 14 would take for a small number.
    private static final int[] STEPS = {1, 2, 64, 256, 65536, 613566757, 357913942, 306783379, 1 << 30};
    private static final Check check = new Check();

    // Those of the full manor, by what they are.
    private static final int WIDOW = 1;
    private static final int SON = 2;
    private static final int SICK_SON = 3;
    private static final int HUSBAND = 5;
    private static final int WIFE = 6;
    private static final int DEAD_MAN = 7;
    private static final int DEAD_WOMAN = 8;
    private static final int SINGLE_MAN = 9;
    private static final int SINGLE_WOMAN = 11;
    private static final int CAME = 12;
    private static final int SUITS = 6;
    private static final int OPEN_SUIT = 0;
    private static final int NOW = 21;

    public static void main(String[] args) {
        newObject();
        custom();
        person();
        marry();
        die();
        grant();
        rod();
        weeks();
        sick();
        works();
        pay();
        suit();
        appear();
        court();
        holder();
        right();
        heir();
        told();
        suited();
        count();
        askingChangesNothing();
        check.end();
    }

    private static Taped begin(String sentence) {
        check.begin(sentence);
        return new Taped(check);
    }

    private static void people(Taped x, int n, int sex, int father, int mother) {
        for (int i = 0; i < n; i++) {
            x.call("person", sex, father, mother);
        }
    }

    /** Numbers that are not first .. last, on both sides, near and far. */
    private static Set<Integer> outside(int first, int last) {
        Set<Integer> found = new TreeSet<>();
        for (int end : ENDS) {
            found.add(end);
        }
        for (int step : STEPS) {
            found.add(first - step);
            found.add(last + step);
            found.add(first + step);
            found.add(last - step);
        }
        found.removeIf(value -> value >= first && value <= last);
        return found;
    }

    /** A manor in which there is some of everything; its custom is ORDER 2, WIDOW 6, WORKS 2, ESSOINS 1. */
    private static Taped manor(String sentence) {
        Taped x = begin(sentence);
        x.due(1, "custom", 206210, 30205);
        addPeople(x);
        addLand(x);
        addSuits(x);
        x.due(NOW, "weeks", 1);
        x.call("works", HUSBAND, 4, 0);
        x.call("works", HUSBAND, 3, 1);
        x.call("pay", HUSBAND, 2);
        return x;
    }

    private static void addPeople(Taped x) {
        people(x, 1, MAN, NONE, NONE);
        people(x, 1, WOMAN, NONE, NONE);
        people(x, 2, MAN, 0, WIDOW);
        people(x, 1, WOMAN, 0, WIDOW);
        people(x, 1, MAN, NONE, NONE);
        people(x, 1, WOMAN, NONE, NONE);
        people(x, 1, MAN, NONE, NONE);
        people(x, 1, WOMAN, NONE, NONE);
        people(x, 2, MAN, NONE, NONE);
        people(x, 1, WOMAN, NONE, NONE);
        x.due(YES, "marry", 0, WIDOW);
        x.due(YES, "marry", HUSBAND, WIFE);
        x.due(CAME, "count", 1);
    }

    /** Holding 0: four strips of the widow's parts, four of the sons', two of the husband's, two of the lord's. */
    private static void addLand(Taped x) {
        x.due(YES, "grant", 0, 8, 0);
        x.due(YES, "grant", 0, 2, HUSBAND);
        x.due(YES, "grant", 1, 12, HUSBAND);
        x.due(YES, "grant", 9, 5, DEAD_MAN);
        x.due(YES, "grant", 4, 1, WIDOW);
        x.due(14, "weeks", 2);
        x.due(YES, "rod", 1, 3, HUSBAND, SON);
        x.due(YES, "sick", SICK_SON, 9);
        x.due(8, "die", 0);
        x.due(5, "die", DEAD_MAN);
        x.due(0, "die", DEAD_WOMAN);
        x.due(4, "told", WIDOW, 7);
    }

    /** 0 open, essoined once, 1 lost, 2 won, 3 void, 4 open with a default, 5 open; of 4 and 5 it is told what will be. */
    private static void addSuits(Taped x) {
        x.due(OPEN_SUIT, "suit", SON, SICK_SON, HUSBAND);
        x.due(1, "suit", SICK_SON, SON, HUSBAND);
        x.due(2, "suit", HUSBAND, SON, WIFE);
        x.due(3, "suit", HUSBAND, 10, WIFE);
        x.due(4, "suit", WIFE, SINGLE_MAN, HUSBAND);
        x.call("appear", OPEN_SUIT, 1);
        x.call("appear", 1, 2);
        x.call("appear", 2, 3);
        x.due(0, "die", 10);
        x.due(3, "court");
        x.due(5, "suit", SON, HUSBAND, SINGLE_MAN);
        x.due(YES, "appear", 4, 1);
        x.due(YES, "appear", 5, 3);
        x.due(SUITS, "count", 3);
    }

    // Promise 1

    private static void newObject() {
        check.begin("the constants");
        check.due("NONE", ManorRolls.NONE, -1);
        noPersons();
        allIsRefusedWithoutPersons();
        objectsAreApart();
    }

    private static void noPersons() {
        Taped x = begin("1: no PERSONS; NOW is 0");
        x.dueEach(new int[] {0, 0, 0, 0, 120, 0, 0, 120}, "count");
        for (int what = 0; what < 14; what++) {
            x.due(NO_SUCH, "told", 0, what);
        }
        for (int what = 0; what < 3; what++) {
            x.due(NONE, "suited", 0, what);
        }
        x.due(NONE, "heir", 0, 0);
        x.due(0, "court");
    }

    private static void allIsRefusedWithoutPersons() {
        Taped x = begin("1: no PERSONS: what needs one is refused");
        for (int number : new int[] {NONE, 0, 1, 59, Integer.MIN_VALUE, Integer.MAX_VALUE}) {
            x.refused(NO, "marry", number, 1);
            x.refused(NONE, "die", number);
            x.refused(NO, "grant", 0, 1, number);
            x.refused(NO, "rod", 0, 1, number, 1);
            x.refused(NO, "sick", number, 1);
            x.refused(NONE, "works", number, 1, 0);
            x.refused(NONE, "pay", number, 1);
            x.refused(NONE, "suit", number, 1, 2);
            x.refused(NO, "appear", number, 0);
            x.refused(NONE, "heir", number, 0);
            x.refused(NO_SUCH, "told", number, 0);
            x.refused(NONE, "suited", number, 0);
        }
        x.refused(NONE, "person", MAN, 0, NONE);
        x.refused(NONE, "person", MAN, NONE, 0);
        x.refused(0, "court");
        x.refused(0, "weeks", 0);
    }

    private static void objectsAreApart() {
        Taped x = begin("1: a new object has nothing of another one");
        manor("1: a new object has nothing of another one");
        x.dueEach(new int[] {0, 0, 0, 0, 120, 0, 0, 120}, "count");
        x.due(0, "person", MAN, NONE, NONE);
        x.due(YES, "grant", 1, 12, 0);
        x.due(7, "weeks", 1);
        x.due(0, "told", 0, 9);
    }

    // Promise 2

    private static void custom() {
        howManyWereFound();
        eachWhatThatCanBe();
        eachDuesThatCanBe();
        eachDueIsRead();
        customsThatCannotBe();
    }

    private static void howManyWereFound() {
        Taped x = begin("2: how many were found");
        for (int found = 1; found < Taped.MOST_CALLS; found++) {
            x.due(found, "custom", found % 3 * 100000, found);
        }
        x.due(511, "count", 2);
    }

    private static boolean canBeWhat(int what) {
        for (int order = 0; order <= 2; order++) {
            for (int works = 0; works <= 3; works++) {
                for (int essoins = 0; essoins <= 3; essoins++) {
                    int rest = what - order * 100000 - works * 100 - essoins * 10;
                    if (rest >= 0 && rest <= 12000 && rest % 1000 == 0) {
                        return true;
                    }
                }
            }
        }
        return false;
    }

    private static void eachWhatThatCanBe() {
        check.begin("2: what is ORDER * 100000 + WIDOW * 1000 + WORKS * 100 + ESSOINS * 10 (the last digit 0)");
        ManorRolls x = new ManorRolls();
        int calls = 0;
        int found = 0;
        int all = 0;
        for (int what = -130000; what <= 1100000; what++) {
            if (calls == Taped.MOST_CALLS) {
                x = new ManorRolls();
                calls = 0;
                found = 0;
            }
            boolean can = canBeWhat(what);
            found += can ? 1 : 0;
            all += can ? 1 : 0;
            check.due("custom(" + what + ", 0)", x.custom(what, 0), can ? found : NONE);
            calls++;
        }
        check.due("customs that can be", all, 3 * 13 * 4 * 4);
    }

    private static void eachDuesThatCanBe() {
        check.begin("2: dues HERIOT * 10000 + ENTRY * 100 + MERCHET");
        ManorRolls x = new ManorRolls();
        int found = 0;
        for (int dues = 0; dues <= 999999; dues++) {
            if (found == Taped.MOST_CALLS) {
                x = new ManorRolls();
                found = 0;
            }
            found++;
            check.due("custom(0, " + dues + ")", x.custom(0, dues), found);
        }
    }

    private static void eachDueIsRead() {
        int[] values = {0, 1, 9, 10, 98, 99};
        for (int heriot : values) {
            for (int entry : values) {
                for (int merchet : values) {
                    duesAreOwed(heriot, entry, merchet);
                }
            }
        }
    }

    private static void duesAreOwed(int heriot, int entry, int merchet) {
        Taped x = begin("2: HERIOT " + heriot + ", ENTRY " + entry + ", MERCHET " + merchet);
        x.due(1, "custom", 0, heriot * 10000 + entry * 100 + merchet);
        people(x, 2, MAN, NONE, NONE);
        people(x, 1, WOMAN, NONE, NONE);
        x.due(YES, "grant", 0, 2, 0);
        x.due(YES, "rod", 0, 1, 0, 1);
        x.due(entry, "told", 1, 8);
        x.due(YES, "marry", 0, 2);
        x.due(merchet, "told", 2, 8);
        x.due(1, "die", 0);
        x.due(heriot, "told", 0, 8);
    }

    private static void customsThatCannotBe() {
        Taped x = manor("2: NONE if that can't be");
        int[] whats = {-1, -10, -100, -1000, -100000, 1, 5, 9, 11, 40, 90, 400, 900, 13000, 99000, 300000, 900000,
            1000000, 212331, 212340, 212430, 213330, 312330};
        for (int what : whats) {
            x.refused(NONE, "custom", what, 0);
        }
        for (int what : outside(0, 212330)) {
            x.refused(NONE, "custom", what, 0);
        }
        for (int dues : outside(0, 999999)) {
            x.refused(NONE, "custom", 0, dues);
        }
        x.refused(NONE, "custom", 1, -1);
        x.due(2, "custom", 0, 0);
    }

    // Promise 3

    private static void person() {
        sexes();
        fathers();
        mothers();
        sixtyCame();
    }

    private static void sexes() {
        Taped x = manor("3: NONE if there is no such SEX");
        for (int sex : outside(MAN, WOMAN)) {
            x.refused(NONE, "person", sex, NONE, NONE);
        }
        x.due(CAME, "person", MAN, NONE, NONE);
        x.due(CAME + 1, "person", WOMAN, NONE, NONE);
    }

    private static void fathers() {
        Taped x = manor("3: NONE if there is a FATHER that is none or no man");
        for (int father : outside(NONE, CAME - 1)) {
            x.refused(NONE, "person", MAN, father, NONE);
        }
        for (int woman : new int[] {WIDOW, WIFE, DEAD_WOMAN, SINGLE_WOMAN}) {
            x.refused(NONE, "person", WOMAN, woman, NONE);
            x.refused(NONE, "person", MAN, woman, WIDOW);
        }
        x.due(CAME, "person", MAN, NONE, WIFE);
        x.due(CAME + 1, "person", MAN, CAME, WIFE);
        x.due(CAME + 2, "person", MAN, DEAD_MAN, WIFE);
        x.due(CAME + 3, "person", MAN, 0, NONE);
        x.due(0, "told", CAME + 3, 1);
        x.due(NONE, "told", CAME + 3, 2);
    }

    private static void mothers() {
        Taped x = manor("3: NONE if there is a MOTHER that is none or no woman");
        for (int mother : outside(NONE, CAME - 1)) {
            x.refused(NONE, "person", WOMAN, NONE, mother);
        }
        for (int man : new int[] {0, SON, HUSBAND, DEAD_MAN, SINGLE_MAN}) {
            x.refused(NONE, "person", MAN, NONE, man);
            x.refused(NONE, "person", WOMAN, HUSBAND, man);
        }
        x.due(CAME, "person", WOMAN, HUSBAND, NONE);
        x.due(CAME + 1, "person", MAN, HUSBAND, CAME);
        x.due(CAME + 2, "person", MAN, HUSBAND, DEAD_WOMAN);
        x.due(CAME, "told", CAME + 1, 2);
    }

    private static void sixtyCame() {
        Taped x = manor("3: NONE if 60 came");
        for (int number = CAME; number < 60; number++) {
            x.due(number, "person", number % 2, NONE, NONE);
        }
        x.refused(NONE, "person", MAN, NONE, NONE);
        x.refused(NONE, "person", WOMAN, HUSBAND, WIFE);
        x.refused(NONE, "person", 2, 60, 60);
        x.due(60, "count", 1);
    }

    // Promise 4

    private static void marry() {
        noSuchCouple();
        coupleNotAlive();
        coupleMarried();
        notAManAndAWoman();
    }

    private static void noSuchCouple() {
        Taped x = manor("4: false if there is no such PERSON");
        for (int number : outside(0, CAME - 1)) {
            x.refused(NO, "marry", number, SINGLE_WOMAN);
            x.refused(NO, "marry", SINGLE_MAN, number);
        }
        x.refused(NO, "marry", NONE, NONE);
        x.due(YES, "marry", SINGLE_MAN, SINGLE_WOMAN);
        x.due(SINGLE_WOMAN, "told", SINGLE_MAN, 4);
    }

    private static void coupleNotAlive() {
        Taped x = manor("4: false if one isn't alive");
        x.refused(NO, "marry", DEAD_MAN, SINGLE_WOMAN);
        x.refused(NO, "marry", SINGLE_MAN, DEAD_WOMAN);
        x.refused(NO, "marry", DEAD_MAN, DEAD_WOMAN);
        x.refused(NO, "marry", 0, WIDOW);
        x.refused(NO, "marry", DEAD_MAN, WIDOW);
    }

    private static void coupleMarried() {
        Taped x = manor("4: false if one is married");
        x.refused(NO, "marry", HUSBAND, SINGLE_WOMAN);
        x.refused(NO, "marry", HUSBAND, WIDOW);
        x.refused(NO, "marry", SINGLE_MAN, WIFE);
        x.refused(NO, "marry", HUSBAND, WIFE);
        x.due(YES, "marry", SINGLE_MAN, WIDOW);
        x.refused(NO, "marry", SON, WIDOW);
        x.refused(NO, "marry", SINGLE_MAN, SINGLE_WOMAN);
    }

    private static void notAManAndAWoman() {
        Taped x = manor("4: false if they aren't a man and a woman (in this order)");
        x.refused(NO, "marry", SINGLE_WOMAN, SINGLE_MAN);
        x.refused(NO, "marry", WIDOW, SINGLE_MAN);
        x.refused(NO, "marry", SINGLE_MAN, SON);
        x.refused(NO, "marry", SINGLE_WOMAN, WIDOW);
        x.refused(NO, "marry", SINGLE_MAN, SINGLE_MAN);
        x.refused(NO, "marry", WIDOW, WIDOW);
    }

    // Promise 5

    private static void die() {
        howManyPassedOn();
        noneSuchToDie();
    }

    private static void howManyPassedOn() {
        Taped x = manor("5: how many STRIPS passed on (a WIDOW's part, too)");
        x.due(0, "die", SINGLE_MAN);
        x.due(5, "die", WIDOW);
        x.due(11, "die", HUSBAND);
        x.due(0, "die", SINGLE_WOMAN);
        for (int holding = 0; holding < 10; holding++) {
            Taped y = begin("5: all STRIPS of so many HOLDINGS");
            people(y, 1, MAN, NONE, NONE);
            for (int h = 0; h <= holding; h++) {
                y.due(YES, "grant", h, 12, 0);
            }
            y.due(12 * (holding + 1), "die", 0);
            y.due(120, "count", 4);
        }
    }

    private static void noneSuchToDie() {
        Taped x = manor("5: NONE if there is no such PERSON, or they aren't alive");
        for (int number : outside(0, CAME - 1)) {
            x.refused(NONE, "die", number);
        }
        x.refused(NONE, "die", 0);
        x.refused(NONE, "die", DEAD_MAN);
        x.refused(NONE, "die", DEAD_WOMAN);
        x.due(0, "die", CAME - 1);
        x.refused(NONE, "die", CAME - 1);
    }

    // Promise 6

    private static void grant() {
        grantedHoldings();
        grantedPersons();
        grantedStrips();
        grantFromAFullAndAnEmptyHolding();
        grantOwesNothing();
        grantOfStripsApart();
    }

    private static void grantedHoldings() {
        Taped x = manor("6: false if there is no such HOLDING");
        for (int holding : outside(0, 9)) {
            x.refused(NO, "grant", holding, 1, SON);
        }
        x.due(YES, "grant", 0, 1, SON);
        x.due(YES, "grant", 9, 1, SON);
    }

    private static void grantedPersons() {
        Taped x = manor("6: false if there is no such PERSON alive");
        for (int person : outside(0, CAME - 1)) {
            x.refused(NO, "grant", 5, 1, person);
        }
        x.refused(NO, "grant", 5, 1, 0);
        x.refused(NO, "grant", 5, 1, DEAD_MAN);
        x.refused(NO, "grant", 5, 1, DEAD_WOMAN);
        x.due(YES, "grant", 5, 1, CAME - 1);
    }

    private static void grantedStrips() {
        for (int granted = 0; granted < 12; granted++) {
            Taped x = begin("6: n is 1 .. as many, with " + granted + " granted");
            people(x, 2, MAN, NONE, NONE);
            if (granted > 0) {
                x.due(YES, "grant", 3, granted, 0);
            }
            for (int n : outside(1, 12 - granted)) {
                x.due(NO, "grant", 3, n, 1);
            }
            x.due(NONE, "holder", 3, granted, 0);
            x.copy().due(YES, "grant", 3, 1, 1);
            x.due(YES, "grant", 3, 12 - granted, 1);
            x.due(12 - granted, "told", 1, 6);
        }
    }

    private static void grantFromAFullAndAnEmptyHolding() {
        Taped x = manor("6: n isn't 1 .. as many");
        for (int n : outside(1, 2)) {
            x.refused(NO, "grant", 0, n, SON);
        }
        // nothing of HOLDING 1 is the LORD's, all of HOLDING 2 is, and all of 9 is again
        for (int n : outside(1, 0)) {
            x.refused(NO, "grant", 1, n, SON);
        }
        x.refused(NO, "grant", 1, 1, SON);
        for (int n : outside(1, 12)) {
            x.refused(NO, "grant", 2, n, SON);
            x.refused(NO, "grant", 9, n, SON);
        }
        x.due(YES, "grant", 2, 12, SON);
        x.due(YES, "grant", 9, 12, SON);
        x.due(YES, "grant", 0, 2, SON);
    }

    private static void grantOwesNothing() {
        Taped x = begin("6: to a PERSON who OWES nothing");
        x.due(1, "custom", 0, 999999);
        people(x, 1, MAN, NONE, NONE);
        x.due(YES, "grant", 0, 12, 0);
        x.due(0, "told", 0, 8);
        x.due(0, "count", 5);
    }

    private static void grantOfStripsApart() {
        Taped x = begin("6: the first n STRIPS that the LORD holds");
        people(x, 4, MAN, NONE, NONE);
        x.due(YES, "grant", 0, 1, 0);
        x.due(YES, "grant", 0, 2, 1);
        x.due(YES, "grant", 0, 8, 2);
        x.due(2, "die", 1);
        // the LORD's are 1, 2 and 11
        x.refused(NO, "grant", 0, 4, 3);
        x.due(YES, "grant", 0, 2, 3);
        int[] want = {0, 3, 3, 2, 2, 2, 2, 2, 2, 2, 2, NONE};
        for (int strip = 0; strip < 12; strip++) {
            x.due(want[strip], "holder", 0, strip, 0);
        }
        x.due(YES, "grant", 0, 1, 3);
        x.due(3, "holder", 0, 11, 0);
    }

    // Promise 7

    private static void rod() {
        rodHoldings();
        rodPersons();
        rodStrips();
        rodWithoutParts();
    }

    private static void rodHoldings() {
        Taped x = manor("7: false if there is no such HOLDING");
        for (int holding : outside(0, 9)) {
            x.refused(NO, "rod", holding, 1, HUSBAND, SON);
        }
        x.due(YES, "rod", 0, 1, HUSBAND, SON);
        x.due(YES, "grant", 9, 1, HUSBAND);
        x.due(YES, "rod", 9, 1, HUSBAND, SON);
    }

    private static void rodPersons() {
        Taped x = manor("7: false if one isn't alive, or both are one");
        for (int person : outside(0, CAME - 1)) {
            x.refused(NO, "rod", 1, 1, HUSBAND, person);
            x.refused(NO, "rod", 1, 1, person, HUSBAND);
        }
        for (int dead : new int[] {0, DEAD_MAN, DEAD_WOMAN}) {
            x.refused(NO, "rod", 1, 1, HUSBAND, dead);
            x.refused(NO, "rod", 0, 1, dead, HUSBAND);
        }
        x.refused(NO, "rod", 1, 1, HUSBAND, HUSBAND);
        x.refused(NO, "rod", 0, 1, SON, SON);
        // the LORD's are not passed by ROD, nor to the LORD
        x.refused(NO, "rod", 5, 1, NONE, SON);
        x.refused(NO, "rod", 5, 1, NONE, NONE);
        x.due(YES, "rod", 1, 1, HUSBAND, CAME - 1);
    }

    private static void rodStrips() {
        Taped x = manor("7: false if n isn't 1 .. as many");
        for (int n : outside(1, 9)) {
            x.refused(NO, "rod", 1, n, HUSBAND, SON);
        }
        for (int n : outside(1, 3)) {
            x.refused(NO, "rod", 1, n, SON, HUSBAND);
        }
        x.refused(NO, "rod", 1, 0, SINGLE_MAN, SON);
        x.refused(NO, "rod", 1, 1, SINGLE_MAN, SON);
        x.copy().due(YES, "rod", 1, 1, HUSBAND, SON);
        x.due(YES, "rod", 1, 9, HUSBAND, SON);
        x.due(14, "told", SON, 6);
        x.refused(NO, "rod", 1, 1, HUSBAND, SON);
        x.due(YES, "rod", 1, 12, SON, SINGLE_MAN);
    }

    private static void rodWithoutParts() {
        Taped x = manor("7: not as a WIDOW's part");
        x.refused(NO, "rod", 0, 1, WIDOW, SON);
        x.refused(NO, "rod", 0, 4, WIDOW, SON);
        x.refused(NO, "rod", 4, 2, WIDOW, SON);
        x.due(YES, "grant", 0, 2, WIDOW);
        x.refused(NO, "rod", 0, 3, WIDOW, SON);
        x.due(YES, "rod", 0, 2, WIDOW, SON);
        x.due(4, "told", WIDOW, 7);
        x.due(SON, "holder", 0, 11, NOW);
        x.due(WIDOW, "holder", 0, 0, NOW);
        x.due(YES, "rod", 4, 1, WIDOW, SON);
    }

    // Promise 8

    private static void weeks() {
        anotherN();
        eachNThatIsTaken();
        aboveTheLastDay();
    }

    private static void anotherN() {
        Taped x = manor("8: NONE for another n");
        for (int n : outside(0, 60)) {
            x.refused(NONE, "weeks", n);
        }
        x.refused(NOW, "weeks", 0);
        x.copy().due(NOW + 7, "weeks", 1);
        x.due(NOW + 420, "weeks", 60);
    }

    private static void eachNThatIsTaken() {
        for (int n = 0; n <= 60; n++) {
            Taped x = begin("8: n WEEKS go by (0 .. 60)");
            x.due(7 * n, "weeks", n);
            x.due(7 * n, "count", 0);
        }
    }

    private static void aboveTheLastDay() {
        Taped x = manor("8: NONE if NOW would be above 40000");
        int now = NOW;
        while (now + 420 <= 40000) {
            now += 420;
            x.due(now, "weeks", 60);
        }
        // 39921, eleven WEEKS ahead of 39998
        x.due(39921, "count", 0);
        for (int n = 12; n <= 60; n++) {
            x.refused(NONE, "weeks", n);
        }
        x.due(39998, "weeks", 11);
        x.refused(NONE, "weeks", 1);
        x.refused(39998, "weeks", 0);
    }

    // Promise 9

    private static void sick() {
        noneSuchToBeSick();
        weeksOfSickness();
        inPlaceOfWhatWasLeft();
    }

    private static void noneSuchToBeSick() {
        Taped x = manor("9: false if there is none such alive");
        for (int person : outside(0, CAME - 1)) {
            x.refused(NO, "sick", person, 1);
            x.refused(NO, "sick", person, 0);
        }
        x.refused(NO, "sick", 0, 1);
        x.refused(NO, "sick", DEAD_WOMAN, 1);
        x.refused(NO, "sick", DEAD_WOMAN, 0);
        x.due(YES, "sick", CAME - 1, 1);
    }

    private static void weeksOfSickness() {
        Taped x = manor("9: for so many WEEKS (0 .. 60)");
        for (int weeks : outside(0, 60)) {
            x.refused(NO, "sick", SICK_SON, weeks);
            x.refused(NO, "sick", SON, weeks);
        }
        for (int weeks = 0; weeks <= 60; weeks++) {
            x.due(YES, "sick", SON, weeks);
            x.due(weeks, "told", SON, 13);
        }
    }

    private static void inPlaceOfWhatWasLeft() {
        Taped x = manor("9: in place of what was left");
        x.due(8, "told", SICK_SON, 13);
        x.copy().due(YES, "sick", SICK_SON, 60);
        x.due(YES, "sick", SICK_SON, 3);
        x.due(3, "told", SICK_SON, 13);
        x.due(YES, "sick", SICK_SON, 0);
        x.due(0, "told", SICK_SON, 13);
        int excused = x.call("told", SICK_SON, 12);
        x.due(NOW + 7, "weeks", 1);
        x.due(excused, "told", SICK_SON, 12);
    }

    // Promise 10

    private static void works() {
        noneSuchToWork();
        worksThatAreDue();
        worksOfTheDead();
    }

    private static void noneSuchToWork() {
        Taped x = manor("10: NONE if there is no such PERSON");
        for (int person : outside(0, CAME - 1)) {
            x.refused(NONE, "works", person, 1, 0);
            x.refused(NONE, "works", person, 1, 1);
        }
    }

    /** The husband's: 14 strips for two weeks, 11 for one, two works for each: 78; of these seven are done or sold. */
    private static void worksThatAreDue() {
        Taped x = manor("10: NONE if n isn't 1 .. as many as are due");
        x.due(71, "told", HUSBAND, 9);
        x.due(10, "told", HUSBAND, 8);
        for (int n : outside(1, 71)) {
            x.refused(NONE, "works", HUSBAND, n, 0);
            x.refused(NONE, "works", HUSBAND, n, 1);
        }
        for (int n : new int[] {-1, 0, 1, 2}) {
            x.refused(NONE, "works", SINGLE_MAN, n, 0);
            x.refused(NONE, "works", SINGLE_MAN, n, 1);
        }
        x.copy().due(0, "works", HUSBAND, 71, 0);
        x.copy().due(0, "works", HUSBAND, 71, 1);
        x.due(70, "works", HUSBAND, 1, 0);
        x.due(69, "works", HUSBAND, 1, 1);
        x.refused(NONE, "works", HUSBAND, 70, 1);
        x.due(0, "works", HUSBAND, 69, 1);
        x.dueEach(new int[] {0, NONE, NONE, 1, WIFE, 0, 11, 0, 80, 0, 5, 73, 0, 0}, "told", HUSBAND);
        x.refused(NONE, "works", HUSBAND, 1, 0);
    }

    /** Dead man 0: eight strips, two weeks, two works for each. */
    private static void worksOfTheDead() {
        Taped x = manor("10: the dead are PERSONS, too");
        x.due(32, "told", 0, 9);
        x.refused(NONE, "works", 0, 33, 1);
        x.due(0, "works", 0, 32, 1);
        x.due(35, "told", 0, 8);
    }

    // Promise 11

    private static void pay() {
        noneSuchToPay();
        coinsThatAreOwed();
        coinsOfTheDead();
    }

    private static void noneSuchToPay() {
        Taped x = manor("11: NONE if there is no such PERSON");
        for (int person : outside(0, CAME - 1)) {
            x.refused(NONE, "pay", person, 1);
        }
    }

    /** The son owes ENTRY 2 for three strips, and 6 for a suit that he lost. */
    private static void coinsThatAreOwed() {
        Taped x = manor("11: NONE if n isn't 1 .. as much as is OWED");
        x.due(12, "told", SON, 8);
        for (int n : outside(1, 12)) {
            x.refused(NONE, "pay", SON, n);
        }
        for (int n : new int[] {-1, 0, 1, 2}) {
            x.refused(NONE, "pay", SINGLE_WOMAN, n);
        }
        int paid = x.call("count", 6);
        x.copy().due(0, "pay", SON, 12);
        x.due(11, "pay", SON, 1);
        x.refused(NONE, "pay", SON, 12);
        x.due(0, "pay", SON, 11);
        x.refused(NONE, "pay", SON, 1);
        x.due(paid + 12, "count", 6);
    }

    private static void coinsOfTheDead() {
        Taped x = manor("11: the dead one's debt");
        x.due(3, "told", 0, 8);
        x.refused(NONE, "pay", 0, 4);
        x.due(0, "pay", 0, 3);
        x.refused(NONE, "pay", 0, 1);
    }

    // Promise 12

    private static void suit() {
        noSuchThree();
        threeNotAlive();
        allOthers();
        fortyCame();
    }

    private static void noSuchThree() {
        Taped x = manor("12: NONE if there are no such three PERSONS");
        for (int person : outside(0, CAME - 1)) {
            x.refused(NONE, "suit", person, SON, HUSBAND);
            x.refused(NONE, "suit", SON, person, HUSBAND);
            x.refused(NONE, "suit", SON, HUSBAND, person);
        }
        x.due(SUITS, "suit", CAME - 1, SON, WIDOW);
    }

    private static void threeNotAlive() {
        Taped x = manor("12: NONE if one of three isn't alive");
        for (int dead : new int[] {0, DEAD_MAN, DEAD_WOMAN}) {
            x.refused(NONE, "suit", dead, SON, HUSBAND);
            x.refused(NONE, "suit", SON, dead, HUSBAND);
            x.refused(NONE, "suit", SON, HUSBAND, dead);
        }
        x.due(SUITS, "suit", HUSBAND, WIFE, WIDOW);
    }

    private static void allOthers() {
        Taped x = manor("12: all others");
        x.refused(NONE, "suit", SON, SON, HUSBAND);
        x.refused(NONE, "suit", SON, HUSBAND, SON);
        x.refused(NONE, "suit", HUSBAND, SON, SON);
        x.refused(NONE, "suit", SON, SON, SON);
    }

    private static void fortyCame() {
        Taped x = manor("12: NONE if 40 came");
        for (int number = SUITS; number < 40; number++) {
            x.due(number, "suit", SON, HUSBAND, WIFE);
        }
        x.refused(NONE, "suit", SON, HUSBAND, WIFE);
        x.refused(NONE, "suit", HUSBAND, WIFE, SON);
        x.due(40, "count", 3);
        x.due(YES, "appear", 39, 2);
        x.due(0, "suited", 39, 0);
    }

    // Promise 13

    private static void appear() {
        noSuchSuit();
        notOpen();
        noSuchWhat();
        whatWasToldLast();
    }

    private static void noSuchSuit() {
        Taped x = manor("13: false if there is no such SUIT");
        for (int suit : outside(0, SUITS - 1)) {
            x.refused(NO, "appear", suit, 2);
        }
    }

    private static void notOpen() {
        Taped x = manor("13: false if there is no such SUIT open");
        for (int suit = 1; suit <= 3; suit++) {
            for (int what = 0; what <= 3; what++) {
                x.refused(NO, "appear", suit, what);
            }
        }
        x.due(YES, "appear", OPEN_SUIT, 0);
        x.due(YES, "appear", SUITS - 1, 0);
    }

    private static void noSuchWhat() {
        Taped x = manor("13: false if there is no such what");
        for (int what : outside(0, 3)) {
            x.refused(NO, "appear", OPEN_SUIT, what);
            x.refused(NO, "appear", 4, what);
            x.refused(NO, "appear", 5, what);
        }
    }

    private static void whatWasToldLast() {
        int[][] want = {{0, 0, 1}, {0, 1, 0}, {2, 0, 0}, {3, 0, 0}};
        for (int first = 0; first <= 3; first++) {
            for (int last = 0; last <= 3; last++) {
                Taped x = begin("13: what will be: " + first + ", then " + last);
                x.due(1, "custom", 30, 0);
                people(x, 3, MAN, NONE, NONE);
                x.due(0, "suit", 0, 1, 2);
                x.due(YES, "appear", 0, first);
                x.due(YES, "appear", 0, last);
                x.dueEach(new int[] {0, 0, 0}, "suited", 0);
                x.due(last < 2 ? 0 : 1, "court");
                x.dueEach(want[last], "suited", 0);
            }
        }
    }

    // Promise 14

    private static void court() {
        noSuitsToHear();
        zeroAgainBehindIt();
        howManyEnded();
    }

    private static void noSuitsToHear() {
        Taped x = begin("14: no SUITS");
        people(x, 3, MAN, NONE, NONE);
        x.refused(0, "court");
        x.due(0, "suit", 0, 1, 2);
        x.due(YES, "appear", 0, 2);
        x.due(1, "court");
        x.refused(0, "court");
    }

    private static void zeroAgainBehindIt() {
        Taped x = begin("14: what will be is 0 again behind it");
        x.due(1, "custom", 30, 0);
        people(x, 3, MAN, NONE, NONE);
        x.due(0, "suit", 0, 1, 2);
        x.due(YES, "appear", 0, 1);
        x.due(0, "court");
        x.dueEach(new int[] {0, 1, 0}, "suited", 0);
        x.due(0, "court");
        x.dueEach(new int[] {0, 1, 1}, "suited", 0);
        x.due(1, "court");
        x.dueEach(new int[] {2, 1, 2}, "suited", 0);
    }

    private static void howManyEnded() {
        Taped x = manor("14: how many SUITS ended");
        // 5 is won by the defendant; 0 and 4 have a first DEFAULT and an ESSOIN
        x.due(1, "court");
        x.dueEach(new int[] {0, 1, 1}, "suited", 0);
        x.dueEach(new int[] {0, 1, 1}, "suited", 4);
        x.dueEach(new int[] {3, 0, 0}, "suited", 5);
        x.due(2, "court");
        x.dueEach(new int[] {2, 1, 2}, "suited", 0);
        x.dueEach(new int[] {2, 1, 2}, "suited", 4);
        x.refused(0, "court");
    }

    // Promise 15

    private static void holder() {
        Taped x = manor("15: -2 if there is none such HOLDING, STRIP or DAY");
        for (int holding : outside(0, 9)) {
            x.refused(NO_SUCH, "holder", holding, 0, 0);
        }
        for (int strip : outside(0, 11)) {
            x.refused(NO_SUCH, "holder", 0, strip, 0);
        }
        for (int day : outside(0, NOW)) {
            x.refused(NO_SUCH, "holder", 0, 0, day);
        }
        check.begin("15: who holds a STRIP on a DAY (0 .. NOW)");
        x.due(0, "holder", 0, 0, 0);
        x.due(0, "holder", 0, 0, 13);
        x.due(WIDOW, "holder", 0, 0, 14);
        x.due(WIDOW, "holder", 0, 0, NOW);
        x.due(NONE, "holder", 9, 11, 0);
        x.due(DEAD_MAN, "holder", 9, 4, 13);
        x.due(NONE, "holder", 9, 4, NOW);
        x.due(HUSBAND, "holder", 1, 11, NOW);
        x.refused(WIDOW, "holder", 0, 0, NOW);
    }

    // Promise 16

    private static void right() {
        rightOfWhichStrip();
        rightAhead();
        whatOfARight();
    }

    private static void rightOfWhichStrip() {
        Taped x = manor("16: -2 if there is none such HOLDING, STRIP or DAY");
        for (int what = 0; what <= 2; what++) {
            for (int holding : outside(0, 9)) {
                x.refused(NO_SUCH, "right", holding, 0, 0, 0, what);
            }
            for (int strip : outside(0, 11)) {
                x.refused(NO_SUCH, "right", 0, strip, 0, 0, what);
            }
            for (int day : outside(0, NOW)) {
                x.refused(NO_SUCH, "right", 0, 0, day, 0, what);
            }
        }
        x.due(0, "right", 9, 11, 0, 0, 1);
        x.due(5, "right", 9, 4, NOW, 0, 1);
    }

    private static void rightAhead() {
        Taped x = manor("16: of the RIGHT k steps ahead (0: it)");
        for (int what = 0; what <= 2; what++) {
            for (int k : outside(0, 2)) {
                x.refused(NO_SUCH, "right", 0, 0, NOW, k, what);
            }
            for (int k : outside(0, 1)) {
                x.refused(NO_SUCH, "right", 0, 0, 13, k, what);
            }
            for (int k : outside(0, 0)) {
                x.refused(NO_SUCH, "right", 5, 0, NOW, k, what);
            }
        }
        x.dueEach(new int[] {WIDOW, 3, 14}, "right", 0, 0, NOW, 0);
        x.dueEach(new int[] {0, 1, 0}, "right", 0, 0, NOW, 1);
        x.dueEach(new int[] {NONE, 0, 0}, "right", 0, 0, NOW, 2);
        x.dueEach(new int[] {0, 1, 0}, "right", 0, 0, 13, 0);
        x.dueEach(new int[] {NONE, 0, 0}, "right", 0, 0, 13, 1);
    }

    private static void whatOfARight() {
        Taped x = manor("16: -2 for others");
        for (int what : outside(0, 2)) {
            x.refused(NO_SUCH, "right", 0, 0, NOW, 0, what);
            x.refused(NO_SUCH, "right", 0, 0, NOW, 2, what);
        }
        x.refused(NO_SUCH, "right", -1, -1, -1, -1, -1);
        x.refused(NO_SUCH, "right", 10, 12, NOW + 1, 3, 3);
    }

    // Promise 17

    private static void heir() {
        heirsOfNobody();
        whichHeir();
        fortiethHeir();
        heirsOfOneWhoLives();
        oneTwiceAmongThem();
        fortyTimesTheSame();
    }

    private static void heirsOfNobody() {
        Taped x = manor("17: NONE if there is no such PERSON");
        for (int person : outside(0, CAME - 1)) {
            x.refused(NONE, "heir", person, 0);
        }
    }

    private static void whichHeir() {
        Taped x = manor("17: the i-th; NONE for others");
        for (int i : outside(0, 1)) {
            x.refused(NONE, "heir", 0, i);
        }
        for (int i : outside(0, -1)) {
            x.refused(NONE, "heir", SINGLE_MAN, i);
        }
        x.refused(NONE, "heir", SINGLE_MAN, 0);
        x.due(SON, "heir", 0, 0);
        x.due(SICK_SON, "heir", 0, 1);
        x.refused(SICK_SON, "heir", 0, 1);
    }

    private static void fortiethHeir() {
        for (int heirs = 39; heirs <= 42; heirs++) {
            Taped x = begin("17: 0 .. 39, of " + heirs);
            x.due(1, "custom", 200000, 0);
            people(x, 1, MAN, NONE, NONE);
            people(x, heirs, MAN, 0, NONE);
            x.due(1, "heir", 0, 0);
            x.due(39, "heir", 0, 38);
            x.due(heirs >= 40 ? 40 : NONE, "heir", 0, 39);
            for (int i : outside(0, 39)) {
                x.due(NONE, "heir", 0, i);
            }
        }
    }

    private static void heirsOfOneWhoLives() {
        Taped x = manor("17: by the CUSTOM in force, as if they weren't alive");
        x.due(SICK_SON, "heir", SON, 0);
        x.due(NONE, "heir", SON, 1);
        x.due(SON, "heir", 4, 0);
        x.due(SICK_SON, "heir", 4, 1);
        x.due(SON, "heir", WIDOW, 0);
        x.due(2, "custom", 100000, 0);
        x.due(SICK_SON, "heir", WIDOW, 0);
        x.due(NONE, "heir", WIDOW, 1);
        x.due(1, "told", SON, 3);
    }

    private static void oneTwiceAmongThem() {
        Taped x = begin("17: one may be among them twice");
        x.due(1, "custom", 200000, 0);
        people(x, 1, MAN, NONE, NONE);
        people(x, 2, WOMAN, 0, NONE);
        people(x, 1, MAN, NONE, 1);
        people(x, 1, MAN, 3, 2);
        for (int p = 1; p <= 3; p++) {
            x.due(0, "die", p);
        }
        x.dueEach(new int[] {4, 4, NONE}, "heir", 0);
        x.due(YES, "grant", 0, 3, 0);
        x.due(3, "die", 0);
        x.due(3, "told", 4, 6);
        x.due(126, "count", 7);
    }

    /** Each four more double the ways to the last one: far more than forty. */
    private static void fortyTimesTheSame() {
        Taped x = begin("17: one may be among them very often");
        x.due(1, "custom", 200000, 0);
        people(x, 1, MAN, NONE, NONE);
        int last = 0;
        for (int came = 1; came + 4 <= 60; came += 4) {
            people(x, 2, MAN, last, NONE);
            people(x, 1, WOMAN, came + 1, NONE);
            people(x, 1, MAN, came, came + 2);
            last = came + 3;
        }
        for (int p = 1; p < last; p++) {
            x.due(0, "die", p);
        }
        for (int i = 0; i < 40; i++) {
            x.due(last, "heir", 0, i);
        }
        x.due(NONE, "heir", 0, 40);
    }

    // Promise 18

    private static void told() {
        Taped x = manor("18: -2 for others, or if there is none such");
        for (int what : outside(0, 13)) {
            x.refused(NO_SUCH, "told", HUSBAND, what);
            x.refused(NO_SUCH, "told", DEAD_MAN, what);
        }
        for (int person : outside(0, CAME - 1)) {
            for (int what = 0; what <= 13; what += 13) {
                x.refused(NO_SUCH, "told", person, what);
            }
        }
        x.refused(NO_SUCH, "told", NONE, 6);
        x.refused(NO_SUCH, "told", NONE, 8);
        check.begin("18: of a PERSON");
        // the husband: 6 for a suit that he lost, 3 as a pledge, 3 for works that were sold; 2 are paid
        x.dueEach(new int[] {1, NONE, NONE, 1, NONE, 0, 5, 4, 5, 14, 0, 0, 0, 0}, "told", WIDOW);
        x.dueEach(new int[] {0, NONE, NONE, 1, WIFE, 0, 11, 0, 10, 71, 4, 3, 0, 0}, "told", HUSBAND);
        x.dueEach(new int[] {0, 0, WIDOW, 1, NONE, 0, 2, 0, 0, 0, 0, 0, 4, 8}, "told", SICK_SON);
        x.dueEach(new int[] {0, NONE, NONE, 0, NONE, 0, 0, 0, 3, 20, 0, 0, 0, 0}, "told", DEAD_MAN);
        x.due(CAME, "person", WOMAN, HUSBAND, WIFE);
        x.dueEach(new int[] {1, HUSBAND, WIFE, 1, NONE, NOW, 0, 0, 0, 0, 0, 0, 0, 0}, "told", CAME);
    }

    // Promise 19

    private static void suited() {
        Taped x = manor("19: NONE for others, or if there is none such");
        for (int what : outside(0, 2)) {
            x.refused(NONE, "suited", OPEN_SUIT, what);
            x.refused(NONE, "suited", SUITS - 1, what);
        }
        for (int suit : outside(0, SUITS - 1)) {
            for (int what = 0; what <= 2; what++) {
                x.refused(NONE, "suited", suit, what);
            }
        }
        check.begin("19: open (0), void (1), lost by the defendant (2), won (3)");
        int[][] want = {{0, 1, 0}, {2, 0, 0}, {3, 0, 0}, {1, 0, 0}, {0, 0, 1}, {0, 0, 0}};
        for (int suit = 0; suit < SUITS; suit++) {
            x.dueEach(want[suit], "suited", suit);
        }
    }

    // Promise 20

    private static void count() {
        Taped x = manor("20: NONE for others");
        for (int what : outside(0, 7)) {
            x.refused(NONE, "count", what);
        }
        // OWED: 5 and 5 for marriages, 12 by the son, 10 by the husband, 3 and 3 for deaths
        check.begin("20: NOW, PERSONS, CUSTOMS, SUITS, STRIPS of the LORD, OWED, PAID, RIGHTS");
        x.dueEach(new int[] {NOW, CAME, 1, SUITS, 97, 38, 2, 164}, "count");
        countAllGranted();
    }

    private static void countAllGranted() {
        Taped x = begin("20: none of the STRIPS is the LORD's");
        people(x, 1, MAN, NONE, NONE);
        for (int holding = 0; holding < 10; holding++) {
            x.due(YES, "grant", holding, 12, 0);
        }
        x.due(0, "count", 4);
        x.due(240, "count", 7);
        x.due(120, "told", 0, 6);
        x.due(120, "die", 0);
        x.due(120, "count", 4);
        x.due(360, "count", 7);
    }

    // Promises 15 to 20

    private static void askingChangesNothing() {
        Taped x = manor("15 to 20: asking changes nothing");
        for (int p = 0; p < CAME; p++) {
            x.changesNothing("heir", p, 0);
            for (int what = 0; what <= 13; what++) {
                x.changesNothing("told", p, what);
            }
        }
        for (int suit = 0; suit < SUITS; suit++) {
            for (int what = 0; what <= 2; what++) {
                x.changesNothing("suited", suit, what);
            }
        }
        for (int what = 0; what <= 7; what++) {
            x.changesNothing("count", what);
        }
        for (int strip = 0; strip <= 11; strip++) {
            x.changesNothing("holder", 0, strip, 13);
            x.changesNothing("right", 0, strip, NOW, 1, 1);
        }
    }
}
