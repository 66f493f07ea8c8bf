/** Each sentence of "What it is" and of "Terms" that names an edge has a test of its own here. */
public final class TermsEdgesTest {
    private static final int NONE = -1;
    private static final int NO_SUCH = -2;
    private static final int NO = 0;
    private static final int YES = 1;
    private static final int MAN = 0;
    private static final int WOMAN = 1;
    private static final int ORDER = 100000;
    private static final int WIDOW = 1000;
    private static final int WORKS = 100;
    private static final int ESSOINS = 10;
    private static final int HERIOT = 10000;
    private static final int ENTRY = 100;
    private static final int MERCHET = 1;
    private static final Check check = new Check();

    public static void main(String[] args) {
        objectsAndDays();
        peopleAndLand();
        customs();
        heirs();
        passing();
        deaths();
        marriages();
        weeks();
        suits();
        rights();
        check.end();
    }

    private static Taped begin(String sentence) {
        check.begin(sentence);
        return new Taped(check);
    }

    private static Taped begin(String sentence, int what, int dues) {
        Taped x = begin(sentence);
        x.due(1, "custom", what, dues);
        return x;
    }

    private static void people(Taped x, int n, int sex, int father, int mother) {
        for (int i = 0; i < n; i++) {
            x.call("person", sex, father, mother);
        }
    }

    /** Man 0 and woman 1, married. */
    private static void couple(Taped x) {
        people(x, 1, MAN, NONE, NONE);
        people(x, 1, WOMAN, NONE, NONE);
        x.due(YES, "marry", 0, 1);
    }

    private static void heirsDue(Taped x, int person, int... want) {
        x.dueEach(want, "heir", person);
        x.due(NONE, "heir", person, want.length);
    }

    private static void holdersDue(Taped x, int holding, int day, int... want) {
        for (int strip = 0; strip < want.length; strip++) {
            x.due(want[strip], "holder", holding, strip, day);
        }
    }

    // An object, DAYS

    private static void objectsAndDays() {
        eachCallAsThe512th();
        manyRightsOnOneStrip();
        manyRightsOnAllStrips();
        nowIsZeroAtFirst();
        lastDay();
        lastDayByOneStep();
    }

    private static Taped smallManor(String sentence) {
        Taped x = begin(sentence, ORDER + 6 * WIDOW + 3 * WORKS + 3 * ESSOINS, 3 * HERIOT + 2 * ENTRY + 5 * MERCHET);
        couple(x);
        people(x, 1, MAN, 0, 1);
        people(x, 1, WOMAN, NONE, NONE);
        x.due(YES, "grant", 0, 12, 0);
        x.due(7, "weeks", 1);
        x.due(0, "suit", 0, 1, 2);
        return x;
    }

    private static void the512th(int want, String name, int... args) {
        Taped x = smallManor("an object is used for at most 512 calls");
        x.idleTill(Taped.MOST_CALLS - 1);
        x.due(want, name, args);
    }

    private static void eachCallAsThe512th() {
        the512th(2, "custom", 0, 0);
        the512th(4, "person", MAN, 0, 1);
        the512th(YES, "marry", 2, 3);
        the512th(12, "die", 0);
        the512th(YES, "grant", 9, 12, 0);
        the512th(YES, "rod", 0, 12, 0, 2);
        the512th(427, "weeks", 60);
        the512th(YES, "sick", 0, 60);
        the512th(0, "works", 0, 36, 1);
        the512th(0, "pay", 1, 5);
        the512th(1, "suit", 1, 0, 2);
        the512th(YES, "appear", 0, 3);
        the512th(0, "court");
        the512th(0, "holder", 0, 11, 7);
        the512th(0, "right", 0, 0, 7, 1, 1);
        the512th(2, "heir", 0, 0);
        the512th(36, "told", 0, 9);
        the512th(0, "suited", 0, 0);
        the512th(132, "count", 7);
        the512th(NONE, "die", 4);
    }

    private static void manyRightsOnOneStrip() {
        Taped x = begin("512 calls, the most rights on a strip");
        people(x, 2, MAN, NONE, NONE);
        x.due(YES, "grant", 0, 12, 0);
        for (int from = 0; x.made() < Taped.MOST_CALLS - 1; from = 1 - from) {
            x.due(YES, "rod", 0, 12, from, 1 - from);
        }
        // 508 by rod, one granted, one from the first
        x.copy().due(4, "right", 0, 11, 0, 507, 1);
        x.copy().due(1, "right", 0, 11, 0, 508, 1);
        x.copy().due(0, "right", 0, 11, 0, 509, 1);
        x.copy().due(NO_SUCH, "right", 0, 11, 0, 510, 1);
        x.copy().due(120 + 12 * 509, "count", 7);
    }

    private static void manyRightsOnAllStrips() {
        Taped x = begin("512 calls, rights on all strips");
        people(x, 1, MAN, NONE, NONE);
        for (int p = 1; p < 60; p++) {
            people(x, 1, MAN, p - 1, NONE);
        }
        for (int holding = 0; holding < 10; holding++) {
            x.due(YES, "grant", holding, 12, 0);
        }
        for (int p = 0; p < 60; p++) {
            x.due(120, "die", p);
        }
        x.due(120 * 62, "count", 7);
        x.due(5, "right", 9, 11, 0, 0, 1);
        x.due(59, "right", 9, 11, 0, 1, 0);
        x.due(0, "right", 9, 11, 0, 60, 0);
        x.due(0, "right", 9, 11, 0, 61, 1);
        x.due(NO_SUCH, "right", 9, 11, 0, 62, 1);
    }

    private static void nowIsZeroAtFirst() {
        Taped x = begin("NOW is 0 at first");
        x.due(0, "count", 0);
        x.due(0, "weeks", 0);
        x.due(NONE, "holder", 0, 0, 0);
        x.refused(NO_SUCH, "holder", 0, 0, 1);
        x.refused(NO_SUCH, "holder", 0, 0, -1);
        x.due(0, "person", MAN, NONE, NONE);
        x.due(0, "told", 0, 5);
    }

    /** Ninety-five times sixty weeks and fourteen weeks are the most that fit: day 39998. */
    private static void lastDay() {
        Taped x = begin("DAYS are 0 .. 40000");
        people(x, 1, MAN, NONE, NONE);
        for (int i = 1; i <= 95; i++) {
            x.due(i * 420, "weeks", 60);
        }
        x.refused(NONE, "weeks", 60);
        x.refused(NONE, "weeks", 15);
        x.due(39998, "weeks", 14);
        x.refused(NONE, "weeks", 1);
        x.refused(NONE, "weeks", 60);
        x.due(39998, "weeks", 0);
        x.due(39998, "count", 0);
        x.due(YES, "grant", 3, 1, 0);
        x.due(1, "person", MAN, NONE, NONE);
        x.due(39998, "told", 1, 5);
        x.due(39998, "right", 3, 0, 39998, 0, 2);
        x.due(0, "holder", 3, 0, 39998);
        x.due(NONE, "holder", 3, 0, 39997);
        x.due(NONE, "holder", 3, 0, 0);
        for (int day : new int[] {39999, 40000, 40001, -1}) {
            x.refused(NO_SUCH, "holder", 3, 0, day);
            x.refused(NO_SUCH, "right", 3, 0, day, 0, 0);
        }
    }

    private static void lastDayByOneStep() {
        for (int far = 1; far <= 61; far++) {
            Taped x = begin("NOW is a DAY, " + far + " weeks ahead of the last");
            int now = 39998 - far * 7;
            for (int left = now / 7; left > 0; left -= Math.min(left, 60)) {
                x.call("weeks", Math.min(left, 60));
            }
            x.due(now, "count", 0);
            if (far < 60) {
                x.due(NONE, "weeks", far + 1);
                x.due(now, "count", 0);
            }
            x.due(now + Math.min(far, 60) * 7, "weeks", Math.min(far, 60));
        }
    }

    // PERSONS, HOLDINGS, STRIPS

    private static void peopleAndLand() {
        atMostSixtyPersons();
        theDeadAreAmongTheSixty();
        theSixtiethIsLikeOthers();
        earlierIsOlder();
        lordHoldsAllAtFirst();
        eachHoldingHasTwelveStrips();
        neighbouringStripsAreOthers();
    }

    private static void atMostSixtyPersons() {
        Taped x = begin("PERSONS have numbers as they come, at most 60");
        x.refused(NO_SUCH, "told", 0, 0);
        for (int p = 0; p < 60; p++) {
            x.due(p, "person", p % 2, NONE, NONE);
        }
        x.due(60, "count", 1);
        x.refused(NONE, "person", MAN, NONE, NONE);
        x.refused(NONE, "person", WOMAN, NONE, NONE);
        x.refused(NONE, "person", MAN, 58, 59);
        x.refused(NO_SUCH, "told", 60, 0);
    }

    private static void theDeadAreAmongTheSixty() {
        Taped x = begin("at most 60 PERSONS, the dead too");
        people(x, 59, MAN, NONE, NONE);
        for (int p = 0; p < 59; p++) {
            x.due(0, "die", p);
        }
        x.due(59, "person", MAN, NONE, NONE);
        x.due(0, "die", 59);
        x.refused(NONE, "person", MAN, NONE, NONE);
        x.due(60, "count", 1);
    }

    private static void theSixtiethIsLikeOthers() {
        Taped x = begin("the sixtieth PERSON", 2 * ORDER + 12 * WIDOW + WORKS, 11);
        people(x, 57, MAN, NONE, NONE);
        x.due(57, "person", WOMAN, NONE, NONE);
        x.due(58, "person", MAN, 0, 57);
        x.due(59, "person", MAN, 0, 57);
        heirsDue(x, 0, 58, 59);
        x.due(2, "custom", ORDER + 12 * WIDOW + WORKS, 11);
        heirsDue(x, 0, 59);
        heirsDue(x, 57, 59);
        x.due(YES, "marry", 59, 57);
        x.due(59, "told", 57, 4);
        x.due(YES, "grant", 9, 12, 59);
        x.due(7, "weeks", 1);
        x.due(12, "told", 59, 9);
        x.due(0, "suit", 59, 0, 1);
        x.due(1, "suit", 0, 59, 1);
        x.due(2, "suit", 0, 1, 59);
        x.due(YES, "sick", 59, 60);
        x.due(12, "die", 59);
        holdersDue(x, 9, 7, 57, 57, 57, 57, 57, 57, 57, 57, 57, 57, 57, 57);
        heirsDue(x, 0, 58);
        heirsDue(x, 59, 58);
    }

    private static void earlierIsOlder() {
        Taped x = begin("those who came earlier are older");
        people(x, 3, MAN, NONE, NONE);
        people(x, 2, MAN, 0, NONE);
        x.due(7, "weeks", 1);
        people(x, 2, MAN, 0, NONE);
        heirsDue(x, 0, 3);
        x.due(1, "custom", ORDER, 0);
        heirsDue(x, 0, 6);
        x.due(0, "die", 6);
        heirsDue(x, 0, 5);
        x.due(0, "die", 3);
        x.due(2, "custom", 0, 0);
        heirsDue(x, 0, 4);
        x.due(3, "custom", 2 * ORDER, 0);
        heirsDue(x, 0, 4, 5);
    }

    private static void lordHoldsAllAtFirst() {
        Taped x = begin("each STRIP is held by the LORD at first");
        x.due(120, "count", 4);
        x.due(120, "count", 7);
        for (int place = 0; place < 120; place++) {
            x.due(NONE, "holder", place / 12, place % 12, 0);
            x.due(0, "right", place / 12, place % 12, 0, 0, 1);
            x.due(NO_SUCH, "right", place / 12, place % 12, 0, 1, 0);
        }
    }

    private static void eachHoldingHasTwelveStrips() {
        Taped x = begin("HOLDINGS are 0 .. 9, each of STRIPS 0 .. 11");
        people(x, 10, MAN, NONE, NONE);
        for (int holding = 0; holding < 10; holding++) {
            x.due(NO, "grant", holding, 13, holding);
            x.due(YES, "grant", holding, 12, holding);
            x.due(NO, "grant", holding, 1, holding);
            x.due(120 - 12 * (holding + 1), "count", 4);
        }
        for (int place = 0; place < 120; place++) {
            x.due(place / 12, "holder", place / 12, place % 12, 0);
        }
        for (int holding = 0; holding < 10; holding++) {
            x.due(NO_SUCH, "holder", holding, -1, 0);
            x.due(NO_SUCH, "holder", holding, 12, 0);
            x.due(12, "told", holding, 6);
        }
    }

    private static void neighbouringStripsAreOthers() {
        Taped x = begin("a STRIP behind a HOLDING's last is none of the next one's");
        people(x, 1, MAN, NONE, NONE);
        x.due(YES, "grant", 1, 12, 0);
        x.refused(NO_SUCH, "holder", 0, 12, 0);
        x.refused(NO_SUCH, "holder", 2, -1, 0);
        x.refused(NO_SUCH, "holder", 10, -108, 0);
        x.refused(NO_SUCH, "holder", -1, 24, 0);
        // 357913941 * 12 is 4294967292, which wraps around to -4; 357913942 * 12 to 8
        x.refused(NO_SUCH, "holder", 357913942, 4, 0);
        x.refused(NO_SUCH, "holder", 357913941, 11, 0);
        x.refused(NO_SUCH, "right", 357913942, 4, 0, 0, 0);
        x.refused(NO, "grant", 357913942, 1, 0);
        x.due(NONE, "holder", 0, 11, 0);
        x.due(0, "holder", 1, 0, 0);
        x.due(0, "holder", 1, 11, 0);
        x.due(NONE, "holder", 2, 0, 0);
    }

    // CUSTOMS

    private static void customs() {
        lastValueOfEachPart();
        firstValueTooLarge();
        allIsZeroAtFirst();
        theOneFoundLast();
    }

    private static void lastValueOfEachPart() {
        for (int part : new int[] {0, ORDER, 2 * ORDER, WIDOW, 12 * WIDOW, WORKS, 3 * WORKS, ESSOINS, 3 * ESSOINS}) {
            begin("each part of a CUSTOM, the last value").due(1, "custom", part, 0);
        }
        for (int part : new int[] {0, HERIOT, 99 * HERIOT, ENTRY, 99 * ENTRY, MERCHET, 99 * MERCHET}) {
            begin("each part of a CUSTOM, the last value").due(1, "custom", 0, part);
        }
        begin("all parts of a CUSTOM, the last values")
            .due(1, "custom", 2 * ORDER + 12 * WIDOW + 3 * WORKS + 3 * ESSOINS, 99 * (HERIOT + ENTRY + MERCHET));
    }

    private static void firstValueTooLarge() {
        Taped x = begin("each part of a CUSTOM, the first value that is not taken", 2 * ORDER, 5);
        for (int part : new int[] {-ORDER, 3 * ORDER, -WIDOW, 13 * WIDOW, -WORKS, 4 * WORKS, -ESSOINS, 4 * ESSOINS}) {
            x.refused(NONE, "custom", part, 0);
        }
        int all = 2 * ORDER + 12 * WIDOW + 3 * WORKS + 3 * ESSOINS;
        for (int step : new int[] {ORDER, WIDOW, WORKS, ESSOINS}) {
            x.refused(NONE, "custom", all + step, 0);
        }
        for (int part : new int[] {-HERIOT, 100 * HERIOT, -ENTRY, -MERCHET}) {
            x.refused(NONE, "custom", 0, part);
        }
    }

    private static void allIsZeroAtFirst() {
        Taped x = begin("at first all of the CUSTOM is 0");
        couple(x);
        people(x, 2, MAN, 0, 1);
        people(x, 1, WOMAN, 0, 1);
        heirsDue(x, 0, 2);
        x.due(0, "count", 5);
        x.due(YES, "grant", 0, 12, 0);
        x.due(YES, "rod", 0, 1, 0, 2);
        x.due(420, "weeks", 60);
        x.due(0, "told", 0, 9);
        x.due(0, "suit", 0, 1, 2);
        x.due(YES, "appear", 0, 1);
        x.due(0, "court");
        x.due(0, "suited", 0, 1);
        x.due(1, "suited", 0, 2);
        x.due(3, "count", 5);
        x.due(11, "die", 0);
        x.due(0, "told", 1, 6);
        x.due(12, "told", 2, 6);
        x.due(0, "told", 0, 8);
        x.due(3, "count", 5);
        x.due(0, "count", 2);
    }

    private static void theOneFoundLast() {
        Taped x = begin("the CUSTOM in force is the one found last", 2 * ORDER + 12 * WIDOW + 3 * WORKS, 999999);
        couple(x);
        people(x, 2, MAN, 0, NONE);
        x.due(99, "told", 1, 8);
        x.due(YES, "grant", 0, 12, 0);
        x.due(7, "weeks", 1);
        x.due(36, "told", 0, 9);
        x.due(2, "custom", ORDER + 3 * WIDOW + WORKS, 2 * HERIOT + 3 * ENTRY);
        x.due(14, "weeks", 1);
        x.due(48, "told", 0, 9);
        x.due(YES, "rod", 0, 4, 0, 2);
        x.due(12, "told", 2, 8);
        heirsDue(x, 0, 3);
        x.due(8, "die", 0);
        x.due(2, "told", 1, 7);
        x.due(2, "told", 0, 8);
        x.due(3, "custom", ORDER + 3 * WIDOW + WORKS, 2 * HERIOT + 3 * ENTRY);
    }

    // HEIRS

    private static void heirs() {
        sonsOfEitherParent();
        noSonsThenDaughters();
        sonsOfWhomNobodyLives();
        sonsOfWhomOnlyTheLastLives();
        noneOfTheirOwnThenTheFathers();
        noFather();
        nobodyAtAll();
        ordersOfSons();
        daughtersAreAlwaysAll();
        placesAreTaken();
        thoseWhoTookAPlaceStandThere();
        neverOneselfAsKin();
    }

    private static void sonsOfEitherParent() {
        Taped x = begin("sons: those whose FATHER or MOTHER is p", 2 * ORDER, 0);
        couple(x);
        people(x, 1, MAN, 0, NONE);
        people(x, 1, MAN, NONE, 1);
        people(x, 1, MAN, 0, 1);
        heirsDue(x, 0, 2, 4);
        heirsDue(x, 1, 3, 4);
    }

    private static void noSonsThenDaughters() {
        Taped x = begin("if there are no sons, daughters");
        people(x, 1, MAN, NONE, NONE);
        people(x, 1, WOMAN, 0, NONE);
        people(x, 1, WOMAN, 0, NONE);
        heirsDue(x, 0, 1, 2);
        people(x, 1, MAN, 0, NONE);
        heirsDue(x, 0, 3);
        x.due(0, "die", 3);
        heirsDue(x, 0, 1, 2);
        x.due(0, "die", 1);
        heirsDue(x, 0, 2);
        people(x, 1, MAN, NONE, 1);
        heirsDue(x, 0, 4, 2);
        x.due(0, "die", 2);
        heirsDue(x, 0, 4);
        x.due(0, "die", 4);
        heirsDue(x, 0);
    }

    private static void sonsOfWhomNobodyLives() {
        for (int order = 0; order < 3; order++) {
            Taped x = begin("a son who is dead, with nobody alive below, by ORDER " + order, order * ORDER, 0);
            people(x, 1, MAN, NONE, NONE);
            people(x, 3, MAN, 0, NONE);
            people(x, 1, MAN, 1, NONE);
            people(x, 1, MAN, 3, NONE);
            for (int p : new int[] {1, 3, 4, 5}) {
                x.due(0, "die", p);
            }
            heirsDue(x, 0, 2);
        }
    }

    private static void sonsOfWhomOnlyTheLastLives() {
        for (int order = 0; order < 3; order++) {
            Taped x = begin("and so on, down to the sixtieth, by ORDER " + order, order * ORDER, 0);
            people(x, 1, MAN, NONE, NONE);
            for (int p = 1; p < 60; p++) {
                people(x, 1, p == 59 ? WOMAN : MAN, p - 1, NONE);
            }
            for (int p = 1; p < 59; p++) {
                x.due(0, "die", p);
            }
            x.due(YES, "grant", 0, 12, 0);
            heirsDue(x, 0, 59);
            x.due(12, "die", 0);
            x.due(12, "told", 59, 6);
            x.due(12, "die", 59);
            heirsDue(x, 0);
        }
    }

    private static void noneOfTheirOwnThenTheFathers() {
        Taped x = begin("if there are none, the sons, else the daughters, of the FATHER (but for p)");
        people(x, 1, MAN, NONE, NONE);
        people(x, 1, MAN, 0, NONE);
        heirsDue(x, 1);
        people(x, 2, WOMAN, 0, NONE);
        heirsDue(x, 1, 2, 3);
        heirsDue(x, 2, 1);
        people(x, 2, MAN, 0, NONE);
        heirsDue(x, 1, 4);
        x.due(1, "custom", ORDER, 0);
        heirsDue(x, 1, 5);
        heirsDue(x, 5, 4);
        x.due(2, "custom", 2 * ORDER, 0);
        heirsDue(x, 4, 1, 5);
        heirsDue(x, 2, 1, 4, 5);
        people(x, 1, WOMAN, 1, NONE);
        heirsDue(x, 1, 6);
        x.due(0, "die", 1);
        heirsDue(x, 4, 6, 5);
        x.due(0, "die", 0);
        heirsDue(x, 4, 6, 5);
    }

    private static void noFather() {
        Taped x = begin("one without a FATHER: the MOTHER's are none");
        people(x, 1, WOMAN, NONE, NONE);
        people(x, 2, MAN, NONE, 0);
        people(x, 1, WOMAN, NONE, 0);
        for (int p = 1; p < 4; p++) {
            heirsDue(x, p);
        }
        heirsDue(x, 0, 1);
    }

    private static void nobodyAtAll() {
        Taped x = begin("if there are none of these either, nobody");
        people(x, 1, MAN, NONE, NONE);
        people(x, 2, MAN, 0, NONE);
        people(x, 1, MAN, 1, NONE);
        // neither the FATHER nor a FATHER's brother
        heirsDue(x, 3);
        x.due(0, "die", 2);
        heirsDue(x, 1, 3);
        x.due(0, "die", 3);
        heirsDue(x, 1);
        x.due(YES, "grant", 0, 3, 1);
        x.due(3, "die", 1);
        x.due(120, "count", 4);
        heirsDue(x, 0);
    }

    private static void ordersOfSons() {
        int[][] want = {{1}, {3}, {1, 2, 3}};
        for (int order = 0; order < 3; order++) {
            Taped x = begin("of sons by ORDER " + order, order * ORDER, 0);
            people(x, 1, MAN, NONE, NONE);
            people(x, 3, MAN, 0, NONE);
            people(x, 1, WOMAN, 0, NONE);
            heirsDue(x, 0, want[order]);
        }
    }

    private static void daughtersAreAlwaysAll() {
        for (int order = 0; order < 3; order++) {
            Taped x = begin("of daughters always all, ORDER " + order, order * ORDER, 0);
            people(x, 1, MAN, NONE, NONE);
            people(x, 41, WOMAN, 0, NONE);
            for (int i = 0; i < 40; i++) {
                x.due(i + 1, "heir", 0, i);
            }
            x.due(NONE, "heir", 0, 40);
        }
    }

    private static void placesAreTaken() {
        int[][] want = {{4}, {7}, {4, 5, 2, 7}};
        for (int order = 0; order < 3; order++) {
            Taped x = begin("each who isn't alive gives way to their own children, ORDER " + order, order * ORDER, 0);
            people(x, 1, MAN, NONE, NONE);
            people(x, 3, MAN, 0, NONE);
            people(x, 2, MAN, 1, NONE);
            people(x, 1, WOMAN, 3, NONE);
            people(x, 1, MAN, 3, NONE);
            people(x, 1, WOMAN, 1, NONE);
            x.due(0, "die", 1);
            x.due(0, "die", 3);
            heirsDue(x, 0, want[order]);
        }
    }

    private static void thoseWhoTookAPlaceStandThere() {
        Taped x = begin("those who took somebody's place stand where that one would", 2 * ORDER, 0);
        people(x, 1, MAN, NONE, NONE);
        people(x, 3, MAN, 0, NONE);
        people(x, 2, WOMAN, 2, NONE);
        people(x, 1, MAN, 1, NONE);
        x.due(0, "die", 2);
        heirsDue(x, 0, 1, 4, 5, 3);
        x.due(0, "die", 1);
        heirsDue(x, 0, 6, 4, 5, 3);
        people(x, 2, MAN, NONE, 4);
        x.due(0, "die", 4);
        heirsDue(x, 0, 6, 7, 8, 5, 3);
    }

    private static void neverOneselfAsKin() {
        Taped x = begin("as if they weren't alive: one's own place below a sister is nobody's");
        people(x, 1, MAN, NONE, NONE);
        people(x, 1, WOMAN, 0, NONE);
        people(x, 1, MAN, 0, 1);
        heirsDue(x, 2, 1);
        x.due(0, "die", 1);
        heirsDue(x, 2);
        heirsDue(x, 1, 2);
    }

    // STRIPS that PASS

    private static void passing() {
        eachOfSonsByOrderTwo();
        eachOfDaughters();
        allToOneSons();
        partsOfThoseWhoTookAPlace();
        partsThatReachNobody();
        toTheLord();
        moreHeirsThanCanBeAsked();
    }

    /** Which of k gets the strip at a place, if n are shared: n by k, the first ones one more till all are gone. */
    private static int sharer(int place, int n, int k) {
        int end = 0;
        for (int i = 0; i < k; i++) {
            end += n / k + (i < n % k ? 1 : 0);
            if (place < end) {
                return i;
            }
        }
        return NONE;
    }

    private static void shareAmong(int sex, int order, int n, int k) {
        Taped x = begin(n + " STRIPS to " + k + " of SEX " + sex + " by ORDER " + order, order * ORDER, 0);
        people(x, 1, MAN, NONE, NONE);
        people(x, k, sex, 0, NONE);
        x.due(YES, "grant", 6, n, 0);
        x.due(n, "die", 0);
        for (int strip = 0; strip < 12; strip++) {
            x.due(strip < n ? 1 + sharer(strip, n, k) : NONE, "holder", 6, strip, 0);
            x.due(strip < n ? 2 : 0, "right", 6, strip, 0, 0, 1);
        }
    }

    private static void eachOfSonsByOrderTwo() {
        for (int n = 1; n <= 12; n++) {
            for (int k = 1; k <= 14; k++) {
                shareAmong(MAN, 2, n, k);
            }
        }
    }

    private static void eachOfDaughters() {
        for (int order = 0; order < 3; order++) {
            for (int n : new int[] {1, 2, 5, 7, 11, 12}) {
                for (int k : new int[] {1, 2, 3, 5, 12, 13, 59}) {
                    shareAmong(WOMAN, order, n, k);
                }
            }
        }
    }

    private static void allToOneSons() {
        for (int order = 0; order < 2; order++) {
            for (int n = 1; n <= 12; n += 11) {
                Taped x = begin("with ORDER " + order + " all " + n + " to that one's", order * ORDER, 0);
                people(x, 1, MAN, NONE, NONE);
                people(x, 5, MAN, 0, NONE);
                people(x, 2, WOMAN, order == 0 ? 1 : 5, NONE);
                x.due(YES, "grant", 0, n, 0);
                x.due(0, "die", order == 0 ? 1 : 5);
                x.due(n, "die", 0);
                for (int strip = 0; strip < n; strip++) {
                    x.due(6 + sharer(strip, n, 2), "holder", 0, strip, 0);
                }
            }
        }
    }

    private static void partsOfThoseWhoTookAPlace() {
        Taped x = begin("in each part likewise for those who took somebody's place", 2 * ORDER, 0);
        people(x, 1, MAN, NONE, NONE);
        people(x, 3, MAN, 0, NONE);
        people(x, 3, MAN, 1, NONE);
        people(x, 2, WOMAN, 2, NONE);
        people(x, 2, MAN, 4, NONE);
        for (int p : new int[] {1, 2, 4}) {
            x.due(0, "die", p);
        }
        heirsDue(x, 0, 9, 10, 5, 6, 7, 8, 3);
        x.due(YES, "grant", 0, 12, 0);
        x.due(YES, "grant", 1, 11, 0);
        x.due(YES, "grant", 2, 1, 0);
        x.due(YES, "grant", 3, 2, 0);
        x.due(26, "die", 0);
        // 4 (2 (1, 1), 1, 1), 4 (2, 2), 4
        holdersDue(x, 0, 0, 9, 10, 5, 6, 7, 7, 8, 8, 3, 3, 3, 3);
        // 4, 4, 3
        holdersDue(x, 1, 0, 9, 10, 5, 6, 7, 7, 8, 8, 3, 3, 3, NONE);
        holdersDue(x, 2, 0, 9, NONE);
        holdersDue(x, 3, 0, 9, 7, NONE);
    }

    private static void partsThatReachNobody() {
        Taped x = begin("fewer STRIPS than HEIRS: the last ones get none", 2 * ORDER, 0);
        people(x, 1, MAN, NONE, NONE);
        people(x, 13, MAN, 0, NONE);
        x.due(YES, "grant", 0, 12, 0);
        x.due(YES, "grant", 1, 1, 0);
        x.due(13, "die", 0);
        x.due(2, "told", 1, 6);
        x.due(1, "told", 2, 6);
        x.due(1, "told", 12, 6);
        x.due(0, "told", 13, 6);
        x.due(107, "count", 4);
    }

    private static void toTheLord() {
        for (int order = 0; order < 3; order++) {
            Taped x = begin("to nobody: to the LORD, ORDER " + order, order * ORDER, 0);
            people(x, 1, MAN, NONE, NONE);
            for (int n : new int[] {1, 12}) {
                x.due(YES, "grant", n % 10, n, 0);
            }
            x.due(7, "weeks", 1);
            x.due(13, "die", 0);
            x.due(120, "count", 4);
            x.due(146, "count", 7);
            x.dueEach(new int[] {NONE, 5, 7}, "right", 2, 11, 7, 0);
            x.dueEach(new int[] {0, 1, 0}, "right", 2, 11, 7, 1);
            x.dueEach(new int[] {NONE, 0, 0}, "right", 1, 1, 7, 0);
        }
    }

    private static void moreHeirsThanCanBeAsked() {
        Taped x = begin("more than 40 HEIRS, and 12 STRIPS", 2 * ORDER, 0);
        people(x, 1, MAN, NONE, NONE);
        people(x, 59, MAN, 0, NONE);
        x.due(YES, "grant", 0, 12, 0);
        x.due(40, "heir", 0, 39);
        x.due(NONE, "heir", 0, 40);
        x.due(12, "die", 0);
        for (int strip = 0; strip < 12; strip++) {
            x.due(strip + 1, "holder", 0, strip, 0);
        }
    }

    // A DEATH

    private static void deaths() {
        widowsPartIsCut();
        notMarried();
        aWidowersPart();
        oneWithoutStrips();
        oneWithWidowsPartsOnly();
        heriotOfEachHolding();
        partsPassByTheCustomOfNow();
        partsPassAsThoseAreAliveNow();
        partsAndOwnStripsInOneHolding();
        partsWithoutHeirs();
        notMarriedAnyMore();
    }

    private static void widowsPartIsCut() {
        for (int widow = 0; widow <= 12; widow++) {
            for (int n = 1; n <= 12; n++) {
                Taped x = begin("the first " + n + " times WIDOW " + widow + " by 12 (cut)", widow * WIDOW, 0);
                couple(x);
                people(x, 1, MAN, 0, 1);
                x.due(YES, "grant", 4, n, 0);
                x.due(n, "die", 0);
                int part = n * widow / 12;
                for (int strip = 0; strip < n; strip++) {
                    x.due(strip < part ? 1 : 2, "holder", 4, strip, 0);
                    x.due(strip < part ? 3 : 2, "right", 4, strip, 0, 0, 1);
                }
                x.due(part, "told", 1, 7);
                x.due(n - part, "told", 2, 6);
            }
        }
    }

    private static void notMarried() {
        Taped x = begin("no WIDOW's part of one who isn't married", 12 * WIDOW, 0);
        couple(x);
        people(x, 1, MAN, 0, 1);
        x.due(0, "die", 0);
        x.due(YES, "grant", 0, 12, 1);
        x.due(12, "die", 1);
        x.due(12, "told", 2, 6);
        x.due(0, "told", 2, 7);
        x.due(12, "die", 2);
        x.due(120, "count", 4);
    }

    private static void aWidowersPart() {
        Taped x = begin("a WIDOW's part, man or woman", 12 * WIDOW, 0);
        couple(x);
        x.due(YES, "grant", 0, 12, 1);
        x.due(12, "die", 1);
        x.due(12, "told", 0, 7);
        x.due(12, "told", 0, 6);
        x.due(3, "right", 0, 0, 0, 0, 1);
        x.due(1, "right", 0, 0, 0, 1, 0);
    }

    private static void oneWithoutStrips() {
        Taped x = begin("one with no STRIPS: no HERIOT", 12 * WIDOW, 99 * HERIOT);
        couple(x);
        people(x, 1, MAN, 0, 1);
        people(x, 1, MAN, NONE, NONE);
        x.due(YES, "grant", 0, 1, 3);
        x.due(0, "die", 0);
        x.due(0, "told", 0, 8);
        x.due(0, "count", 5);
        x.due(121, "count", 7);
        x.due(0, "told", 0, 3);
        x.due(1, "die", 3);
        x.due(99, "told", 3, 8);
    }

    private static void oneWithWidowsPartsOnly() {
        Taped x = begin("one who holds WIDOW's parts only: no HERIOT", 12 * WIDOW, 99 * HERIOT);
        couple(x);
        people(x, 1, MAN, 0, 1);
        x.due(YES, "grant", 0, 12, 0);
        x.due(12, "die", 0);
        x.due(99, "told", 0, 8);
        x.due(12, "die", 1);
        x.due(0, "told", 1, 8);
        x.due(99, "count", 5);
        x.due(12, "told", 2, 6);
    }

    private static void heriotOfEachHolding() {
        Taped x = begin("HOLDING by HOLDING: if n is above 0, HERIOT", 0, 99 * HERIOT);
        people(x, 1, MAN, NONE, NONE);
        for (int holding = 0; holding < 10; holding++) {
            x.due(YES, "grant", holding, 1, 0);
        }
        x.due(10, "die", 0);
        x.due(990, "told", 0, 8);
    }

    private static void partsPassByTheCustomOfNow() {
        Taped x = begin("WIDOW's parts PASS by the CUSTOM of NOW", 2 * ORDER + 12 * WIDOW, 0);
        couple(x);
        people(x, 3, MAN, 0, NONE);
        x.due(YES, "grant", 0, 3, 0);
        x.due(3, "die", 0);
        x.due(3, "told", 1, 7);
        x.due(2, "custom", ORDER, 0);
        x.due(14, "weeks", 2);
        x.due(3, "die", 1);
        holdersDue(x, 0, 14, 4, 4, 4, NONE);
        holdersDue(x, 0, 13, 1, 1, 1, NONE);
    }

    private static void partsPassAsThoseAreAliveNow() {
        Taped x = begin("WIDOW's parts PASS to HEIRS as those are alive NOW", 12 * WIDOW, 0);
        couple(x);
        people(x, 2, MAN, 0, NONE);
        people(x, 1, MAN, NONE, 1);
        x.due(YES, "grant", 0, 2, 0);
        x.due(2, "die", 0);
        x.due(0, "die", 2);
        x.due(2, "die", 1);
        // to the giver's HEIRS, not to her own
        holdersDue(x, 0, 0, 3, 3, NONE);
        x.due(0, "told", 4, 6);

        Taped y = begin("WIDOW's parts PASS to one who came later", 12 * WIDOW, 0);
        couple(y);
        y.due(YES, "grant", 0, 2, 0);
        y.due(2, "die", 0);
        people(y, 1, WOMAN, 0, 1);
        y.due(2, "die", 1);
        holdersDue(y, 0, 0, 2, 2, NONE);
    }

    private static void partsAndOwnStripsInOneHolding() {
        Taped x = begin("of STRIPS held not as a WIDOW's part", 6 * WIDOW, 7 * HERIOT);
        couple(x);
        people(x, 1, MAN, 0, NONE);
        people(x, 1, MAN, NONE, 1);
        x.due(YES, "grant", 0, 4, 0);
        x.due(YES, "grant", 0, 8, 1);
        x.due(4, "die", 0);
        x.due(10, "told", 1, 6);
        x.due(2, "told", 1, 7);
        x.due(10, "die", 1);
        holdersDue(x, 0, 0, 2, 2, 2, 2, 3, 3, 3, 3, 3, 3, 3, 3);
        x.due(7, "told", 0, 8);
        x.due(7, "told", 1, 8);
    }

    private static void partsWithoutHeirs() {
        Taped x = begin("WIDOW's parts without HEIRS: to the LORD", 12 * WIDOW, 0);
        couple(x);
        people(x, 1, MAN, NONE, 1);
        x.due(YES, "grant", 9, 12, 0);
        x.due(12, "die", 0);
        x.due(12, "die", 1);
        x.due(120, "count", 4);
        x.dueEach(new int[] {NONE, 5, 0}, "right", 9, 11, 0, 0);
        x.dueEach(new int[] {1, 3, 0}, "right", 9, 11, 0, 1);
    }

    private static void notMarriedAnyMore() {
        Taped x = begin("who was married to them isn't any more");
        couple(x);
        people(x, 1, MAN, NONE, NONE);
        people(x, 1, WOMAN, NONE, NONE);
        x.refused(NO, "marry", 2, 1);
        x.due(0, "die", 0);
        x.due(NONE, "told", 1, 4);
        x.due(NONE, "told", 0, 4);
        x.due(YES, "marry", 2, 1);
        x.due(NONE, "told", 0, 4);
        x.due(0, "die", 1);
        x.due(NONE, "told", 2, 4);
        x.due(NONE, "told", 1, 4);
        x.due(YES, "marry", 2, 3);
        x.due(3, "told", 2, 4);
    }

    // Marriages, ROD

    private static void marriages() {
        widowMarries();
        widowerMarries();
        bothHoldParts();
        widowWhoIsAnHeirMarries();
        merchetsDebtor();
        entryForEach();
    }

    private static void widowMarries() {
        Taped x = begin("a marriage of one who holds WIDOW's parts", 2 * ORDER + 6 * WIDOW, 0);
        couple(x);
        people(x, 3, MAN, 0, 1);
        people(x, 1, MAN, NONE, NONE);
        x.due(YES, "grant", 0, 11, 0);
        x.due(YES, "grant", 0, 1, 1);
        x.due(YES, "grant", 1, 2, 0);
        x.due(13, "die", 0);
        x.due(7, "told", 1, 6);
        x.due(6, "told", 1, 7);
        x.due(7, "weeks", 1);
        x.due(YES, "marry", 5, 1);
        // 5 by 3: 2, 2, 1; what she holds otherwise stays hers
        holdersDue(x, 0, 7, 2, 2, 3, 3, 4, 2, 2, 3, 3, 4, 4, 1);
        holdersDue(x, 1, 7, 2, 2, NONE);
        x.due(1, "told", 1, 6);
        x.due(0, "told", 1, 7);
        x.dueEach(new int[] {2, 2, 7}, "right", 0, 0, 7, 0);
        x.due(1, "holder", 0, 0, 6);
        x.due(1, "die", 1);
        x.due(0, "told", 5, 6);
    }

    private static void widowerMarries() {
        Taped x = begin("a widower's marriage, without HEIRS", 12 * WIDOW, 0);
        couple(x);
        people(x, 1, WOMAN, NONE, NONE);
        x.due(YES, "grant", 0, 12, 1);
        x.due(12, "die", 1);
        x.due(YES, "marry", 0, 2);
        x.due(120, "count", 4);
        x.due(5, "right", 0, 11, 0, 0, 1);
        x.due(0, "told", 0, 6);
    }

    private static void bothHoldParts() {
        Taped x = begin("both hold WIDOW's parts", 12 * WIDOW, 5);
        couple(x);
        people(x, 1, MAN, NONE, NONE);
        people(x, 1, WOMAN, NONE, NONE);
        x.due(YES, "marry", 2, 3);
        people(x, 1, MAN, 0, 1);
        people(x, 1, MAN, NONE, 3);
        x.due(YES, "grant", 0, 3, 0);
        x.due(YES, "grant", 0, 3, 3);
        x.due(3, "die", 0);
        x.due(3, "die", 3);
        x.due(3, "told", 1, 7);
        x.due(3, "told", 2, 7);
        x.due(10, "count", 5);
        x.due(YES, "marry", 2, 1);
        holdersDue(x, 0, 0, 4, 4, 4, 5, 5, 5, NONE);
        x.due(0, "told", 1, 6);
        x.due(0, "told", 2, 6);
        x.due(15, "count", 5);
    }

    private static void widowWhoIsAnHeirMarries() {
        Taped x = begin("a widow who is among the HEIRS keeps what comes to her", 12 * WIDOW, 0);
        people(x, 1, MAN, NONE, NONE);
        people(x, 1, WOMAN, 0, NONE);
        people(x, 1, MAN, NONE, NONE);
        x.due(YES, "marry", 0, 1);
        x.due(YES, "grant", 0, 2, 0);
        x.due(2, "die", 0);
        x.due(2, "told", 1, 7);
        x.due(YES, "marry", 2, 1);
        x.due(2, "told", 1, 6);
        x.due(0, "told", 1, 7);
        x.due(2, "right", 0, 0, 0, 0, 1);
        x.due(126, "count", 7);
    }

    private static void merchetsDebtor() {
        for (int coins = 0; coins <= 99; coins += 33) {
            Taped x = begin("MERCHET " + coins + " is OWED by the FATHER, if alive, else by her", 0, coins);
            people(x, 5, MAN, NONE, NONE);
            people(x, 2, WOMAN, 0, NONE);
            people(x, 1, WOMAN, NONE, NONE);
            x.due(YES, "marry", 1, 5);
            x.due(coins, "told", 0, 8);
            x.due(0, "told", 5, 8);
            x.due(0, "die", 0);
            x.due(YES, "marry", 2, 6);
            x.due(coins, "told", 6, 8);
            x.due(coins, "told", 0, 8);
            x.due(YES, "marry", 3, 7);
            x.due(coins, "told", 7, 8);
            x.due(3 * coins, "count", 5);
        }
    }

    private static void entryForEach() {
        for (int coins = 0; coins <= 99; coins += 33) {
            Taped x = begin("by ROD, ENTRY " + coins + " for each", 0, coins * ENTRY);
            people(x, 2, MAN, NONE, NONE);
            x.due(YES, "grant", 0, 12, 0);
            x.due(YES, "rod", 0, 1, 0, 1);
            x.due(coins, "told", 1, 8);
            x.due(YES, "rod", 0, 11, 0, 1);
            x.due(12 * coins, "told", 1, 8);
            x.due(0, "told", 0, 8);
            x.due(12, "told", 1, 6);
        }
    }

    // A WEEK

    private static void weeks() {
        worksForEachStrip();
        worksOfEitherKind();
        sickForSomeOfTheWeeks();
        sickWithoutStrips();
        sickAndDead();
        atMostAsManyAsAreDue();
    }

    private static void worksForEachStrip() {
        for (int works = 0; works <= 3; works++) {
            Taped x = begin("due WORKS " + works + " for each STRIP", works * WORKS, 0);
            people(x, 2, MAN, NONE, NONE);
            x.due(0, "weeks", 0);
            x.due(7, "weeks", 1);
            x.due(0, "told", 0, 9);
            for (int holding = 0; holding < 10; holding++) {
                x.due(YES, "grant", holding, 12, 0);
            }
            x.due(7, "weeks", 0);
            x.due(0, "told", 0, 9);
            x.due(14, "weeks", 1);
            x.due(120 * works, "told", 0, 9);
            x.due(434, "weeks", 60);
            x.due(61 * 120 * works, "told", 0, 9);
            x.due(0, "told", 1, 9);
        }
    }

    private static void worksOfEitherKind() {
        Taped x = begin("STRIPS of either kind", 6 * WIDOW + WORKS, 0);
        couple(x);
        x.due(YES, "grant", 0, 4, 0);
        x.due(YES, "grant", 0, 3, 1);
        x.due(4, "die", 0);
        x.due(7, "weeks", 1);
        x.due(5, "told", 1, 9);
        x.due(0, "told", 0, 9);
    }

    private static void sickForSomeOfTheWeeks() {
        for (int sick : new int[] {0, 1, 2, 3, 4, 59, 60}) {
            for (int n : new int[] {0, 1, 2, 3, 4, 59, 60}) {
                Taped x = begin("SICK for " + sick + " of " + n + " WEEKS", 3 * WORKS, 0);
                people(x, 1, MAN, NONE, NONE);
                x.due(YES, "grant", 0, 2, 0);
                x.due(YES, "sick", 0, sick);
                x.due(7 * n, "weeks", n);
                int excused = Math.min(sick, n);
                x.due(6 * excused, "told", 0, 12);
                x.due(6 * (n - excused), "told", 0, 9);
                x.due(sick - excused, "told", 0, 13);
            }
        }
    }

    private static void sickWithoutStrips() {
        Taped x = begin("with STRIPS or without, SICK a WEEK less", 3 * WORKS, 0);
        people(x, 1, MAN, NONE, NONE);
        x.due(YES, "sick", 0, 2);
        x.due(7, "weeks", 1);
        x.due(1, "told", 0, 13);
        x.due(14, "weeks", 1);
        x.due(0, "told", 0, 13);
        x.due(21, "weeks", 1);
        x.due(0, "told", 0, 13);
        x.due(0, "told", 0, 12);
    }

    private static void sickAndDead() {
        Taped x = begin("if alive, SICK a WEEK less", 3 * WORKS, 0);
        people(x, 1, MAN, NONE, NONE);
        x.due(YES, "grant", 0, 1, 0);
        x.due(YES, "sick", 0, 5);
        x.due(7, "weeks", 1);
        x.due(1, "die", 0);
        x.due(21, "weeks", 2);
        x.due(4, "told", 0, 13);
        x.due(3, "told", 0, 12);
        x.due(0, "told", 0, 9);
    }

    private static void atMostAsManyAsAreDue() {
        Taped x = begin("DONE or SOLD, at most as many as are due and neither", WORKS, 0);
        people(x, 1, MAN, NONE, NONE);
        x.due(YES, "grant", 0, 5, 0);
        x.refused(NONE, "works", 0, 1, 0);
        x.due(7, "weeks", 1);
        x.refused(NONE, "works", 0, 6, 0);
        x.refused(NONE, "works", 0, 6, 1);
        x.due(4, "works", 0, 1, 0);
        x.due(3, "works", 0, 1, 1);
        x.refused(NONE, "works", 0, 4, 0);
        x.refused(NONE, "works", 0, 4, 1);
        x.due(0, "works", 0, 3, 1);
        x.refused(NONE, "works", 0, 1, 0);
        x.refused(NONE, "works", 0, 1, 1);
        x.due(4, "told", 0, 8);
    }

    // SUITS, coins

    private static void suits() {
        atMostFortySuits();
        essoinsUsedUp();
        essoinsOfTheCustomOfNow();
        secondDefault();
        pledgeWhoIsDead();
        defendantWhoIsDead();
        oneWhoIsDead();
        judgedAsTold();
        byNumbers();
        paidComesOff();
    }

    private static void atMostFortySuits() {
        Taped x = begin("SUITS have numbers as they come, at most 40");
        people(x, 3, MAN, NONE, NONE);
        x.refused(NONE, "suited", 0, 0);
        for (int s = 0; s < 40; s++) {
            x.due(s, "suit", 0, 1, 2);
        }
        x.refused(NONE, "suit", 0, 1, 2);
        x.due(40, "count", 3);
        for (int s = 0; s < 40; s++) {
            x.due(YES, "appear", s, 2);
        }
        x.due(40, "court");
        x.due(240, "told", 1, 8);
        x.due(0, "court");
        // those that ended are among the forty
        x.refused(NONE, "suit", 0, 1, 2);
        x.due(2, "suited", 39, 0);
        x.refused(NONE, "suited", 40, 0);
    }

    private static void essoinsUsedUp() {
        for (int essoins = 0; essoins <= 3; essoins++) {
            Taped x = begin("ESSOINED fewer times than ESSOINS " + essoins, essoins * ESSOINS, 0);
            people(x, 3, MAN, NONE, NONE);
            x.due(0, "suit", 0, 1, 2);
            for (int times = 1; times <= essoins; times++) {
                x.due(YES, "appear", 0, 1);
                x.due(0, "court");
                x.due(times, "suited", 0, 1);
                x.due(0, "suited", 0, 2);
                x.due(0, "count", 5);
            }
            x.due(YES, "appear", 0, 1);
            x.due(0, "court");
            x.dueEach(new int[] {0, essoins, 1}, "suited", 0);
            x.due(3, "told", 2, 8);
            x.due(YES, "appear", 0, 1);
            x.due(1, "court");
            x.dueEach(new int[] {2, essoins, 2}, "suited", 0);
        }
    }

    private static void essoinsOfTheCustomOfNow() {
        Taped x = begin("ESSOINS of the CUSTOM in force", 3 * ESSOINS, 0);
        people(x, 3, MAN, NONE, NONE);
        x.due(0, "suit", 0, 1, 2);
        for (int times = 1; times <= 2; times++) {
            x.due(YES, "appear", 0, 1);
            x.due(0, "court");
        }
        x.due(2, "custom", ESSOINS, 0);
        x.due(YES, "appear", 0, 1);
        x.due(0, "court");
        x.dueEach(new int[] {0, 2, 1}, "suited", 0);
        x.due(3, "custom", 3 * ESSOINS, 0);
        x.due(YES, "appear", 0, 1);
        x.due(0, "court");
        x.dueEach(new int[] {0, 3, 1}, "suited", 0);
    }

    private static void secondDefault() {
        Taped x = begin("in the second DEFAULT it ends, lost by them");
        people(x, 3, MAN, NONE, NONE);
        x.due(0, "suit", 0, 1, 2);
        x.due(0, "court");
        x.dueEach(new int[] {0, 0, 1}, "suited", 0);
        x.due(3, "told", 2, 8);
        x.due(0, "told", 1, 8);
        x.due(1, "court");
        x.dueEach(new int[] {2, 0, 2}, "suited", 0);
        x.due(6, "told", 2, 8);
        x.due(6, "told", 1, 8);
        x.due(0, "told", 0, 8);
        x.refused(0, "court");
        x.refused(NO, "appear", 0, 0);
    }

    private static void pledgeWhoIsDead() {
        Taped x = begin("3 are OWED by the PLEDGE, if alive, else by them");
        people(x, 3, MAN, NONE, NONE);
        x.due(0, "suit", 0, 1, 2);
        x.due(0, "court");
        x.due(0, "die", 2);
        x.due(1, "court");
        x.due(3, "told", 2, 8);
        x.due(9, "told", 1, 8);
        x.due(12, "count", 5);
    }

    private static void defendantWhoIsDead() {
        for (int what = 0; what <= 3; what++) {
            Taped x = begin("if its defendant isn't alive, it ends, void, with " + what + " told", 3 * ESSOINS, 0);
            people(x, 3, MAN, NONE, NONE);
            x.due(0, "suit", 0, 1, 2);
            x.due(YES, "appear", 0, what);
            x.due(0, "die", 1);
            x.due(0, "suited", 0, 0);
            x.due(1, "court");
            x.dueEach(new int[] {1, 0, 0}, "suited", 0);
            x.due(0, "count", 5);
            x.refused(0, "court");
        }
    }

    private static void oneWhoIsDead() {
        Taped x = begin("a SUIT goes on without the one who brought it");
        people(x, 3, MAN, NONE, NONE);
        x.due(0, "suit", 0, 1, 2);
        x.due(0, "die", 0);
        x.due(0, "court");
        x.due(1, "suited", 0, 2);
        x.due(YES, "appear", 0, 3);
        x.due(1, "court");
        x.due(3, "suited", 0, 0);
        x.due(6, "told", 0, 8);
    }

    private static void judgedAsTold() {
        for (int what = 2; what <= 3; what++) {
            Taped x = begin("if they come, it is judged (as told): " + what);
            people(x, 3, MAN, NONE, NONE);
            x.due(0, "suit", 0, 1, 2);
            x.due(0, "court");
            x.due(YES, "appear", 0, what);
            x.due(1, "court");
            x.dueEach(new int[] {what, 0, 1}, "suited", 0);
            x.due(what == 2 ? 6 : 0, "told", 1, 8);
            x.due(what == 3 ? 6 : 0, "told", 0, 8);
            x.due(3, "told", 2, 8);
        }
    }

    private static void byNumbers() {
        Taped x = begin("each SUIT that is open, by numbers", ESSOINS, 0);
        people(x, 4, MAN, NONE, NONE);
        x.due(0, "suit", 0, 1, 2);
        x.due(1, "suit", 1, 0, 2);
        x.due(2, "suit", 0, 3, 2);
        x.due(3, "suit", 2, 1, 0);
        x.due(0, "die", 3);
        x.due(YES, "appear", 0, 2);
        x.due(YES, "appear", 1, 1);
        x.due(2, "court");
        x.dueEach(new int[] {2, 0, 0}, "suited", 0);
        x.dueEach(new int[] {0, 1, 0}, "suited", 1);
        x.dueEach(new int[] {1, 0, 0}, "suited", 2);
        x.dueEach(new int[] {0, 0, 1}, "suited", 3);
        x.due(6, "told", 1, 8);
        x.due(3, "told", 0, 8);
        x.due(0, "told", 2, 8);
    }

    private static void paidComesOff() {
        Taped x = begin("PAID coins come off what is OWED", 0, 99 * ENTRY);
        people(x, 2, MAN, NONE, NONE);
        x.due(YES, "grant", 0, 1, 0);
        x.due(YES, "rod", 0, 1, 0, 1);
        x.due(98, "pay", 1, 1);
        x.due(98, "count", 5);
        x.due(1, "count", 6);
        x.due(0, "pay", 1, 98);
        x.due(0, "count", 5);
        x.due(99, "count", 6);
    }

    // RIGHTS

    private static void rights() {
        lastOnADayOrAhead();
        moreOnOneDay();
        eachWayItCanCome();
    }

    private static void lastOnADayOrAhead() {
        Taped x = begin("the RIGHT that came last on that DAY or ahead of it");
        people(x, 2, MAN, NONE, NONE);
        x.due(14, "weeks", 2);
        x.due(YES, "grant", 0, 1, 0);
        x.due(28, "weeks", 2);
        x.due(YES, "rod", 0, 1, 0, 1);
        x.due(42, "weeks", 2);
        int[] days = {0, 13, 14, 15, 27, 28, 29, 42};
        int[] holders = {NONE, NONE, 0, 0, 0, 1, 1, 1};
        int[] came = {0, 0, 14, 14, 14, 28, 28, 28};
        for (int i = 0; i < days.length; i++) {
            x.due(holders[i], "holder", 0, 0, days[i]);
            x.due(came[i], "right", 0, 0, days[i], 0, 2);
        }
        x.due(NO_SUCH, "holder", 0, 0, 43);
        x.due(0, "right", 0, 0, 15, 1, 1);
        x.due(NO_SUCH, "right", 0, 0, 15, 2, 1);
        x.due(NO_SUCH, "right", 0, 0, 13, 1, 1);
    }

    private static void moreOnOneDay() {
        Taped x = begin("of more RIGHTS on one DAY the last");
        people(x, 3, MAN, NONE, NONE);
        x.due(7, "weeks", 1);
        x.due(YES, "grant", 0, 1, 0);
        x.due(YES, "rod", 0, 1, 0, 1);
        x.due(YES, "rod", 0, 1, 1, 2);
        x.due(1, "die", 2);
        x.due(YES, "grant", 0, 1, 1);
        x.due(14, "weeks", 1);
        x.due(1, "holder", 0, 0, 7);
        x.due(1, "holder", 0, 0, 14);
        x.due(NONE, "holder", 0, 0, 6);
        int[][] want = {{1, 1, 7}, {NONE, 5, 7}, {2, 4, 7}, {1, 4, 7}, {0, 1, 7}, {NONE, 0, 0}};
        for (int k = 0; k < want.length; k++) {
            x.dueEach(want[k], "right", 0, 0, 7, k);
            x.dueEach(want[k], "right", 0, 0, 14, k);
        }
        x.due(NO_SUCH, "right", 0, 0, 7, want.length, 0);
        x.due(125, "count", 7);
    }

    private static void eachWayItCanCome() {
        Taped x = begin("HOW it came: 0 .. 5", 12 * WIDOW, 0);
        couple(x);
        people(x, 1, MAN, 0, NONE);
        people(x, 1, MAN, NONE, NONE);
        x.due(0, "right", 0, 0, 0, 0, 1);
        x.due(YES, "grant", 0, 1, 0);
        x.due(1, "right", 0, 0, 0, 0, 1);
        x.due(1, "die", 0);
        x.due(3, "right", 0, 0, 0, 0, 1);
        x.due(1, "die", 1);
        x.due(2, "right", 0, 0, 0, 0, 1);
        x.due(YES, "rod", 0, 1, 2, 3);
        x.due(4, "right", 0, 0, 0, 0, 1);
        x.due(1, "die", 3);
        x.due(5, "right", 0, 0, 0, 0, 1);
    }
}
