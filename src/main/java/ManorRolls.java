/** The rolls of a manor's court, as ../shared/DOC.md promises them. */
public final class ManorRolls {
    public static final int NONE = -1;

    private static final int NO_SUCH = -2;
    private static final int LAST_DAY = 40000;
    private static final int DAYS_A_WEEK = 7;
    private static final int MOST_WEEKS = 60;
    private static final int MOST_PERSONS = 60;
    private static final int MOST_SUITS = 40;
    private static final int MOST_HEIRS_TOLD = 40;
    private static final int HOLDINGS = 10;
    private static final int STRIPS = 12;
    private static final int ALL_STRIPS = HOLDINGS * STRIPS;
    private static final int MOST_CALLS = 512;
    // No call brings a strip more than one right, so 512 calls never reach this.
    private static final int MOST_RIGHTS = ALL_STRIPS * (MOST_CALLS + 1);

    private static final int MAN = 0;
    private static final int WOMAN = 1;

    private static final int ELDEST = 0;
    private static final int YOUNGEST = 1;
    private static final int ALL_IN_PARTS = 2;

    private static final int FROM_THE_FIRST = 0;
    private static final int GRANTED = 1;
    private static final int BY_HEIRS = 2;
    private static final int WIDOWS_PART = 3;
    private static final int BY_ROD = 4;
    private static final int BACK_TO_LORD = 5;

    private static final int OPEN = 0;
    private static final int VOID = 1;
    private static final int LOST = 2;
    private static final int WON = 3;

    private static final int NOTHING = 0;
    private static final int ESSOINED = 1;
    private static final int COMES_AND_LOSES = 2;
    private static final int COMES_AND_WINS = 3;

    private static final int COINS_OF_LOSER = 6;
    private static final int COINS_OF_DEFAULT = 3;
    private static final int MOST_DEFAULTS = 2;

    private int now;
    private Custom inForce;
    private int customsFound;
    private final People people;
    private final Land land;
    private final Heirs heirs;
    private final Suit[] suits;
    private int suitsBrought;
    private int coinsPaid;

    public ManorRolls() {
        now = 0;
        inForce = new Custom(0, 0);
        customsFound = 0;
        people = new People();
        land = new Land();
        heirs = new Heirs(people);
        suits = new Suit[MOST_SUITS];
        suitsBrought = 0;
        coinsPaid = 0;
    }

    public int custom(int what, int dues) {
        if (!Custom.canBe(what, dues)) {
            return NONE;
        }
        inForce = new Custom(what, dues);
        customsFound++;
        return customsFound;
    }

    public int person(int sex, int father, int mother) {
        if (sex != MAN && sex != WOMAN || people.came >= MOST_PERSONS) {
            return NONE;
        }
        if (!people.mayBeParent(father, MAN) || !people.mayBeParent(mother, WOMAN)) {
            return NONE;
        }
        return people.add(new Person(sex, father, mother, now));
    }

    public boolean marry(int man, int woman) {
        Person groom = people.findAlive(man);
        Person bride = people.findAlive(woman);
        if (groom == null || bride == null || groom.sex != MAN || bride.sex != WOMAN) {
            return false;
        }
        if (groom.marriedTo != NONE || bride.marriedTo != NONE) {
            return false;
        }
        passWidowsParts(man);
        passWidowsParts(woman);
        groom.marriedTo = woman;
        bride.marriedTo = man;
        oweMerchet(bride);
        return true;
    }

    public int die(int person) {
        Person dead = people.findAlive(person);
        if (dead == null) {
            return NONE;
        }
        dead.alive = false;
        int passed = passOwnStrips(person, dead) + passWidowsParts(person);
        Person left = people.find(dead.marriedTo);
        if (left != null) {
            left.marriedTo = NONE;
        }
        dead.marriedTo = NONE;
        return passed;
    }

    public boolean grant(int holding, int n, int person) {
        if (!isHolding(holding) || people.findAlive(person) == null) {
            return false;
        }
        land.pick(holding, NONE, false);
        if (n < 1 || n > land.pickedCount) {
            return false;
        }
        land.bringPicked(0, n, person, GRANTED, now);
        return true;
    }

    public boolean rod(int holding, int n, int from, int to) {
        Person taker = people.findAlive(to);
        if (!isHolding(holding) || people.findAlive(from) == null || taker == null || from == to) {
            return false;
        }
        land.pick(holding, from, false);
        if (n < 1 || n > land.pickedCount) {
            return false;
        }
        land.bringPicked(0, n, to, BY_ROD, now);
        taker.owed += n * inForce.entry;
        return true;
    }

    public int weeks(int n) {
        if (n < 0 || n > MOST_WEEKS || now + n * DAYS_A_WEEK > LAST_DAY) {
            return NONE;
        }
        for (int p = 0; p < people.came; p++) {
            Person one = people.find(p);
            if (one != null) {
                one.spendWeeks(n, land.heldBy(p) * inForce.works);
            }
        }
        now += n * DAYS_A_WEEK;
        return now;
    }

    public boolean sick(int person, int weeks) {
        Person one = people.findAlive(person);
        if (one == null || weeks < 0 || weeks > MOST_WEEKS) {
            return false;
        }
        one.weeksSick = weeks;
        return true;
    }

    public int works(int person, int n, boolean sold) {
        Person one = people.find(person);
        if (one == null || n < 1 || n > one.worksDue) {
            return NONE;
        }
        one.worksDue -= n;
        if (sold) {
            one.worksSold += n;
            one.owed += n;
        } else {
            one.worksDone += n;
        }
        return one.worksDue;
    }

    public int pay(int person, int n) {
        Person one = people.find(person);
        if (one == null || n < 1 || n > one.owed) {
            return NONE;
        }
        one.owed -= n;
        coinsPaid += n;
        return one.owed;
    }

    public int suit(int one, int against, int pledge) {
        if (people.findAlive(one) == null || people.findAlive(against) == null
                || people.findAlive(pledge) == null) {
            return NONE;
        }
        if (one == against || one == pledge || against == pledge || suitsBrought >= MOST_SUITS) {
            return NONE;
        }
        int number = suitsBrought;
        suits[number] = new Suit(one, against, pledge);
        suitsBrought++;
        return number;
    }

    public boolean appear(int suit, int what) {
        Suit brought = findSuit(suit);
        if (brought == null || brought.state != OPEN || what < NOTHING || what > COMES_AND_WINS) {
            return false;
        }
        brought.next = what;
        return true;
    }

    public int court() {
        int ended = 0;
        for (int s = 0; s < suitsBrought; s++) {
            Suit heard = findSuit(s);
            if (heard != null && heard.state == OPEN) {
                hear(heard);
                heard.next = NOTHING;
                ended += heard.state == OPEN ? 0 : 1;
            }
        }
        return ended;
    }

    public int holder(int holding, int strip, int day) {
        return right(holding, strip, day, 0, 0);
    }

    public int right(int holding, int strip, int day, int k, int what) {
        if (!isHolding(holding) || strip < 0 || strip >= STRIPS || day < 0 || day > now || k < 0) {
            return NO_SUCH;
        }
        Right sought = Land.stepsAhead(land.onDay(holding * STRIPS + strip, day), k);
        if (sought == null) {
            return NO_SUCH;
        }
        switch (what) {
            case 0: return sought.holder;
            case 1: return sought.how;
            case 2: return sought.day;
            default: return NO_SUCH;
        }
    }

    public int heir(int person, int i) {
        if (people.find(person) == null || i < 0 || i >= MOST_HEIRS_TOLD) {
            return NONE;
        }
        heirs.list(person, inForce.order);
        return i < heirs.listed ? heirs.list[i] : NONE;
    }

    public int told(int person, int what) {
        Person one = people.find(person);
        if (one == null) {
            return NO_SUCH;
        }
        switch (what) {
            case 0: return one.sex;
            case 1: return one.father;
            case 2: return one.mother;
            case 3: return one.alive ? 1 : 0;
            case 4: return one.marriedTo;
            case 5: return one.born;
            case 6: return land.heldBy(person);
            case 7: return land.partsOf(person);
            case 8: return one.owed;
            case 9: return one.worksDue;
            case 10: return one.worksDone;
            case 11: return one.worksSold;
            case 12: return one.worksExcused;
            case 13: return one.weeksSick;
            default: return NO_SUCH;
        }
    }

    public int suited(int suit, int what) {
        Suit brought = findSuit(suit);
        if (brought == null) {
            return NONE;
        }
        switch (what) {
            case 0: return brought.state;
            case 1: return brought.essoins;
            case 2: return brought.defaults;
            default: return NONE;
        }
    }

    public int count(int what) {
        switch (what) {
            case 0: return now;
            case 1: return people.came;
            case 2: return customsFound;
            case 3: return suitsBrought;
            case 4: return land.heldBy(NONE);
            case 5: return people.allOwed();
            case 6: return coinsPaid;
            case 7: return land.rights;
            default: return NONE;
        }
    }

    private static boolean isHolding(int holding) {
        return holding >= 0 && holding < HOLDINGS;
    }

    private Suit findSuit(int number) {
        return number >= 0 && number < suitsBrought && number < suits.length ? suits[number] : null;
    }

    private void oweMerchet(Person bride) {
        Person father = people.findAlive(bride.father);
        Person debtor = father == null ? bride : father;
        debtor.owed += inForce.merchet;
    }

    private int passOwnStrips(int person, Person dead) {
        int passed = 0;
        for (int holding = 0; holding < HOLDINGS; holding++) {
            land.pick(holding, person, false);
            int n = land.pickedCount;
            if (n > 0) {
                int part = dead.marriedTo == NONE ? 0 : n * inForce.widow / STRIPS;
                land.bringPicked(0, part, dead.marriedTo, WIDOWS_PART, now);
                passPicked(part, person);
                dead.owed += inForce.heriot;
                passed += n;
            }
        }
        return passed;
    }

    private int passWidowsParts(int person) {
        int passed = 0;
        for (int holding = 0; holding < HOLDINGS; holding++) {
            land.pick(holding, person, true);
            if (land.pickedCount > 0) {
                // Another marriage ends all parts, so those of one holder come from one giver.
                passPicked(0, land.giverOf(land.picked[0]));
                passed += land.pickedCount;
            }
        }
        return passed;
    }

    /** Passes the picked strips behind the first ones to a person's heirs. */
    private void passPicked(int first, int person) {
        heirs.share(person, inForce.order, land.pickedCount - first);
        for (int i = first; i < land.pickedCount; i++) {
            int taker = heirs.takerOf(i - first);
            land.bringPicked(i, i + 1, taker, taker == NONE ? BACK_TO_LORD : BY_HEIRS, now);
        }
    }

    private void hear(Suit heard) {
        Person defendant = people.findAlive(heard.against);
        if (defendant == null) {
            heard.state = VOID;
        } else if (heard.next == COMES_AND_LOSES) {
            heard.state = LOST;
            defendant.owed += COINS_OF_LOSER;
        } else if (heard.next == COMES_AND_WINS) {
            heard.state = WON;
            people.owe(heard.one, COINS_OF_LOSER);
        } else if (heard.next == ESSOINED && heard.essoins < inForce.essoins) {
            heard.essoins++;
        } else {
            defaultIn(heard, defendant);
        }
    }

    private void defaultIn(Suit heard, Person defendant) {
        Person pledge = people.findAlive(heard.pledge);
        Person debtor = pledge == null ? defendant : pledge;
        debtor.owed += COINS_OF_DEFAULT;
        heard.defaults++;
        if (heard.defaults >= MOST_DEFAULTS) {
            heard.state = LOST;
            defendant.owed += COINS_OF_LOSER;
        }
    }

    private static final class Custom {
        final int order;
        final int widow;
        final int works;
        final int essoins;
        final int heriot;
        final int entry;
        final int merchet;

        Custom(int what, int dues) {
            order = what / 100000;
            widow = what / 1000 % 100;
            works = what / 100 % 10;
            essoins = what / 10 % 10;
            heriot = dues / 10000;
            entry = dues / 100 % 100;
            merchet = dues % 100;
        }

        static boolean canBe(int what, int dues) {
            if (what < 0 || what % 10 != 0 || dues < 0 || dues > 999999) {
                return false;
            }
            Custom read = new Custom(what, dues);
            return read.order <= ALL_IN_PARTS && read.widow <= STRIPS
                    && read.works <= 3 && read.essoins <= 3;
        }
    }

    private static final class Person {
        final int sex;
        final int father;
        final int mother;
        final int born;
        boolean alive;
        int marriedTo;
        int owed;
        int worksDue;
        int worksDone;
        int worksSold;
        int worksExcused;
        int weeksSick;
        // Bit c stands for the child with number c.
        long sons;
        long daughters;

        Person(int sex, int father, int mother, int born) {
            this.sex = sex;
            this.father = father;
            this.mother = mother;
            this.born = born;
            this.alive = true;
            this.marriedTo = NONE;
        }

        void addChild(int number, int childSex) {
            if (childSex == MAN) {
                sons |= 1L << number;
            } else {
                daughters |= 1L << number;
            }
        }

        void spendWeeks(int n, int worksAWeek) {
            int sickOfThem = Math.min(n, weeksSick);
            worksExcused += sickOfThem * worksAWeek;
            worksDue += (n - sickOfThem) * worksAWeek;
            if (alive) {
                weeksSick -= sickOfThem;
            }
        }
    }

    private static final class People {
        final Person[] all = new Person[MOST_PERSONS];
        int came;

        Person find(int number) {
            return number >= 0 && number < came && number < all.length ? all[number] : null;
        }

        Person findAlive(int number) {
            Person found = find(number);
            return found != null && found.alive ? found : null;
        }

        boolean mayBeParent(int number, int sex) {
            Person found = find(number);
            return number == NONE || found != null && found.sex == sex;
        }

        int add(Person comer) {
            int number = came;
            if (number < 0 || number >= all.length) {
                return NONE;
            }
            all[number] = comer;
            came++;
            addChildTo(comer.father, number, comer.sex);
            addChildTo(comer.mother, number, comer.sex);
            return number;
        }

        private void addChildTo(int parent, int number, int sex) {
            Person found = find(parent);
            if (found != null) {
                found.addChild(number, sex);
            }
        }

        void owe(int number, int coins) {
            Person found = find(number);
            if (found != null) {
                found.owed += coins;
            }
        }

        int allOwed() {
            int sum = 0;
            for (int p = 0; p < came; p++) {
                Person found = find(p);
                sum += found == null ? 0 : found.owed;
            }
            return sum;
        }
    }

    /** Heirs of a person; in a line, bit p stands for the person with number p. */
    private static final class Heirs {
        final int[] list = new int[MOST_HEIRS_TOLD];
        int listed;
        private final int[] takers = new int[STRIPS];
        private final People people;
        private int order;
        private long living;
        private long lasting;

        Heirs(People people) {
            this.people = people;
        }

        /** Lists the heirs in order, as if the person weren't alive. */
        void list(int person, int byOrder) {
            look(person, byOrder);
            listed = 0;
            listLine(firstLine(person), 0);
        }

        /** Says for each of n strips which heir takes it, or NONE. */
        void share(int person, int byOrder, int n) {
            look(person, byOrder);
            for (int i = 0; i < takers.length; i++) {
                takers[i] = NONE;
            }
            shareLine(firstLine(person), 0, Math.min(n, takers.length), 0);
        }

        /** Who takes one of the strips that were shared last, or NONE. */
        int takerOf(int strip) {
            return strip >= 0 && strip < takers.length ? takers[strip] : NONE;
        }

        /** Notes who lives, and who lasts: is alive, or has someone alive below them. */
        private void look(int person, int byOrder) {
            order = byOrder;
            living = 0;
            lasting = 0;
            // Children have higher numbers than their parents, so they are looked at first.
            for (int p = people.came - 1; p >= 0; p--) {
                Person one = people.find(p);
                if (one == null) {
                    continue;
                }
                boolean lives = one.alive && p != person;
                living |= lives ? 1L << p : 0;
                lasting |= lives || ((one.sons | one.daughters) & lasting) != 0 ? 1L << p : 0;
            }
        }

        private long firstLine(int person) {
            long own = lineBelow(person, 0);
            Person one = people.find(person);
            if (own != 0 || one == null) {
                return own;
            }
            return lineBelow(one.father, 1L << person);
        }

        /** The children, but for some, among whom a parent's part is shared. */
        private long lineBelow(int parent, long butFor) {
            Person found = people.find(parent);
            if (found == null) {
                return 0;
            }
            long sons = found.sons & lasting & ~butFor;
            if (sons == 0) {
                return found.daughters & lasting & ~butFor;
            }
            if (order == ELDEST) {
                return sons & -sons;
            }
            return order == YOUNGEST ? youngestOf(sons) : sons;
        }

        private static long youngestOf(long line) {
            for (long bit = 1L << MOST_PERSONS - 1; bit > 0; bit >>= 1) {
                if ((line & bit) != 0) {
                    return bit;
                }
            }
            return 0;
        }

        private static boolean isIn(long line, int person) {
            return (line >> person & 1) != 0;
        }

        private void listLine(long line, int depth) {
            if (depth > MOST_PERSONS) {
                return;
            }
            for (int p = 0; p < people.came && listed < list.length; p++) {
                if (!isIn(line, p)) {
                    continue;
                }
                if (isIn(living, p)) {
                    list[listed] = p;
                    listed++;
                } else {
                    listLine(lineBelow(p, 0), depth + 1);
                }
            }
        }

        private void shareLine(long line, int from, int n, int depth) {
            int sharers = Long.bitCount(line);
            if (sharers == 0 || depth > MOST_PERSONS) {
                return;
            }
            int each = n / sharers;
            int withOneMore = n % sharers;
            int at = from;
            int served = 0;
            for (int p = 0; p < people.came; p++) {
                if (!isIn(line, p)) {
                    continue;
                }
                int part = each + (served < withOneMore ? 1 : 0);
                served++;
                // Lines may meet again below, so a way without strips is not gone: there can be very many.
                if (part > 0 && isIn(living, p)) {
                    give(p, at, part);
                } else if (part > 0) {
                    shareLine(lineBelow(p, 0), at, part, depth + 1);
                }
                at += part;
            }
        }

        private void give(int person, int from, int n) {
            for (int i = Math.max(from, 0); i < from + n && i < takers.length; i++) {
                takers[i] = person;
            }
        }
    }

    private static final class Right {
        final int holder;
        final int how;
        final int day;
        final Right ahead;

        Right(int holder, int how, int day, Right ahead) {
            this.holder = holder;
            this.how = how;
            this.day = day;
            this.ahead = ahead;
        }
    }

    /** The strips of all holdings, strip s of holding h at h * STRIPS + s, each with its newest right. */
    private static final class Land {
        final Right[] newest = new Right[ALL_STRIPS];
        int rights = ALL_STRIPS;
        final int[] picked = new int[STRIPS];
        int pickedCount;

        Land() {
            // Rights never change, so all strips can begin with the same one.
            Right first = new Right(NONE, FROM_THE_FIRST, 0, null);
            for (int i = 0; i < ALL_STRIPS; i++) {
                newest[i] = first;
            }
        }

        /** Picks the strips of a holding that one holds: either the widow's parts or the others. */
        void pick(int holding, int holder, boolean parts) {
            pickedCount = 0;
            for (int s = 0; s < STRIPS && pickedCount < picked.length; s++) {
                int place = holding * STRIPS + s;
                Right held = find(place);
                if (held != null && held.holder == holder && (held.how == WIDOWS_PART) == parts) {
                    picked[pickedCount] = place;
                    pickedCount++;
                }
            }
        }

        /** Brings the picked strips from one (with it) to another (without it) to a holder. */
        void bringPicked(int from, int to, int holder, int how, int day) {
            for (int i = Math.max(from, 0); i < to && i < pickedCount && i < picked.length; i++) {
                int place = picked[i];
                Right ahead = find(place);
                if (ahead != null && rights < MOST_RIGHTS) {
                    newest[place] = new Right(holder, how, day, ahead);
                    rights++;
                }
            }
        }

        int giverOf(int place) {
            Right held = find(place);
            return held == null || held.ahead == null ? NONE : held.ahead.holder;
        }

        Right onDay(int place, int day) {
            Right found = find(place);
            while (found != null && found.day > day) {
                found = found.ahead;
            }
            return found;
        }

        static Right stepsAhead(Right right, int k) {
            Right found = right;
            for (int i = 0; i < k && found != null; i++) {
                found = found.ahead;
            }
            return found;
        }

        int heldBy(int holder) {
            int held = 0;
            for (int i = 0; i < ALL_STRIPS; i++) {
                Right right = find(i);
                held += right != null && right.holder == holder ? 1 : 0;
            }
            return held;
        }

        int partsOf(int holder) {
            int parts = 0;
            for (int i = 0; i < ALL_STRIPS; i++) {
                Right right = find(i);
                parts += right != null && right.holder == holder && right.how == WIDOWS_PART ? 1 : 0;
            }
            return parts;
        }

        private Right find(int place) {
            return place >= 0 && place < newest.length ? newest[place] : null;
        }
    }

    private static final class Suit {
        final int one;
        final int against;
        final int pledge;
        int state;
        int next;
        int essoins;
        int defaults;

        Suit(int one, int against, int pledge) {
            this.one = one;
            this.against = against;
            this.pledge = pledge;
            this.state = OPEN;
            this.next = NOTHING;
        }
    }
}
