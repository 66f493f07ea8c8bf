import java.util.ArrayList;
import java.util.List;
import java.util.Random;

/** Long runs of mixed calls; each answer is held against a slow model that follows the document's words. */
public final class ModelTest {
    private static final int NONE = -1;
    private static final int RUNS = 1500;
    private static final int FULL_LOOKS = 40;
    // A look is taken on objects with the same calls; of the 512 of each there must be enough left for it.
    private static final int LAST_LOOK = 400;
    private static final Check check = new Check();

    public static void main(String[] args) {
        for (int seed = 1; seed <= RUNS && check.wrong() < 20; seed++) {
            new Run(seed).go();
        }
        check.end();
    }

    private static final class Run {
        final Random random;
        final Taped real = new Taped(check);
        final Model model = new Model();
        final int persons;
        final boolean closeKin;

        Run(int seed) {
            random = new Random(seed);
            persons = 4 + random.nextInt(57);
            closeKin = seed % 3 == 0;
            check.begin("run " + seed);
        }

        void go() {
            while (real.made() < Taped.MOST_CALLS && check.wrong() < 20) {
                call();
                if (real.made() % FULL_LOOKS == 0 && real.made() <= LAST_LOOK) {
                    lookAtAll();
                }
            }
        }

        int below(int bound) {
            return random.nextInt(bound);
        }

        /** Most often a number in a range, else one near its ends or a wild one. */
        int about(int first, int last) {
            int kind = below(40);
            if (kind == 0) {
                return first - 1 - below(2);
            }
            if (kind == 1) {
                return last + 1 + below(2);
            }
            if (kind == 2) {
                return random.nextInt();
            }
            return first + below(Math.max(1, last - first + 1));
        }

        int anyone() {
            return about(0, model.people.size() - 1);
        }

        /** One of a sex, where a few tries find one. */
        int someone(int sex) {
            for (int i = 0; i < 12; i++) {
                int p = anyone();
                if (p >= 0 && p < model.people.size() && model.people.get(p).sex == sex) {
                    return p;
                }
            }
            return anyone();
        }

        int parent(int sex) {
            int known = model.people.size();
            if (known == 0 || below(4) == 0) {
                return NONE;
            }
            return closeKin ? about(Math.max(0, known - 6), known - 1) : someone(sex);
        }

        int someCustom() {
            if (below(12) == 0) {
                return random.nextInt(400000);
            }
            return below(3) * 100000 + below(13) * 1000 + below(4) * 100 + below(4) * 10;
        }

        void call() {
            int kind = below(100);
            if (kind < 16 && model.people.size() < persons || model.people.isEmpty()) {
                int sex = about(0, 1);
                int father = parent(0);
                int mother = parent(1);
                real.due(model.person(sex, father, mother), "person", sex, father, mother);
            } else if (kind < 20) {
                int what = someCustom();
                int dues = below(12) == 0 ? random.nextInt() : below(1000000);
                real.due(model.custom(what, dues), "custom", what, dues);
            } else if (kind < 27) {
                int man = someone(0);
                int woman = someone(1);
                real.due(asInt(model.marry(man, woman)), "marry", man, woman);
            } else if (kind < 34) {
                int person = anyone();
                real.due(model.die(person), "die", person);
            } else if (kind < 44) {
                int holding = about(0, 9);
                int n = about(1, 12);
                int person = anyone();
                real.due(asInt(model.grant(holding, n, person)), "grant", holding, n, person);
            } else if (kind < 54) {
                callRod();
            } else if (kind < 62) {
                int n = below(6) == 0 ? about(0, 60) : about(0, 5);
                real.due(model.weeks(n), "weeks", n);
            } else {
                callMore(kind);
            }
        }

        void callRod() {
            int holding = about(0, 9);
            int n = about(1, 4);
            int from = anyone();
            int to = anyone();
            for (int i = 0; i < 10 && model.own(holding, from).isEmpty(); i++) {
                holding = about(0, 9);
                from = anyone();
            }
            real.due(asInt(model.rod(holding, n, from, to)), "rod", holding, n, from, to);
        }

        void callMore(int kind) {
            int person = anyone();
            if (kind < 66) {
                int n = about(0, 60);
                real.due(asInt(model.sick(person, n)), "sick", person, n);
            } else if (kind < 71) {
                int n = about(1, Math.max(1, model.told(person, 9)));
                boolean sold = random.nextBoolean();
                real.due(model.works(person, n, sold), "works", person, n, asInt(sold));
            } else if (kind < 75) {
                int n = about(1, Math.max(1, model.told(person, 8)));
                real.due(model.pay(person, n), "pay", person, n);
            } else if (kind < 79) {
                int against = anyone();
                int pledge = anyone();
                real.due(model.suit(person, against, pledge), "suit", person, against, pledge);
            } else if (kind < 84) {
                int suit = about(0, model.suits.size() - 1);
                int what = about(0, 3);
                real.due(asInt(model.appear(suit, what)), "appear", suit, what);
            } else if (kind < 87) {
                real.due(model.court(), "court");
            } else {
                ask(kind, person);
            }
        }

        void ask(int kind, int person) {
            int holding = about(0, 9);
            int strip = about(0, 11);
            int day = below(2) == 0 ? model.now : about(0, model.now);
            if (kind < 89) {
                real.due(model.holder(holding, strip, day), "holder", holding, strip, day);
            } else if (kind < 92) {
                int k = about(0, 4);
                int what = about(0, 2);
                real.due(model.right(holding, strip, day, k, what), "right", holding, strip, day, k, what);
            } else if (kind < 95) {
                int i = below(3) == 0 ? about(0, 39) : about(0, 3);
                real.due(model.heir(person, i), "heir", person, i);
            } else if (kind < 97) {
                int what = about(0, 13);
                real.due(model.told(person, what), "told", person, what);
            } else if (kind < 99) {
                int suit = about(0, model.suits.size() - 1);
                int what = about(0, 2);
                real.due(model.suited(suit, what), "suited", suit, what);
            } else {
                int what = about(0, 7);
                real.due(model.count(what), "count", what);
            }
        }

        void lookAtAll() {
            Asked asked = new Asked();
            for (int what = -1; what <= 8; what++) {
                asked.add(model.count(what), "count", what);
            }
            for (int p = -1; p <= model.people.size(); p++) {
                for (int what = -1; what <= 14; what++) {
                    asked.add(model.told(p, what), "told", p, what);
                }
                for (int i = -1; i <= 6; i++) {
                    asked.add(model.heir(p, i), "heir", p, i);
                }
            }
            for (int s = -1; s <= model.suits.size(); s++) {
                for (int what = -1; what <= 3; what++) {
                    asked.add(model.suited(s, what), "suited", s, what);
                }
            }
            lookAtStrips(asked);
            real.dueAll(asked.wants, asked.calls);
        }

        void lookAtStrips(Asked asked) {
            int now = model.now;
            for (int holding = 0; holding < 10; holding++) {
                for (int strip = 0; strip < 12; strip++) {
                    for (int k = 0; k < 4; k++) {
                        for (int what = 0; what < 3; what++) {
                            asked.add(model.right(holding, strip, now, k, what), "right", holding, strip, now, k, what);
                        }
                    }
                }
            }
        }

        static int asInt(boolean answer) {
            return answer ? 1 : 0;
        }
    }

    /** Calls, each with the answer that is due. */
    private static final class Asked {
        final List<Call> calls = new ArrayList<>();
        final List<Integer> wants = new ArrayList<>();

        void add(int want, String name, int... args) {
            calls.add(new Call(name, args));
            wants.add(want);
        }
    }

    private static final class Body {
        int number;
        int sex;
        int father;
        int mother;
        int born;
        boolean alive = true;
        int spouse = NONE;
        int owed;
        int due;
        int done;
        int sold;
        int excused;
        int sick;
    }

    private static final class Plea {
        int one;
        int against;
        int pledge;
        int ended;
        int essoins;
        int defaults;
        int next;
    }

    /** The document, word by word, without a thought of speed. */
    private static final class Model {
        final List<Body> people = new ArrayList<>();
        final List<Plea> suits = new ArrayList<>();
        final List<List<int[]>> rolls = new ArrayList<>();
        final int[] holders = new int[120];
        final int[] partFrom = new int[120];
        int order;
        int widow;
        int heriot;
        int entry;
        int merchet;
        int works;
        int essoins;
        int customs;
        int now;
        int paid;

        Model() {
            for (int place = 0; place < 120; place++) {
                List<int[]> roll = new ArrayList<>();
                roll.add(new int[] {NONE, 0, 0});
                rolls.add(roll);
                holders[place] = NONE;
                partFrom[place] = NONE;
            }
        }

        Body body(int p) {
            return p < 0 || p >= people.size() ? null : people.get(p);
        }

        boolean lives(int p) {
            return body(p) != null && body(p).alive;
        }

        int custom(int what, int dues) {
            for (int o = 0; o <= 2; o++) {
                for (int w = 0; w <= 12; w++) {
                    for (int k = 0; k <= 3; k++) {
                        for (int e = 0; e <= 3; e++) {
                            if (o * 100000 + w * 1000 + k * 100 + e * 10 == what && dues >= 0 && dues < 1000000) {
                                order = o;
                                widow = w;
                                works = k;
                                essoins = e;
                                heriot = dues / 10000;
                                entry = (dues - heriot * 10000) / 100;
                                merchet = dues - heriot * 10000 - entry * 100;
                                return ++customs;
                            }
                        }
                    }
                }
            }
            return NONE;
        }

        int person(int sex, int father, int mother) {
            boolean fatherFits = father == NONE || body(father) != null && body(father).sex == 0;
            boolean motherFits = mother == NONE || body(mother) != null && body(mother).sex == 1;
            if (sex < 0 || sex > 1 || !fatherFits || !motherFits || people.size() == 60) {
                return NONE;
            }
            Body comer = new Body();
            comer.number = people.size();
            comer.sex = sex;
            comer.father = father;
            comer.mother = mother;
            comer.born = now;
            people.add(comer);
            return comer.number;
        }

        boolean marry(int man, int woman) {
            if (!lives(man) || !lives(woman) || body(man).spouse != NONE || body(woman).spouse != NONE) {
                return false;
            }
            if (body(man).sex != 0 || body(woman).sex != 1) {
                return false;
            }
            endParts(man);
            endParts(woman);
            int father = body(woman).father;
            body(lives(father) ? father : woman).owed += merchet;
            body(man).spouse = woman;
            body(woman).spouse = man;
            return true;
        }

        int die(int person) {
            if (!lives(person)) {
                return NONE;
            }
            int before = told(person, 6);
            Body dead = body(person);
            dead.alive = false;
            for (int holding = 0; holding < 10; holding++) {
                List<Integer> strips = own(holding, person);
                int part = dead.spouse == NONE ? 0 : strips.size() * widow / 12;
                for (int place : strips.subList(0, part)) {
                    enter(place, dead.spouse, 3);
                    partFrom[place] = person;
                }
                passTo(firstLine(person, person), strips.subList(part, strips.size()), person);
                dead.owed += strips.isEmpty() ? 0 : heriot;
            }
            endParts(person);
            if (dead.spouse != NONE) {
                body(dead.spouse).spouse = NONE;
                dead.spouse = NONE;
            }
            return before;
        }

        List<Integer> own(int holding, int person) {
            return strips(holding, person, false);
        }

        List<Integer> strips(int holding, int person, boolean parts) {
            List<Integer> found = new ArrayList<>();
            for (int place = 0; place < 120; place++) {
                if (place / 12 == holding && holders[place] == person && (partFrom[place] != NONE) == parts) {
                    found.add(place);
                }
            }
            return found;
        }

        void endParts(int person) {
            for (int holding = 0; holding < 10; holding++) {
                for (Body giver : people) {
                    List<Integer> from = new ArrayList<>();
                    for (int place : strips(holding, person, true)) {
                        if (partFrom[place] == giver.number) {
                            from.add(place);
                        }
                    }
                    passTo(firstLine(giver.number, giver.number), from, giver.number);
                }
            }
        }

        void enter(int place, int person, int how) {
            rolls.get(place).add(new int[] {person, how, now});
            holders[place] = person;
            partFrom[place] = NONE;
        }

        void passTo(List<Body> line, List<Integer> strips, int dead) {
            if (strips.isEmpty()) {
                return;
            }
            if (line.isEmpty()) {
                for (int place : strips) {
                    enter(place, NONE, 5);
                }
                return;
            }
            List<List<Integer>> parts = new ArrayList<>();
            int[] sizes = new int[line.size()];
            for (int i = 0; i < strips.size(); i++) {
                sizes[i % line.size()]++;
            }
            int at = 0;
            for (int size : sizes) {
                parts.add(strips.subList(at, at + size));
                at += size;
            }
            for (int i = 0; i < line.size(); i++) {
                Body heir = line.get(i);
                if (heir.alive && heir.number != dead) {
                    for (int place : parts.get(i)) {
                        enter(place, heir.number, 2);
                    }
                } else {
                    passTo(lineOf(heir.number, NONE, dead), parts.get(i), dead);
                }
            }
        }

        boolean lasts(Body one, int dead) {
            if (one.alive && one.number != dead) {
                return true;
            }
            for (Body child : people) {
                if ((child.father == one.number || child.mother == one.number) && lasts(child, dead)) {
                    return true;
                }
            }
            return false;
        }

        List<Body> children(int parent, int sex, int butFor, int dead) {
            List<Body> found = new ArrayList<>();
            for (Body child : people) {
                boolean theirs = child.father == parent || child.mother == parent;
                if (theirs && child.sex == sex && child.number != butFor && lasts(child, dead)) {
                    found.add(child);
                }
            }
            return found;
        }

        List<Body> lineOf(int parent, int butFor, int dead) {
            if (parent == NONE) {
                return new ArrayList<>();
            }
            List<Body> sons = children(parent, 0, butFor, dead);
            if (sons.isEmpty()) {
                return children(parent, 1, butFor, dead);
            }
            if (order == 2) {
                return sons;
            }
            List<Body> single = new ArrayList<>();
            single.add(sons.get(order == 0 ? 0 : sons.size() - 1));
            return single;
        }

        List<Body> firstLine(int person, int dead) {
            List<Body> line = lineOf(person, NONE, dead);
            return line.isEmpty() ? lineOf(body(person).father, person, dead) : line;
        }

        void listHeirs(List<Body> line, int dead, List<Integer> found) {
            for (Body one : line) {
                if (one.alive && one.number != dead) {
                    found.add(one.number);
                } else {
                    listHeirs(lineOf(one.number, NONE, dead), dead, found);
                }
            }
        }

        int heir(int person, int i) {
            if (body(person) == null || i < 0 || i > 39) {
                return NONE;
            }
            List<Integer> found = new ArrayList<>();
            listHeirs(firstLine(person, person), person, found);
            return i < found.size() ? found.get(i) : NONE;
        }

        boolean grant(int holding, int n, int person) {
            List<Integer> free = own(holding, NONE);
            if (holding < 0 || holding > 9 || !lives(person) || n < 1 || n > free.size()) {
                return false;
            }
            for (int place : free.subList(0, n)) {
                enter(place, person, 1);
            }
            return true;
        }

        boolean rod(int holding, int n, int from, int to) {
            if (holding < 0 || holding > 9 || !lives(from) || !lives(to) || from == to) {
                return false;
            }
            List<Integer> owned = own(holding, from);
            if (n < 1 || n > owned.size()) {
                return false;
            }
            for (int place : owned.subList(0, n)) {
                enter(place, to, 4);
                body(to).owed += entry;
            }
            return true;
        }

        int weeks(int n) {
            if (n < 0 || n > 60 || now + 7 * n > 40000) {
                return NONE;
            }
            for (int week = 0; week < n; week++) {
                for (Body one : people) {
                    int load = told(one.number, 6) * works;
                    if (one.sick > 0) {
                        one.excused += load;
                    } else {
                        one.due += load;
                    }
                    if (one.sick > 0 && one.alive) {
                        one.sick--;
                    }
                }
                now += 7;
            }
            return now;
        }

        boolean sick(int person, int weeks) {
            if (!lives(person) || weeks < 0 || weeks > 60) {
                return false;
            }
            body(person).sick = weeks;
            return true;
        }

        int works(int person, int n, boolean isSold) {
            Body one = body(person);
            if (one == null || n < 1 || n > one.due) {
                return NONE;
            }
            one.due -= n;
            one.sold += isSold ? n : 0;
            one.owed += isSold ? n : 0;
            one.done += isSold ? 0 : n;
            return one.due;
        }

        int pay(int person, int n) {
            Body one = body(person);
            if (one == null || n < 1 || n > one.owed) {
                return NONE;
            }
            one.owed -= n;
            paid += n;
            return one.owed;
        }

        int suit(int one, int against, int pledge) {
            boolean others = one != against && one != pledge && against != pledge;
            if (!lives(one) || !lives(against) || !lives(pledge) || !others || suits.size() == 40) {
                return NONE;
            }
            Plea plea = new Plea();
            plea.one = one;
            plea.against = against;
            plea.pledge = pledge;
            suits.add(plea);
            return suits.size() - 1;
        }

        boolean appear(int suit, int what) {
            if (suit < 0 || suit >= suits.size() || suits.get(suit).ended != 0 || what < 0 || what > 3) {
                return false;
            }
            suits.get(suit).next = what;
            return true;
        }

        int court() {
            int ended = 0;
            for (Plea plea : suits) {
                if (plea.ended == 0) {
                    plea.ended = hear(plea);
                    plea.next = 0;
                    ended += plea.ended == 0 ? 0 : 1;
                }
            }
            return ended;
        }

        int hear(Plea plea) {
            if (!lives(plea.against)) {
                return 1;
            }
            if (plea.next > 1) {
                body(plea.next == 2 ? plea.against : plea.one).owed += 6;
                return plea.next;
            }
            if (plea.next == 1 && plea.essoins < essoins) {
                plea.essoins++;
                return 0;
            }
            body(lives(plea.pledge) ? plea.pledge : plea.against).owed += 3;
            if (++plea.defaults < 2) {
                return 0;
            }
            body(plea.against).owed += 6;
            return 2;
        }

        int holder(int holding, int strip, int day) {
            return right(holding, strip, day, 0, 0);
        }

        int right(int holding, int strip, int day, int k, int what) {
            boolean there = holding >= 0 && holding <= 9 && strip >= 0 && strip <= 11 && day >= 0 && day <= now;
            if (!there || what < 0 || what > 2 || k < 0) {
                return -2;
            }
            List<int[]> roll = rolls.get(holding * 12 + strip);
            int last = 0;
            for (int i = 0; i < roll.size(); i++) {
                if (roll.get(i)[2] <= day) {
                    last = i;
                }
            }
            return k > last ? -2 : roll.get(last - k)[what];
        }

        int told(int person, int what) {
            Body one = body(person);
            if (one == null || what < 0 || what > 13) {
                return -2;
            }
            int held = 0;
            int parts = 0;
            for (int place = 0; place < 120; place++) {
                held += holders[place] == person ? 1 : 0;
                parts += holders[place] == person && partFrom[place] != NONE ? 1 : 0;
            }
            int[] all = {one.sex, one.father, one.mother, one.alive ? 1 : 0, one.spouse, one.born, held, parts,
                one.owed, one.due, one.done, one.sold, one.excused, one.sick};
            return all[what];
        }

        int suited(int suit, int what) {
            if (suit < 0 || suit >= suits.size() || what < 0 || what > 2) {
                return NONE;
            }
            Plea plea = suits.get(suit);
            return new int[] {plea.ended, plea.essoins, plea.defaults}[what];
        }

        int count(int what) {
            int lords = 0;
            int rights = 0;
            int owed = 0;
            for (int place = 0; place < 120; place++) {
                lords += holders[place] == NONE ? 1 : 0;
                rights += rolls.get(place).size();
            }
            for (Body one : people) {
                owed += one.owed;
            }
            int[] all = {now, people.size(), customs, suits.size(), lords, owed, paid, rights};
            return what < 0 || what >= all.length ? NONE : all[what];
        }
    }
}
