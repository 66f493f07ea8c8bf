import java.util.ArrayList;
import java.util.Arrays;
import java.util.List;
import java.util.TreeSet;

/**
 * A new object with the calls that were made on it, so that they can be made again on another one: what is promised
 * ends with an object's 512th call, and a look at all of it takes more.
 */
final class Taped {
    static final int MOST_CALLS = 512;
    private static final int DEEPEST_LOOK = 5;
    private final Check check;
    private final List<Call> calls = new ArrayList<>();
    private final ManorRolls object = new ManorRolls();
    private final TreeSet<Integer> days = new TreeSet<>(List.of(0));
    private Look before;

    Taped(Check check) {
        this.check = check;
    }

    /** Makes a call. */
    int call(String name, int... args) {
        return make(new Call(name, args));
    }

    /** Makes a call whose answer is known. */
    void due(int want, String name, int... args) {
        Call call = new Call(name, args);
        check.due(call, make(call), want);
    }

    /** Holds the answers of a call for 0, 1, 2 .. as its last argument against those that are due. */
    void dueEach(int[] want, String name, int... args) {
        for (int last = 0; last < want.length; last++) {
            int[] all = Arrays.copyOf(args, args.length + 1);
            all[args.length] = last;
            due(want[last], name, all);
        }
    }

    /** Asks objects of their own with the same calls: the answers are due. */
    void dueAll(List<Integer> want, List<Call> questions) {
        int[] got = answers(questions);
        for (int i = 0; i < got.length; i++) {
            check.due(questions.get(i), got[i], want.get(i));
        }
    }

    /** Makes a call on an object of its own: the answer is due, and nothing is otherwise for it, then or later. */
    void refused(int want, String name, int... args) {
        Call call = new Call(name, args);
        check.due(call, copy().make(call), want);
        changesNothing(name, args);
    }

    /** Makes a call on an object of its own: all that can be asked is as it is without the call, then and later. */
    void changesNothing(String name, int... args) {
        if (before == null) {
            before = new Look(this);
        }
        Call call = new Call(name, args);
        Taped other = copy();
        other.make(call);
        before.holdAgainst(check, other, call);
    }

    /** Makes calls that change nothing till so many were made. */
    void idleTill(int made) {
        while (calls.size() < made) {
            make(new Call("count", 0));
        }
    }

    int made() {
        return calls.size();
    }

    Taped copy() {
        Taped other = new Taped(check);
        for (Call call : calls) {
            other.make(call);
        }
        return other;
    }

    private int make(Call call) {
        if (calls.size() == MOST_CALLS) {
            throw new IllegalStateException("the 513th call is " + call);
        }
        calls.add(call);
        before = null;
        int answer = call.on(object);
        if (call.name().equals("weeks") && answer >= 0) {
            days.add(answer);
        }
        return answer;
    }

    private int[] answers(List<Call> questions) {
        int[] answers = new int[questions.size()];
        Taped asked = copy();
        for (int i = 0; i < answers.length; i++) {
            if (asked.made() == MOST_CALLS) {
                asked = copy();
            }
            answers[i] = asked.make(questions.get(i));
        }
        return answers;
    }

    /**
     * What can be asked of the object, of one person and one suit more than there are; of strips on the days that a
     * call of weeks ended on, and of rights as many steps ahead as runs with refusals go.
     */
    private List<Call> questions() {
        List<Call> all = new ArrayList<>();
        for (int what = 0; what < 8; what++) {
            all.add(new Call("count", what));
        }
        int people = copy().call("count", 1);
        for (int p = 0; p <= people; p++) {
            for (int what = 0; what < 14; what++) {
                all.add(new Call("told", p, what));
            }
            for (int i = 0; i < 40; i++) {
                all.add(new Call("heir", p, i));
            }
        }
        int suits = copy().call("count", 3);
        for (int s = 0; s <= suits; s++) {
            for (int what = 0; what < 3; what++) {
                all.add(new Call("suited", s, what));
            }
        }
        addQuestionsOfStrips(all);
        return all;
    }

    private void addQuestionsOfStrips(List<Call> all) {
        for (int place = 0; place < 120; place++) {
            for (int day : days) {
                all.add(new Call("holder", place / 12, place % 12, day));
            }
            for (int k = 0; k < DEEPEST_LOOK; k++) {
                for (int what = 0; what < 3; what++) {
                    all.add(new Call("right", place / 12, place % 12, days.last(), k, what));
                }
            }
        }
    }

    /** Calls that bring out what can't be asked: the custom in force, what will be at the next court, and the like. */
    private List<Call> laterCalls() {
        List<Call> all = new ArrayList<>();
        int people = copy().call("count", 1);
        int suits = copy().call("count", 3);
        all.add(new Call("court"));
        for (int s = 0; s <= suits; s++) {
            all.add(new Call("appear", s, 1));
        }
        all.add(new Call("court"));
        all.add(new Call("weeks", 3));
        all.add(new Call("person", 0, -1, -1));
        all.add(new Call("person", 1, -1, -1));
        all.add(new Call("marry", people, people + 1));
        for (int holding = 0; holding < 10; holding++) {
            all.add(new Call("grant", holding, 5, people));
            all.add(new Call("rod", holding, 1, people, people + 1));
        }
        // the last one lives on, and would be the heir of one who has a child too many
        for (int p = 0; p <= people; p++) {
            all.add(new Call("die", p));
        }
        all.add(new Call("weeks", 1));
        all.add(new Call("court"));
        return all;
    }

    /** What an object answers when it is asked all, now and after later calls. */
    private static final class Look {
        private final List<Call> questions;
        private final int[] answers;
        private final List<Call> later;
        private final int[] laterAnswers;
        private final List<Call> lastQuestions;
        private final int[] lastAnswers;

        Look(Taped x) {
            questions = x.questions();
            answers = x.answers(questions);
            later = x.laterCalls();
            Taped end = x.copy();
            laterAnswers = makeAll(end, later);
            lastQuestions = end.questions();
            lastAnswers = end.answers(lastQuestions);
        }

        void holdAgainst(Check check, Taped other, Call refused) {
            String when = " behind " + refused;
            compare(check, when, questions, other.answers(questions), answers);
            Taped end = other.copy();
            compare(check, when + " and later calls", later, makeAll(end, later), laterAnswers);
            compare(check, when + " and all later calls", lastQuestions, end.answers(lastQuestions), lastAnswers);
        }

        private static int[] makeAll(Taped x, List<Call> calls) {
            int[] answers = new int[calls.size()];
            for (int i = 0; i < answers.length; i++) {
                answers[i] = x.make(calls.get(i));
            }
            return answers;
        }

        /** Tells the first difference alone: one slip may make very many. */
        private static void compare(Check check, String when, List<Call> asked, int[] got, int[] want) {
            int i = Math.max(Arrays.mismatch(got, want), 0);
            check.due(asked.get(i) + when, got[i], want[i]);
        }
    }
}
