import java.io.IOException;
import java.lang.reflect.Constructor;
import java.lang.reflect.Field;
import java.lang.reflect.Method;
import java.lang.reflect.Modifier;
import java.nio.file.Files;
import java.nio.file.Path;
import java.util.Random;
import java.util.Set;
import java.util.TreeSet;
import java.util.regex.Pattern;

/** What no single promise says: the face, the source's rules, the deepest lines, wild use, long use. */
public final class LimitsTest {
    private static final int NONE = ManorRolls.NONE;
    private static final Check check = new Check();

    public static void main(String[] args) throws IOException {
        face();
        source();
        deepestLine();
        manyWays();
        wildCalls();
        longUse();
        check.end();
    }

    private static void face() {
        check.begin("face");
        Set<String> want = new TreeSet<>(Set.of("custom/2", "person/3", "marry/2", "die/1", "grant/3", "rod/4",
            "weeks/1", "sick/2", "works/3", "pay/2"));
        want.addAll(Set.of("suit/3", "appear/2", "court/0", "holder/3", "right/5", "heir/2", "told/2", "suited/2",
            "count/1"));
        Set<String> publicNames = new TreeSet<>();
        Set<String> got = new TreeSet<>();
        for (Method method : ManorRolls.class.getDeclaredMethods()) {
            boolean isPublic = Modifier.isPublic(method.getModifiers());
            check.due(method + " is public or private", isPublic || Modifier.isPrivate(method.getModifiers()), true);
            if (isPublic) {
                got.add(method.getName() + "/" + method.getParameterCount());
                publicNames.add(method.getName());
            }
        }
        check.due("methods " + got, got.equals(want), true);
        for (Method method : ManorRolls.class.getDeclaredMethods()) {
            boolean isPrivate = Modifier.isPrivate(method.getModifiers());
            check.due(method + " bears a public name", isPrivate && publicNames.contains(method.getName()), false);
        }
        for (Field field : ManorRolls.class.getDeclaredFields()) {
            boolean isPrivate = Modifier.isPrivate(field.getModifiers());
            check.due(field + " is private or NONE", isPrivate || field.getName().equals("NONE"), true);
            boolean changes = Modifier.isStatic(field.getModifiers()) && !Modifier.isFinal(field.getModifiers());
            check.due(field + " is static and not final", changes, false);
        }
        Constructor<?>[] constructors = ManorRolls.class.getDeclaredConstructors();
        check.due("constructors", constructors.length, 1);
        check.due("a public one without arguments", Modifier.isPublic(constructors[0].getModifiers())
            && constructors[0].getParameterCount() == 0, true);
        check.due("final", Modifier.isFinal(ManorRolls.class.getModifiers()), true);
        check.due("classes inside", ManorRolls.class.getDeclaredClasses().length <= 12, true);
        for (Class<?> inside : ManorRolls.class.getDeclaredClasses()) {
            check.due(inside + " is static", Modifier.isStatic(inside.getModifiers()), true);
        }
    }

    private static void source() throws IOException {
        check.begin("source");
        String text = Files.readString(Path.of("src/main/java/ManorRolls.java"));
        String code = text.replaceAll("(?s)/\\*.*?\\*/", "").replaceAll("//.*", "");
        String[] forbidden = {"\\bthrow\\b", "\\btry\\b", "\\bcatch\\b", "\\bsynchronized\\b", "\\bassert\\b", "->", "::",
            "\\bimport\\b", "\\bpackage\\b", "\\bprotected\\b", "Exact\\b", "\\bSystem\\.(?!arraycopy)", "\\bhashCode\\b",
            "\\btoString\\b", "\\bnative\\b", "\\bfloat\\b", "\\bdouble\\b"};
        for (String word : forbidden) {
            check.due(word + " stands in the source", Pattern.compile(word).matcher(code).find(), false);
        }
    }

    /** Sixty generations, all dead but the last. */
    private static void deepestLine() {
        check.begin("the deepest line");
        ManorRolls x = new ManorRolls();
        x.person(0, NONE, NONE);
        for (int p = 1; p < 60; p++) {
            x.person(0, p - 1, NONE);
        }
        x.grant(0, 12, 0);
        for (int p = 58; p > 0; p--) {
            x.die(p);
        }
        for (int order = 0; order < 3; order++) {
            x.custom(order * 100000, 0);
            check.due("heir(0, 0)", x.heir(0, 0), 59);
            check.due("heir(0, 1)", x.heir(0, 1), NONE);
        }
        check.due("die(0)", x.die(0), 12);
        check.due("told(59, 6)", x.told(59, 6), 12);
    }

    /** Kin who marry kin: the ways down to the last one double with every fourth person. */
    private static void manyWays() {
        check.begin("many ways");
        ManorRolls x = new ManorRolls();
        x.custom(200000, 0);
        int top = x.person(0, NONE, NONE);
        int last = top;
        while (x.count(1) + 4 <= 60) {
            int one = x.person(0, last, NONE);
            int other = x.person(0, last, NONE);
            int daughter = x.person(1, other, NONE);
            last = x.person(0, one, daughter);
        }
        x.grant(3, 12, top);
        for (int p = 1; p < last; p++) {
            x.die(p);
        }
        for (int i = 0; i < 40; i++) {
            check.due("heir(0, " + i + ")", x.heir(top, i), last);
        }
        check.due("heir(0, 40)", x.heir(top, 40), NONE);
        check.due("die(0)", x.die(top), 12);
        check.due("told", x.told(last, 6), 12);
        check.due("die", x.die(last), 12);
        check.due("heir of nobody", x.heir(top, 0), NONE);
        check.due("the lord's", x.count(4), 120);
    }

    private static int wild(Random random) {
        switch (random.nextInt(6)) {
            case 0: return random.nextInt();
            case 1: return random.nextBoolean() ? Integer.MAX_VALUE : Integer.MIN_VALUE;
            case 2: return random.nextInt(80) - 10;
            default: return random.nextInt(5) - 1;
        }
    }

    /** No call throws, whatever it is given, however many there were: one that did would end the test. */
    private static void wildCalls() {
        check.begin("wild calls");
        for (int seed = 0; seed < 200; seed++) {
            Random random = new Random(seed);
            ManorRolls x = new ManorRolls();
            for (int c = 0; c < 3000; c++) {
                int a = wild(random);
                int b = wild(random);
                int d = wild(random);
                switch (random.nextInt(19)) {
                    case 0: x.custom(a, b); break;
                    case 1: x.person(a, b, d); break;
                    case 2: x.marry(a, b); break;
                    case 3: x.die(a); break;
                    case 4: x.grant(a, b, d); break;
                    case 5: x.rod(a, b, d, wild(random)); break;
                    case 6: x.weeks(a); break;
                    case 7: x.sick(a, b); break;
                    case 8: x.works(a, b, random.nextBoolean()); break;
                    case 9: x.pay(a, b); break;
                    case 10: x.suit(a, b, d); break;
                    case 11: x.appear(a, b); break;
                    case 12: x.court(); break;
                    case 13: x.holder(a, b, d); break;
                    case 14: x.right(a, b, d, wild(random), wild(random)); break;
                    case 15: x.heir(a, b); break;
                    case 16: x.told(a, b); break;
                    case 17: x.suited(a, b); break;
                    default: x.count(a);
                }
            }
        }
    }

    /** Behind the 512th call answers are free, but an object still may not throw, or grow without end. */
    private static void longUse() {
        check.begin("long use");
        ManorRolls x = new ManorRolls();
        x.person(0, NONE, NONE);
        x.person(0, NONE, NONE);
        x.grant(0, 12, 0);
        for (int c = 4; c < 512; c++) {
            check.due("rod in call " + c, x.rod(0, 12, c % 2, (c + 1) % 2), true);
        }
        check.due("count(7) in call 512", x.count(7), 132 + 12 * 508);
        for (int c = 0; c < 200000; c++) {
            x.rod(0, 12, c % 2, (c + 1) % 2);
        }
        check.due("count(7) is bounded", x.count(7) <= 120 * 513, true);
        x.right(0, 0, 0, Integer.MAX_VALUE, 0);
        x.die(0);
    }
}
