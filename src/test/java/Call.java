import java.util.Arrays;

/** One call by its name and arguments; a boolean counts 1 or 0, among the arguments too. */
record Call(String name, int... args) {
    int on(ManorRolls x) {
        switch (args.length) {
            case 0: return withNone(x);
            case 1: return withOne(x, args[0]);
            case 2: return withTwo(x, args[0], args[1]);
            case 3: return withThree(x, args[0], args[1], args[2]);
            case 4: return withFour(x, args[0], args[1], args[2], args[3]);
            default: return withFive(x, args[0], args[1], args[2], args[3], args[4]);
        }
    }

    private int withNone(ManorRolls x) {
        switch (name) {
            case "court": return x.court();
            default: throw unknown();
        }
    }

    private int withOne(ManorRolls x, int a) {
        switch (name) {
            case "die": return x.die(a);
            case "weeks": return x.weeks(a);
            case "count": return x.count(a);
            default: throw unknown();
        }
    }

    private int withTwo(ManorRolls x, int a, int b) {
        switch (name) {
            case "custom": return x.custom(a, b);
            case "marry": return asInt(x.marry(a, b));
            case "sick": return asInt(x.sick(a, b));
            case "pay": return x.pay(a, b);
            case "appear": return asInt(x.appear(a, b));
            case "heir": return x.heir(a, b);
            case "told": return x.told(a, b);
            case "suited": return x.suited(a, b);
            default: throw unknown();
        }
    }

    private int withThree(ManorRolls x, int a, int b, int c) {
        switch (name) {
            case "person": return x.person(a, b, c);
            case "grant": return asInt(x.grant(a, b, c));
            case "works": return x.works(a, b, c != 0);
            case "suit": return x.suit(a, b, c);
            case "holder": return x.holder(a, b, c);
            default: throw unknown();
        }
    }

    private int withFour(ManorRolls x, int a, int b, int c, int d) {
        switch (name) {
            case "rod": return asInt(x.rod(a, b, c, d));
            default: throw unknown();
        }
    }

    private int withFive(ManorRolls x, int a, int b, int c, int d, int e) {
        switch (name) {
            case "right": return x.right(a, b, c, d, e);
            default: throw unknown();
        }
    }

    private static int asInt(boolean answer) {
        return answer ? 1 : 0;
    }

    private IllegalArgumentException unknown() {
        return new IllegalArgumentException("there is no call " + this);
    }

    @Override
    public String toString() {
        String list = Arrays.toString(args);
        return name + "(" + list.substring(1, list.length() - 1) + ")";
    }
}
