import java.lang.reflect.InvocationTargetException;
import java.lang.reflect.Method;
import java.util.Arrays;
import java.util.HashMap;
import java.util.Map;
import java.util.Random;

/** Runs of random calls, each answered by the class and by the model. */
public final class ModelTest {
    private static final String[] NAMES = {"farm", "code", "like", "mistakes", "best", "feed", "text", "force", "why",
        "ring", "call", "of", "as", "minute", "board", "listen", "heard", "down", "reach", "told", "maybe", "storm",
        "pay", "behind", "since", "town", "quarrel", "divide", "vote", "nought", "counting", "tried", "image", "undo",
        "count"};
    private static final Map<String, Method> OURS = methods(OneWire.class), THEIRS = methods(Model.class);

    private final Random random;
    private final OneWire wire = new OneWire();
    private final Model model = new Model();
    private final int[] weight = new int[NAMES.length];
    private final int wild;
    private int longest;
    private String pending = "";

    private ModelTest(int seed) {
        random = new Random(seed);
        wild = random.nextInt(4) == 0 ? 4 : 40;
        longest = new int[] {3, 12, 40, 200}[random.nextInt(4)];
        for (int k = 0; k < weight.length; k++) weight[k] = 1 + random.nextInt(6);
        switch (random.nextInt(5)) {
            case 0: prefer(12, "ring", "call", "of", "listen", "minute"); longest = 3; break;
            case 1: prefer(12, "text", "force", "why", "of", "tried"); break;
            case 2: prefer(12, "told", "maybe", "storm", "down", "ring", "minute"); break;
            case 3: prefer(8, "pay", "behind", "since", "town", "call"); prefer(longest == 200 ? 150 : 20, "minute"); break;
            default: prefer(6, "ring", "call", "of", "listen", "minute", "heard", "board");
        }
    }

    private void prefer(int more, String... names) {
        for (String name : names) weight[Arrays.asList(NAMES).indexOf(name)] += more;
    }

    private static Map<String, Method> methods(Class<?> of) {
        Map<String, Method> all = new HashMap<>();
        for (Method m : of.getDeclaredMethods()) {
            if (Arrays.asList(NAMES).contains(m.getName())) all.put(m.getName(), m);
        }
        if (all.size() != NAMES.length) throw new IllegalStateException(of.getName() + " lacks methods");
        return all;
    }

    /** Mostly from the range, at times just beside it or far away. */
    private int from(int low, int high) {
        if (random.nextInt(wild) == 0) {
            switch (random.nextInt(4)) {
                case 0: return low - 1;
                case 1: return high + 1;
                case 2: return random.nextInt();
                default: return random.nextBoolean() ? Integer.MIN_VALUE : Integer.MAX_VALUE;
            }
        }
        return high <= low ? low : low + random.nextInt(high - low + 1);
    }

    private int farm() {
        return from(0, model.count(0) - 1);
    }

    private int call() {
        int calls = model.count(2);
        return from(random.nextBoolean() ? Math.max(0, calls - 6) : 0, calls - 1);
    }

    private int end() {
        return random.nextInt(4) == 0 ? 12 : farm();
    }

    private int today() {
        return model.count(3) / 100;
    }

    private int day() {
        return random.nextBoolean() ? Math.min(400, Math.max(0, today() + random.nextInt(5) - 3)) : from(0, 400);
    }

    private String number() {
        return "" + (random.nextInt(5) == 0 ? random.nextInt(1000) : random.nextInt(13));
    }

    private String one(int open) {
        int kind = random.nextInt(open < 5 ? 9 : 6);
        if (kind == 6) return "!" + one(open + 1);
        if (kind > 6) return "(" + any(open + 1) + ")";
        if (kind > 3) return "h" + "<>".charAt(random.nextInt(2)) + random.nextInt(100);
        return "klfg".charAt(kind) + "=" + (kind < 2 ? "" + random.nextInt(5) : number());
    }

    private String any(int open) {
        StringBuilder text = new StringBuilder(one(open));
        while (random.nextInt(3) == 0) text.append("|&".charAt(random.nextInt(2))).append(one(open));
        return text.toString();
    }

    private String clause() {
        switch (random.nextInt(9)) {
            case 0: return "dues " + number();
            case 1: return "work " + number();
            case 2: return "long " + (random.nextInt(3) == 0 ? number() : "2" + random.nextInt(10));
            case 3: return "cords " + random.nextInt(4);
            case 4: return "near " + (50 + random.nextInt(50));
            case 5: case 6: return "tell " + any(0);
            default: return "first " + number() + " " + any(0);
        }
    }

    private String text() {
        StringBuilder text = new StringBuilder(clause());
        int more = random.nextInt(8);
        for (int k = 0; k < more && text.length() < 100; k++) text.append(';').append(clause());
        if (random.nextInt(30) == 0) {
            text.setLength(0);
            int clauses = 7 + random.nextInt(4);
            for (int k = 0; k < clauses; k++) text.append(k == 0 ? "" : ";").append("dues ").append(random.nextInt(20));
        }
        int spoil = random.nextInt(5) == 0 ? 1 + random.nextInt(2) : 0;
        for (int k = 0; k < spoil && text.length() > 1; k++) {
            int at = random.nextInt(text.length());
            String signs = " ;|&!()klfgh=<>0123456789dwct\u00ff";
            char with = signs.charAt(random.nextInt(signs.length()));
            switch (random.nextInt(4)) {
                case 0: text.setLength(at); break;
                case 1: text.deleteCharAt(at); break;
                case 2: text.insert(at, with); break;
                default: text.setCharAt(at, with);
            }
        }
        return text.toString();
    }

    private Object[] feed() {
        if (pending.isEmpty()) pending = text();
        int n = random.nextInt(40) == 0 ? from(1, 8) : Math.min(8, pending.length());
        long w = random.nextInt(3) == 0 ? random.nextLong() : 0;
        for (int k = 0; k < n && k < 8; k++) {
            w = w << 8 | (k < pending.length() ? pending.charAt(k) : 'x');
        }
        pending = pending.substring(Math.max(0, Math.min(n, pending.length())));
        return new Object[] {w, n};
    }

    private Object[] arguments(String name) {
        switch (name) {
            case "farm": return new Object[] {from(0, random.nextInt(4)), from(0, 9), from(0, 9)};
            case "code": return new Object[] {farm(), from(0, 4), from(0, random.nextInt(16))};
            case "like": case "quarrel": return new Object[] {farm(), farm()};
            case "mistakes": return new Object[] {from(0, 3)};
            case "best": return new Object[] {from(0, 3), from(1, 3), from(-1, 4)};
            case "feed": return feed();
            case "text": return new Object[] {random.nextInt(3) == 0 ? today() : day()};
            case "force": case "why": return new Object[] {from(0, 6), call(), day()};
            case "ring": return new Object[] {farm(), farm(), from(1, random.nextInt(3) == 0 ? 20 : 5)};
            case "call": return new Object[] {from(3, 4), farm(), from(1, random.nextInt(3) == 0 ? 20 : 5)};
            case "of": return new Object[] {call(), from(0, 7)};
            case "as": return new Object[] {call(), from(0, 4)};
            case "minute":
                if (longest == 200) return new Object[] {random.nextInt(4) > 0 ? from(180, 200) : from(1, 200)};
                return new Object[] {random.nextInt(3) > 0 ? from(1, longest) : from(1, 3)};
            case "board": return new Object[] {from(0, 3), from(0, 1)};
            case "listen": return listener();
            case "heard": return new Object[] {call()};
            case "down": return new Object[] {from(0, 3), from(0, 9), random.nextInt(3) == 0};
            case "reach": return new Object[] {farm(), end()};
            case "told": return told();
            case "maybe": return new Object[] {from(0, 3), from(0, 9)};
            case "storm": return new Object[] {from(0, 1)};
            case "pay": return new Object[] {farm(), from(0, 1), random.nextBoolean() ? from(1, 12) : from(1, 999)};
            case "behind": return new Object[] {farm(), from(0, today())};
            case "since": return new Object[] {farm()};
            case "town": return new Object[] {farm(), random.nextBoolean() ? 0 : day(), day()};
            case "divide": return divided();
            case "vote": return voted();
            case "nought": return new Object[] {from(0, model.count(8) - 1)};
            case "tried": return new Object[] {from(0, 1), call()};
            case "count": return new Object[] {from(0, 8)};
            default: return new Object[0];
        }
    }

    /** Mostly a call that is on, where there is one. */
    private Object[] listener() {
        int has = -1;
        for (int k = 0; k < 4 && has < 0; k++) has = model.board(random.nextInt(4), 0);
        return new Object[] {farm(), has >= 0 && random.nextInt(5) > 0 ? has : call()};
    }

    /** Mostly as it is now, else a few more tell what nothing explains. */
    private Object[] told() {
        int from = farm(), to = end();
        return new Object[] {from, to, random.nextInt(12) == 0 ? random.nextBoolean() : model.reach(from, to) != 0};
    }

    private Object[] divided() {
        int n = from(1, Math.min(7, model.count(0) + random.nextInt(2)));
        return new Object[] {n, from(1, 3), from(-1, Math.max(0, Math.min(n, 8)) - 1)};
    }

    private Object[] voted() {
        int all = (1 << model.count(0)) - 1;
        int came = random.nextInt(3) == 0 ? from(0, all) : random.nextBoolean() ? all : all & ~(1 << random.nextInt(12));
        int most = Integer.bitCount(came);
        int fors = from(random.nextBoolean() ? most / 2 : 0, most);
        return new Object[] {came, fors, random.nextInt(3) == 0 ? from(-1, model.count(8) - 1) : -1};
    }

    private String name() {
        int all = 0;
        for (int w : weight) all += w;
        int at = random.nextInt(all);
        for (int k = 0; k < weight.length; k++) {
            at -= weight[k];
            if (at < 0) return NAMES[k];
        }
        return NAMES[0];
    }

    /** What is called next: a text that is begun is fed to its end. */
    private String next(int made) {
        if (made < 2 + random.nextInt(12)) return "farm";
        if (!pending.isEmpty()) return "feed";
        if (model.count(7) > 0 && random.nextInt(9) > 0) return random.nextInt(3) > 0 ? "text" : "tried";
        String name = name();
        if (model.count(7) == 0 && (name.equals("text") || name.equals("tried")) && random.nextInt(9) > 0) return "feed";
        // images that are undone at once or never tell little
        return (name.equals("image") || name.equals("undo")) && random.nextInt(4) > 0 ? "of" : name;
    }

    private static int answer(Method method, Object on, Object[] arguments) {
        try {
            return (Integer) method.invoke(on, arguments);
        } catch (InvocationTargetException e) {
            throw new IllegalStateException(method.getName() + Arrays.toString(arguments) + " threw", e.getCause());
        } catch (IllegalAccessException e) {
            throw new IllegalStateException(e);
        }
    }

    private void run(int seed, Map<String, int[]> seen) {
        for (int made = 0; made < 512; made++) {
            String name = next(made);
            Object[] arguments = arguments(name);
            int got = answer(OURS.get(name), wire, arguments);
            int want = answer(THEIRS.get(name), model, arguments);
            Due.is("seed " + seed + ", call " + made + ": " + name + Arrays.toString(arguments), got, want);
            int[] counts = seen.computeIfAbsent(name, x -> new int[8]);
            counts[want < 0 && want >= -6 ? -want : want < 0 ? 7 : 0]++;
            if (got != want) return;
        }
    }

    /** All rows of best codes. */
    private static void bests() {
        OneWire wire = new OneWire();
        Model model = new Model();
        for (int farms = 0; farms < 7; farms++) {
            for (int n = 0; n < 5; n++) {
                for (int i = -2; i < 7; i++) {
                    Due.is(farms + " farms: best(2, " + n + ", " + i + ")", wire.best(2, n, i), model.best(2, n, i));
                }
            }
            wire.farm(2, farms, 0);
            model.farm(2, farms, 0);
        }
    }

    public static void main(String[] args) {
        int first = args.length > 0 ? Integer.parseInt(args[0]) : 1;
        int runs = args.length > 1 ? Integer.parseInt(args[1]) : 400;
        bests();
        Map<String, int[]> seen = new HashMap<>();
        for (int seed = first; seed < first + runs; seed++) new ModelTest(seed).run(seed, seen);
        if (args.length > 2) for (String name : NAMES) System.out.println(name + " " + Arrays.toString(seen.get(name)));
        Due.end();
    }
}
