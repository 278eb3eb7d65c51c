import java.lang.reflect.Method;
import java.util.ArrayList;
import java.util.Arrays;
import java.util.List;
import java.util.Map;
import java.util.TreeMap;

/**
 * Long runs of calls with all sorts of arguments: PriceBench answers each as SlowBench does. The runs are
 * the same each time; an argument to main makes other ones: the first run's number, and how many runs.
 */
public final class RandomRunsTest {
    /** For each method the sorts of its arguments, as draw() reads them. */
    private static final Map<String, String> ARGUMENTS = new TreeMap<>();
    /** The methods as often as they are to be drawn. */
    private static final List<String> NAMES = new ArrayList<>();

    private static void method(String name, int often, String arguments) {
        ARGUMENTS.put(name, arguments);
        for (int i = 0; i < often; i++) {
            NAMES.add(name);
        }
    }

    static {
        method("thing", 3, "");
        method("line", 14, "ttsr");
        method("alter", 5, "lsr");
        method("close", 2, "");
        method("undo", 4, "");
        method("lineTold", 2, "lw");
        method("told", 1, "");
        method("tell", 5, "oS");
        method("tree", 1, "");
        method("way", 2, "tt");
        method("pairing", 2, "b");
        method("offerTold", 6, "ow");
        method("choice", 5, "oi");
        method("cost", 4, "Spqw");
        method("best", 8, "opqw");
        method("least", 5, "opqw");
        method("window", 4, "pqpq");
        method("bends", 5, "o");
        method("bend", 8, "oiw");
        method("span", 10, "oSw");
        method("top", 6, "ow");
        method("ratio", 5, "ow");
        method("regret", 6, "oSw");
        method("calm", 5, "o");
        method("why", 6, "oSpq");
        method("write", 5, "o");
        method("row", 4, "iw");
        method("forge", 8, "iwv");
        method("check", 10, "o");
        method("act", 4, "owx");
        method("trace", 3, "i");
        method("count", 4, "w");
        method("sheet", 4, "hkn");
        method("cell", 8, "hnv");
        method("lay", 4, "hkn");
        method("copy", 5, "hnhnn");
        method("taken", 4, "ow");
    }

    private static final int MOST_CALLS = 512;

    private final Due due;
    private final Map<String, Method> fastMethods = new TreeMap<>();
    private final Map<String, Method> slowMethods = new TreeMap<>();
    private long state;
    private int calls;
    private PriceBench fast;
    private SlowBench slow;
    private int startsTo;
    private int risesFrom;
    private int risesTo;

    private RandomRunsTest(Due due) {
        this.due = due;
        for (Method method : PriceBench.class.getDeclaredMethods()) {
            fastMethods.put(method.getName(), method);
        }
        for (Method method : SlowBench.class.getDeclaredMethods()) {
            if (ARGUMENTS.containsKey(method.getName())
                    && method.getParameterCount() == ARGUMENTS.get(method.getName()).length()
                    && Arrays.stream(method.getParameterTypes()).allMatch(type -> type == int.class)) {
                slowMethods.put(method.getName(), method);
            }
        }
    }

    private int random(int from, int to) {
        state = state * 6364136223846793005L + 1442695040888963407L;
        return from + (int) ((state >>> 33) % (to - from + 1));
    }

    private int oneOf(int... numbers) {
        return numbers[random(0, numbers.length - 1)];
    }

    private int draw(char sort, int offer) {
        if (random(0, 59) == 0) {
            return oneOf(-1, -2, 0, Integer.MAX_VALUE, Integer.MIN_VALUE, 1 << 30, -4096, 4096, 1000, 10000);
        }
        switch (sort) {
            case 't':
                return random(0, Math.max(0, slow.count(0) - 1));
            case 's':
                return random(0, 19) == 0 ? oneOf(-101, -100, 100, 101) : random(-startsTo, startsTo);
            case 'r':
                return random(0, 19) == 0 ? oneOf(-21, -20, 20, 21) : random(risesFrom, risesTo);
            case 'l':
                return random(0, slow.count(1));
            case 'o':
                return random(0, 19) == 0 ? slow.count(2) : random(0, Math.max(0, slow.count(2) - 1));
            case 'S':
                return drawSet(offer);
            case 'b':
                return random(0, (1 << slow.count(0)) - 1 + random(0, 1));
            case 'p':
                return random(0, 9) == 0 ? oneOf(-10001, -10000, 10000, 10001) : random(-12, 40);
            case 'q':
                return random(0, 9) == 0 ? oneOf(0, 1, 999, 1000, 1001) : random(1, 6);
            case 'w':
                return random(0, 9) == 0 ? random(-1, 6) : random(0, 4);
            case 'i':
                return random(0, 9) == 0 ? random(-1, 60) : random(0, 5);
            case 'h':
                return random(0, 9) == 0 ? random(-1, 4) : random(0, 2);
            case 'k':
                return random(-1, 3);
            case 'n':
                return random(0, 5) == 0 ? random(-2, 42) : random(0, 9);
            case 'v':
                return random(0, 5) == 0 ? oneOf(-1000001, 1000000, 200, 1001, -10001) : random(-8, 14);
            default:
                return random(Integer.MIN_VALUE / 2, Integer.MAX_VALUE / 2) * 3;
        }
    }

    private int drawSet(int offer) {
        int choices = slow.offerTold(offer, 1);
        return choices > 0 && random(0, 4) > 0
                ? slow.choice(offer, random(0, choices - 1))
                : random(0, Math.min(4095, 1 << slow.count(1)));
    }

    /** Nothing is promised behind an object's 512th call, so no more are asked. */
    private void ask(String run, String name, int... arguments) throws ReflectiveOperationException {
        if (calls >= MOST_CALLS) {
            return;
        }
        calls++;
        Object[] boxed = Arrays.stream(arguments).boxed().toArray();
        Number want = (Number) slowMethods.get(name).invoke(slow, boxed);
        Number got = (Number) fastMethods.get(name).invoke(fast, boxed);
        due.is(run + " " + name + Arrays.toString(arguments), got.longValue(), want.longValue());
    }

    private void askRandomly(String run) throws ReflectiveOperationException {
        String name = NAMES.get(random(0, NAMES.size() - 1));
        String sorts = ARGUMENTS.get(name);
        int[] arguments = new int[sorts.length()];
        for (int i = 0; i < arguments.length; i++) {
            arguments[i] = draw(sorts.charAt(i), i > 0 ? arguments[0] : 0);
        }
        ask(run, name, arguments);
    }

    /** A NET that is large enough from the first calls on. */
    private void begin(String run) throws ReflectiveOperationException {
        startsTo = oneOf(1, 3, 8, 30, 100);
        int rises = oneOf(0, 1, 2, 5, 20);
        risesFrom = random(0, 3) == 0 ? 1 : -rises;
        risesTo = Math.max(1, rises);
        int things = oneOf(0, 2, 3, 4, 4, 4, 5, 6, 6, 7);
        for (int i = 0; i < things; i++) {
            ask(run, "thing");
        }
        int lines = random(0, 3) == 0 ? random(0, 12) : random(things, 12);
        for (int i = 0; i < lines; i++) {
            ask(run, "line", draw('t', 0), draw('t', 0), draw('s', 0), draw('r', 0));
        }
        if (random(0, 1) == 0) {
            ask(run, "window", random(-10000, -5), oneOf(1, 7), random(5, 10000), oneOf(1, 3));
        }
        int offers = random(1, 6);
        for (int i = 0; i < offers; i++) {
            switch (random(0, 4)) {
                case 0:
                    ask(run, "told");
                    for (int k = 0; k < 9; k++) {
                        ask(run, "tell", i, random(0, (1 << lines) - 1));
                    }
                    break;
                case 1:
                    ask(run, "tree");
                    break;
                case 2:
                    ask(run, "pairing", oneOf(3, 5, 7, 10, 21, 28));
                    break;
                default:
                    ask(run, "way", draw('t', 0), draw('t', 0));
                    break;
            }
        }
    }

    /** Asks all that an OFFER tells, at THE WINDOW as it is. */
    private void askAll(String run, int offer) throws ReflectiveOperationException {
        for (int what = -1; what <= 5; what++) {
            ask(run, "offerTold", offer, what);
            ask(run, "top", offer, what);
            ask(run, "ratio", offer, what);
            ask(run, "taken", offer, what);
        }
        int set = drawSet(offer);
        for (int what = -1; what <= 5; what++) {
            ask(run, "span", offer, set, what);
            ask(run, "regret", offer, set, what);
        }
        ask(run, "calm", offer);
        int bends = slow.bends(offer);
        for (int i = -1; i <= bends; i++) {
            for (int what = 0; what < 4; what++) {
                ask(run, "bend", offer, i, what);
            }
            int p = draw('p', 0);
            int q = draw('q', 0);
            for (int way = 0; way < 3; way++) {
                ask(run, "best", offer, p, q, way);
            }
            ask(run, "why", offer, drawSet(offer), p, q);
        }
        ask(run, "check", offer);
        for (int act = 0; act < 3; act++) {
            ask(run, "act", offer, act, draw('x', 0));
            for (int i = 0; i <= slow.count(4); i++) {
                ask(run, "trace", i);
            }
        }
    }

    /** Alters single numbers of THE ROWS, checks each time, and mostly puts the numbers back. */
    private void tamper(String run, int offer) throws ReflectiveOperationException {
        ask(run, "write", offer);
        int rows = slow.count(3);
        for (int i = 0; i < rows * 6; i++) {
            int row = random(0, rows - 1);
            int what = random(0, 3);
            int old = (int) slow.row(row, what);
            ask(run, "forge", row, what, forged(offer, row, what));
            if (random(0, 2) == 0) {
                int other = random(2, 3);
                ask(run, "forge", row, other, forged(offer, row, other));
            }
            ask(run, "row", row, what);
            ask(run, "check", offer);
            ask(run, "forge", row, what, old);
            if (random(0, 3) == 0) {
                ask(run, "write", offer);
            }
        }
        ask(run, "check", random(0, slow.count(2)));
        ask(run, "alter", 0, random(-startsTo, startsTo), random(risesFrom, risesTo));
        ask(run, "check", offer);
    }

    private int forged(int offer, int row, int what) {
        int old = (int) slow.row(row, what);
        switch (random(0, 3)) {
            case 0:
                return old + oneOf(-1, 1, 2, 1000);
            case 1:
                return oneOf(old * 2, -old, 1, 0);
            case 2:
                return (int) slow.row(random(0, slow.count(3) - 1), oneOf(what, 5 - what, what));
            default:
                return what < 2 ? random(-3, 12) : drawSet(offer);
        }
    }

    /** LINES from SHEETS of all sorts, most of them good ones. */
    private void layFromSheets(String run) throws ReflectiveOperationException {
        for (int sort = 0; sort < 3; sort++) {
            ask(run, "sheet", sort, sort, random(3, 9));
            int at = random(0, 5);
            ask(run, "cell", sort, at, draw('t', 0));
            ask(run, "cell", sort, at + 1, draw('t', 0));
            ask(run, "cell", sort, at + 2, draw('s', 0) + 256 * random(0, 1));
            ask(run, "cell", sort, at + 3, draw('r', 0));
            ask(run, "lay", sort, random(0, 3) == 0 ? draw('k', 0) : sort, at);
            ask(run, "copy", sort, at - random(0, 3), random(0, 2), random(0, 5), random(0, 6));
            ask(run, "copy", sort, random(0, 3), sort, random(0, 3), random(2, 5));
            ask(run, "lay", sort, sort, random(0, 5));
            ask(run, "undo");
        }
    }

    /** Three sorts of runs by turns: mostly drawn calls, all about OFFERS, and about OFFERS behind drawn changes. */
    private void run(int number) throws ReflectiveOperationException {
        state = number * 1000003L + 17;
        calls = 0;
        fast = new PriceBench();
        slow = new SlowBench();
        String run = "run " + number + ":";
        begin(run);
        layFromSheets(run);
        int drawn = new int[] {MOST_CALLS, 0, 120}[number % 3];
        for (int i = 0; i < drawn && calls < MOST_CALLS; i++) {
            askRandomly(run);
        }
        int offers = slow.count(2);
        for (int i = 0; i < offers && calls < MOST_CALLS; i++) {
            int offer = (i + number) % offers;
            askAll(run, offer);
            tamper(run, offer);
        }
    }

    public static void main(String[] args) throws ReflectiveOperationException {
        int from = args.length > 0 ? Integer.parseInt(args[0]) : 1;
        int many = args.length > 1 ? Integer.parseInt(args[1]) : 120;
        Due due = new Due("RandomRunsTest");
        RandomRunsTest test = new RandomRunsTest(due);
        for (int number = from; number < from + many; number++) {
            test.run(number);
        }
        due.end();
    }
}
