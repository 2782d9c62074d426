import java.util.Arrays;
import java.util.Random;

/**
 * Many made-up runs of calls, the same every time, whose answers are compared
 * with those of Model; each object is asked 512 times at most.
 */
public final class WildTest {
    private static final int[] EDGES = {Integer.MIN_VALUE, -2, -1, 0, 1, 2, 3, 4, 5, 6, 7, 8, 9, 10, 19, 20, 39, 40,
        59, 60, 127, 128, 255, 256, 300, Integer.MAX_VALUE};

    private final Random random;
    private final Watched x = new Watched();
    private final Model m = new Model();
    private final String name;
    /** What each NODE will likely come to: 0 a number, 1 a HANDLE, 2 a LIST. */
    private final int[] sorts = new int[64];
    private final int[] variableSorts = new int[6];
    private final int[] seen = new int[6];
    private final int[] failures = new int[7];

    private WildTest(int seed) {
        random = new Random(seed);
        name = "seed " + seed;
    }

    public static void main(String[] args) {
        int[] endings = new int[6];
        int[] kinds = new int[7];
        for (int seed = 0; seed < 25_000; seed++) {
            WildTest t = new WildTest(seed);
            t.play();
            for (int i = 0; i < 6; i++) {
                endings[i] += t.seen[i];
            }
            for (int i = 0; i < 7; i++) {
                kinds[i] += t.failures[i];
            }
        }
        System.out.println("endings " + Arrays.toString(endings) + ", KINDS " + Arrays.toString(kinds));
        for (int i = 0; i < 6; i++) {
            Check.holds("runs that end with " + i + " are tried", endings[i] > 100);
        }
        for (int i = 0; i < 7; i++) {
            Check.holds("failures of KIND " + i + " are tried", kinds[i] > 100);
        }
        Check.finish();
    }

    private void play() {
        furnish();
        for (int round = 0; round < 3; round++) {
            int nodes = 5 + random.nextInt(50);
            for (int i = 0; i < nodes; i++) {
                tellNode();
            }
            for (int i = 0; i < 3; i++) {
                int last = Math.max(0, m.told(0) - 1 - random.nextInt(4));
                runNode(random.nextInt(4) == 0 ? wild() : last);
                glance();
                strayCall();
            }
            if (random.nextInt(3) == 0) {
                ask("clear");
            }
        }
        lookAround();
    }

    /** The same call on both; none, once the object was called often enough. */
    private int ask(String call, int... p) {
        if (x.calls() >= Watched.CALLS) {
            return InputOutput.NONE;
        }
        int got;
        int want;
        switch (call) {
            case "lay" -> { got = x.lay(p[0], p[1]); want = m.lay(p[0], p[1]); }
            case "there" -> { got = x.there(p[0], p[1] != 0); want = m.there(p[0], p[1] != 0); }
            case "permit" -> { got = x.permit(p[0], p[1]); want = m.permit(p[0], p[1]); }
            case "input" -> { got = x.input(p[0]); want = m.input(p[0]); }
            case "node" -> { got = x.node(p[0], p[1], p[2], p[3]); want = m.node(p[0], p[1], p[2], p[3]); }
            case "clear" -> { got = x.clear(); want = m.clear(); }
            case "run" -> { got = x.run(p[0]); want = m.run(p[0]); }
            case "value" -> { got = x.value(); want = m.value(); }
            case "where" -> { got = x.where(); want = m.where(); }
            case "worked" -> { got = x.worked(); want = m.worked(); }
            case "order" -> { got = x.order(p[0]); want = m.order(p[0]); }
            case "handle" -> { got = x.handle(p[0], p[1]); want = m.handle(p[0], p[1]); }
            case "content" -> { got = x.content(p[0], p[1]); want = m.content(p[0], p[1]); }
            case "size" -> { got = x.size(p[0]); want = m.size(p[0]); }
            case "printed" -> { got = x.printed(p[0]); want = m.printed(p[0]); }
            default -> { got = x.told(p[0]); want = m.told(p[0]); }
        }
        if (got != want) {
            Check.due(name + ": call " + x.calls() + ", " + call + Arrays.toString(p), got, want);
        } else {
            Check.right();
        }
        return want;
    }

    private int wild() {
        return random.nextInt(10) == 0 ? random.nextInt() : EDGES[random.nextInt(EDGES.length)];
    }

    private void furnish() {
        int most = random.nextInt(3) == 0 ? 41 : 8;
        for (int file = 0; file < 8; file++) {
            int bytes = random.nextInt(2) * random.nextInt(most);
            for (int i = 0; i < bytes; i++) {
                ask("lay", file, random.nextInt(6) == 0 ? 10 : random.nextInt(256));
            }
            if (random.nextInt(6) == 0) {
                ask("permit", file, random.nextInt(4));
            }
        }
        for (int i = random.nextInt(5); i > 0; i--) {
            ask("input", i);
        }
    }

    private void strayCall() {
        int a = wild();
        int b = wild();
        switch (random.nextInt(5)) {
            case 0 -> ask("lay", a, b);
            case 1 -> ask("there", a, random.nextInt(2));
            case 2 -> ask("permit", a, b);
            case 3 -> ask("input", a);
            default -> tell(a, b, wild(), wild(), 0);
        }
    }

    private int likely(int sort) {
        int told = m.told(0);
        for (int tries = 0; tries < 12 && told > 0; tries++) {
            int n = told - 1 - random.nextInt(Math.min(told, 14));
            if (sort < 0 || sorts[n] == sort) {
                return n;
            }
        }
        return told == 0 ? 0 : random.nextInt(told);
    }

    private int someNumber() {
        return random.nextInt(12) == 0 ? wild() : random.nextInt(3) == 0 ? 8 + random.nextInt(40) : random.nextInt(6);
    }

    private void tellNode() {
        if (random.nextInt(40) == 0) {
            tell(wild(), wild(), wild(), wild(), 0);
            return;
        }
        int h = likely(1);
        int n = likely(0);
        int any = likely(-1);
        int other = likely(-1);
        int variable = random.nextInt(6);
        int file = random.nextInt(3) == 0 ? random.nextInt(8) : random.nextInt(3);
        switch (random.nextInt(34)) {
            case 0, 1 -> tell(0, someNumber(), 0, 0, 0);
            case 2, 3, 4 -> tell(1, variable, 0, 0, variableSorts[variable]);
            case 5, 6 -> {
                variableSorts[variable] = m.told(0) == 0 ? 0 : sorts[any];
                tell(2, variable, any, 0, variableSorts[variable]);
            }
            case 7, 8 -> {
                tell(3, file, random.nextInt(4), 0, 1);
                variableSorts[variable] = 1;
                tell(2, variable, Math.max(0, m.told(0) - 1), 0, 1);
            }
            case 9 -> tell(4, h, 0, 0, 0);
            case 10, 11 -> tell(5, h, n, 0, 0);
            case 12 -> tell(6, h, 0, 0, 0);
            case 13 -> tell(7, h, 0, 0, 2);
            case 14 -> tell(8, likely(2), n, 0, 0);
            case 15 -> tell(9, likely(2), 0, 0, 0);
            case 16 -> tell(10, h, n, 0, 0);
            case 17 -> tell(11, h, 0, 0, 0);
            case 18 -> tell(12, h, 0, 0, 0);
            case 19 -> tell(13, h, random.nextInt(10), 0, 0);
            case 20 -> tell(14, h, 0, 0, 0);
            case 21 -> tell(15 + random.nextInt(2), file, random.nextInt(4), 0, 0);
            case 22 -> tell(17 + random.nextInt(2), n, 0, 0, 0);
            case 23, 24, 25 -> tell(19, any, other, 0, m.told(0) == 0 ? 0 : sorts[other]);
            case 26 -> tell(20, n, any, other, m.told(0) == 0 ? 0 : sorts[any]);
            case 27 -> tell(21 + random.nextInt(2), n, likely(0), 0, 0);
            case 28 -> {
                tell(0, random.nextBoolean() ? someNumber() : 30 + random.nextInt(600), 0, 0, 0);
                tell(23, Math.max(0, m.told(0) - 1), any, 0, 0);
            }
            case 29 -> tell(24 + random.nextInt(2), random.nextInt(7), 0, 0, 0);
            case 30, 31 -> tell(26, any, other, random.nextBoolean() ? 127 : random.nextInt(128),
                m.told(0) == 0 ? 0 : sorts[any]);
            case 32 -> tell(27, any, other, 0, m.told(0) == 0 ? 0 : sorts[any]);
            default -> tell(28, random.nextBoolean() ? h : any, other, likely(-1), 0);
        }
    }

    private void tell(int code, int a, int b, int c, int sort) {
        int n = ask("node", code, a, b, c);
        if (n >= 0) {
            sorts[n] = sort;
        }
    }

    private void runNode(int node) {
        int ending = ask("run", node);
        if (ending >= 0) {
            seen[ending]++;
        }
        if (ending == Scene.FAILED) {
            failures[m.value()]++;
        }
    }

    /** What costs few calls, behind every run. */
    private void glance() {
        ask("value");
        ask("where");
        ask("worked");
        for (int what = 1; what <= 6; what++) {
            ask("told", what);
        }
        ask("order", random.nextInt(1 + Math.min(301, m.told(6))));
        ask("printed", random.nextInt(1 + Math.min(201, m.told(2))));
        ask("handle", random.nextInt(1 + m.told(4)), random.nextInt(6));
        ask("handle", random.nextInt(1 + m.told(4)), 2 + random.nextInt(4));
        int file = random.nextInt(8);
        ask("size", file);
        ask("content", file, random.nextInt(2 + Math.max(0, m.size(file))) - 1);
    }

    /** All that there is to see, in one of several orders, as far as the calls go. */
    private void lookAround() {
        int a = wild();
        int b = wild();
        ask("order", a);
        ask("printed", a);
        ask("handle", a, b);
        ask("content", a, b);
        ask("size", a);
        ask("told", a);
        int first = random.nextInt(4);
        for (int i = 0; i < 4; i++) {
            switch ((first + i) % 4) {
                case 0 -> lookAtHandles();
                case 1 -> lookAtFiles();
                case 2 -> lookAtOrder();
                default -> lookAtOutput();
            }
        }
    }

    private void lookAtHandles() {
        for (int h = -1; h <= m.told(4); h++) {
            for (int what = -1; what <= 6; what++) {
                ask("handle", h, what);
            }
        }
    }

    private void lookAtFiles() {
        for (int file = -1; file <= 8; file++) {
            ask("size", file);
            for (int i = -1; i <= Math.max(0, m.size(file)); i++) {
                ask("content", file, i);
            }
        }
    }

    private void lookAtOrder() {
        for (int i = -1; i <= Math.min(301, m.told(6)); i++) {
            ask("order", i);
        }
    }

    private void lookAtOutput() {
        for (int i = -1; i <= Math.min(201, m.told(2)); i++) {
            ask("printed", i);
        }
    }
}
