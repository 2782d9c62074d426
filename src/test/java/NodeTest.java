/** Promise 6: which NODES are taken. */
public final class NodeTest {
    private static final int OUTSIDE = InputOutput.OUTSIDE, ROOM = InputOutput.ROOM;
    private static final int WILD = -77;

    /** For each CODE the number of values that a, b, c may have: 0 any, -1 a NODE of lesser number. */
    static final int[][] PARTS = {
        {0, 0, 0}, {6, 0, 0}, {6, -1, 0}, {8, 4, 0}, {-1, 0, 0}, {-1, -1, 0}, {-1, 0, 0}, {-1, 0, 0},
        {-1, -1, 0}, {-1, 0, 0}, {-1, -1, 0}, {-1, 0, 0}, {-1, 0, 0}, {-1, 10, 0}, {-1, 0, 0}, {8, 0, 0},
        {8, 8, 0}, {-1, 0, 0}, {0, 0, 0}, {-1, -1, 0}, {-1, -1, -1}, {-1, -1, 0}, {-1, -1, 0}, {-1, -1, 0},
        {7, 0, 0}, {-1, 0, 0}, {-1, -1, 128}, {-1, -1, 0}, {-1, -1, -1}};

    public static void main(String[] args) {
        for (int code = 0; code < PARTS.length; code++) {
            for (int part = 0; part < 3; part++) {
                edges(code, part);
            }
            firstOfAll(code);
        }
        codes();
        room();
        Check.finish();
    }

    /** All parts are good but for the one that is tried at its edges. */
    private static void edges(int code, int part) {
        int told = 5;
        int bound = PARTS[code][part];
        int last = (bound < 0 ? told : bound) - 1;
        int[] tries = {0, last, -1, last + 1, Integer.MIN_VALUE, Integer.MAX_VALUE};
        for (int i = 0; i < tries.length; i++) {
            Watched x = new Watched();
            for (int n = 0; n < told; n++) {
                x.node(0, n, 0, 0);
            }
            int[] parts = new int[3];
            for (int p = 0; p < 3; p++) {
                parts[p] = PARTS[code][p] == 0 ? WILD : 0;
            }
            parts[part] = tries[i];
            boolean good = bound == 0 || i < 2;
            String call = "node(" + code + ", " + parts[0] + ", " + parts[1] + ", " + parts[2] + ")";
            Check.due(call, x.node(code, parts[0], parts[1], parts[2]), good ? told : OUTSIDE);
            Check.due("NODES behind " + call, x.told(0), good ? told + 1 : told);
        }
    }

    /** The first NODE has none of lesser number. */
    private static void firstOfAll(int code) {
        Watched x = new Watched();
        boolean needsNode = false;
        for (int part : PARTS[code]) {
            needsNode = needsNode || part < 0;
        }
        Check.due("node(" + code + ", 0, 0, 0) as the first", x.node(code, 0, 0, 0), needsNode ? OUTSIDE : 0);
    }

    private static void codes() {
        Watched x = new Watched();
        for (int code : new int[] {-1, 29, Integer.MIN_VALUE, Integer.MAX_VALUE}) {
            Check.due("CODE " + code, x.node(code, 0, 0, 0), OUTSIDE);
        }
        Check.due("the first that is taken", x.node(0, 0, 0, 0), 0);
    }

    private static void room() {
        Watched x = new Watched();
        for (int n = 0; n < 60; n++) {
            Check.due("node " + n, x.node(0, n, 0, 0), n);
        }
        Check.due("the 61st", x.node(0, 0, 0, 0), ROOM);
        Check.due("the 61st with a NODE", x.node(17, 59, 0, 0), ROOM);
        Check.due("OUTSIDE is asked first", x.node(17, 60, 0, 0), OUTSIDE);
        Check.due("OUTSIDE is asked first", x.node(29, 0, 0, 0), OUTSIDE);
        Check.due("60 stay", x.told(0), 60);
        Check.due("the last one works", x.run(59), 0);
        Check.due("its value", x.value(), 59);
        Check.due("clear", x.clear(), 60);
        Check.due("room again", x.node(0, 0, 0, 0), 0);
    }
}
