/** An object with names for its CODES, so that tests read as what they tell. */
final class Scene {
    static final int READ = 0, WRITE = 1, APPEND = 2, BOTH = 3;
    static final int BUSY = 0, ABSENT = 1, DENIED = 2, END = 3, ILLEGAL = 4, FULL = 5, USER = 6;
    static final int A_NUMBER = 0, A_HANDLE = 1, A_LIST = 2, FAILED = 3, EXITED = 4, STOPPED = 5;
    static final int OPEN = 0, HALF = 1, CLOSED = 2;

    final Watched x = new Watched();
    private final String name;

    Scene(String name) {
        this.name = name;
    }

    private int tell(int code, int a, int b, int c) {
        int n = x.node(code, a, b, c);
        Check.holds(name + ": node(" + code + ", " + a + ", " + b + ", " + c + ") is taken", n >= 0);
        return n;
    }

    int num(int v) { return tell(0, v, -9, -9); }
    int get(int variable) { return tell(1, variable, -9, -9); }
    int set(int variable, int y) { return tell(2, variable, y, -9); }
    int open(int file, int mode) { return tell(3, file, mode, -9); }
    int close(int h) { return tell(4, h, -9, -9); }
    int put(int h, int y) { return tell(5, h, y, -9); }
    int take(int h) { return tell(6, h, -9, -9); }
    int lazy(int h) { return tell(7, h, -9, -9); }
    int item(int list, int y) { return tell(8, list, y, -9); }
    int length(int list) { return tell(9, list, -9, -9); }
    int seek(int h, int y) { return tell(10, h, y, -9); }
    int where(int h) { return tell(11, h, -9, -9); }
    int size(int h) { return tell(12, h, -9, -9); }
    int buffer(int h, int b) { return tell(13, h, b, -9); }
    int flush(int h) { return tell(14, h, -9, -9); }
    int remove(int file) { return tell(15, file, -9, -9); }
    int rename(int from, int to) { return tell(16, from, to, -9); }
    int print(int y) { return tell(17, y, -9, -9); }
    int read() { return tell(18, -9, -9, -9); }
    int iff(int c, int y, int z) { return tell(20, c, y, z); }
    int less(int a, int b) { return tell(21, a, b, -9); }
    int plus(int a, int b) { return tell(22, a, b, -9); }
    int times(int a, int b) { return tell(23, a, b, -9); }
    int fail(int kind) { return tell(24, kind, -9, -9); }
    int exit(int a) { return tell(25, a, -9, -9); }
    int catching(int a, int b, int kinds) { return tell(26, a, b, kinds); }
    int ending(int a, int b) { return tell(27, a, b, -9); }
    int bracket(int a, int b, int c) { return tell(28, a, b, c); }

    /** Any number of nodes, one behind the other. */
    int then(int first, int... others) {
        int n = first;
        for (int other : others) {
            n = tell(19, n, other, -9);
        }
        return n;
    }

    void lay(int file, int... bytes) {
        for (int v : bytes) {
            Check.holds(name + ": a byte is laid", x.lay(file, v) > 0);
        }
    }

    void fill(int file, int count, int v) {
        for (int i = 0; i < count; i++) {
            lay(file, v);
        }
    }

    void due(String what, long got, long want) {
        Check.due(name + ": " + what, got, want);
    }

    /** A run that comes to a number. */
    void number(String what, int node, int want) {
        ends(what, node, A_NUMBER, want);
    }

    void ends(String what, int node, int ending, int value) {
        due(what + ", run", x.run(node), ending);
        due(what + ", value", x.value(), value);
        if (ending != FAILED) {
            due(what + ", where", x.where(), InputOutput.NONE);
        }
    }

    void fails(String what, int node, int kind, int culprit) {
        ends(what, node, FAILED, kind);
        due(what + ", where", x.where(), culprit);
    }

    void order(String what, int... nodes) {
        due(what + ", told(6)", x.told(6), nodes.length);
        for (int i = 0; i < nodes.length; i++) {
            due(what + ", order(" + i + ")", x.order(i), nodes[i]);
        }
        due(what + ", order behind the last", x.order(nodes.length), InputOutput.NONE);
    }

    void content(String what, int file, int... bytes) {
        due(what + ", size(" + file + ")", x.size(file), bytes.length);
        for (int i = 0; i < bytes.length; i++) {
            due(what + ", content(" + file + ", " + i + ")", x.content(file, i), bytes[i]);
        }
        due(what + ", content behind the last", x.content(file, bytes.length), InputOutput.NONE);
    }

    void handle(String what, int h, int... facts) {
        for (int i = 0; i < facts.length; i++) {
            due(what + ", handle(" + h + ", " + i + ")", x.handle(h, i), facts[i]);
        }
    }
}
