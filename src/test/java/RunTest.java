/** Promises 8, 9 and 11: runs, their values, how many NODES are worked; CODES 0 to 2 and 17 to 25. */
public final class RunTest {
    private static final int NONE = InputOutput.NONE, OUTSIDE = InputOutput.OUTSIDE;

    public static void main(String[] args) {
        outside();
        sorts();
        variables();
        numbers();
        choices();
        wantedSorts();
        times();
        stopped();
        deep();
        freshRuns();
        Check.finish();
    }

    private static void outside() {
        Scene s = new Scene("run outside");
        s.fails("a run", s.fail(Scene.USER), Scene.USER, 0);
        for (int node : new int[] {-1, 1, 60, Integer.MIN_VALUE, Integer.MAX_VALUE}) {
            s.due("run(" + node + ")", s.x.run(node), OUTSIDE);
        }
        s.due("the latest run stays, value", s.x.value(), Scene.USER);
        s.due("the latest run stays, where", s.x.where(), 0);
        s.due("the latest run stays, worked", s.x.worked(), 1);
    }

    private static void sorts() {
        Scene s = new Scene("sorts");
        s.lay(0, 1);
        int open = s.open(0, Scene.READ);
        int lazy = s.lazy(open);
        s.ends("a number", s.num(-5), Scene.A_NUMBER, -5);
        s.ends("a HANDLE", open, Scene.A_HANDLE, 0);
        s.ends("the next HANDLE", s.then(open, open), Scene.A_HANDLE, 1);
        s.ends("a LIST", s.then(open, lazy), Scene.A_LIST, 0);
        s.ends("the next LIST", s.then(lazy, open, lazy), Scene.A_LIST, 1);
        s.due("HANDLES and LISTS are numbered apart", s.x.told(4), 3);
        s.fails("it FAILED", s.fail(Scene.BUSY), Scene.BUSY, s.x.told(0) - 1);
        s.ends("EXIT", s.exit(s.num(-7)), Scene.EXITED, -7);
        s.ends("STOPPED", s.times(s.num(Integer.MAX_VALUE), s.num(3)), Scene.STOPPED, 0);
    }

    private static void variables() {
        Scene s = new Scene("variables");
        for (int v = 0; v < 6; v++) {
            s.number("0 at first", s.get(v), 0);
        }
        int set = s.set(5, s.num(42));
        s.number("SET comes to that", set, 42);
        s.number("GET", s.then(set, s.set(4, s.num(1)), s.get(5)), 42);
        s.number("0 anew in the next run", s.get(5), 0);
        s.lay(0, 1);
        int held = s.set(1, s.open(0, Scene.READ));
        s.ends("SET of a HANDLE", held, Scene.A_HANDLE, 0);
        s.number("a number anew in the next run", s.get(1), 0);
        s.ends("GET of a HANDLE", s.then(held, s.get(1)), Scene.A_HANDLE, 0);
        int list = s.set(2, s.lazy(s.get(1)));
        s.ends("GET of a LIST", s.then(held, list, s.get(2)), Scene.A_LIST, 0);
        s.ends("SET of what FAILS", s.catching(s.set(0, s.fail(6)), s.get(0), 64), Scene.A_NUMBER, 6);
        int failing = s.set(3, s.fail(6));
        s.number("does not set", s.then(s.set(3, s.num(8)), s.catching(failing, s.get(3), 64)), 8);
    }

    private static void numbers() {
        Scene s = new Scene("numbers");
        int most = s.num(Integer.MAX_VALUE);
        int least = s.num(Integer.MIN_VALUE);
        int one = s.num(1);
        s.number("PLUS", s.plus(one, one), 2);
        s.number("PLUS wraps", s.plus(most, one), Integer.MIN_VALUE);
        s.number("LESS", s.less(least, most), 1);
        s.number("LESS", s.less(most, least), 0);
        s.number("LESS of the same", s.less(one, one), 0);
        s.number("PRINT", s.print(most), 1);
        s.due("printed", s.x.printed(0), 255);
        s.number("THEN", s.then(one, most), Integer.MAX_VALUE);
        s.due("worked", s.x.worked(), 3);
    }

    private static void choices() {
        Scene s = new Scene("IF");
        int yes = s.print(s.num(1));
        int no = s.print(s.num(2));
        s.number("not 0", s.iff(s.num(-1), yes, no), 1);
        s.due("worked", s.x.worked(), 4);
        s.number("0", s.iff(s.num(0), yes, no), 2);
        s.due("only one is worked", s.x.told(2), 2);
        s.due("y", s.x.printed(0), 1);
        s.due("z", s.x.printed(1), 2);
        s.lay(0, 1);
        s.ends("any sort", s.iff(s.num(1), s.open(0, 0), no), Scene.A_HANDLE, 0);
    }

    /** What is not of the wanted sort is ILLEGAL as soon as it was worked. */
    private static void wantedSorts() {
        Scene s = new Scene("wanted sorts");
        s.lay(0, 1);
        int h = s.open(0, Scene.READ);
        int list = s.lazy(h);
        int n = s.num(1);
        int mark = s.print(n);
        int[] noNumber = {s.print(h), s.iff(h, mark, mark), s.less(h, mark), s.plus(list, mark),
            s.times(list, mark), s.exit(h), s.print(list), s.iff(list, mark, mark)};
        for (int node : noNumber) {
            s.fails("NODE " + node, node, Scene.ILLEGAL, node);
            s.due("nothing behind it is worked", s.x.told(2), 0);
        }
        int[] noHandle = {s.close(n), s.put(n, mark), s.take(n), s.lazy(n), s.seek(list, mark), s.where(list),
            s.size(n), s.buffer(n, 1), s.flush(list)};
        for (int node : noHandle) {
            s.fails("NODE " + node, node, Scene.ILLEGAL, node);
            s.due("nothing behind it is worked", s.x.told(2), 0);
        }
        int[] noList = {s.item(h, mark), s.item(n, mark), s.length(n), s.length(h)};
        for (int node : noList) {
            s.fails("NODE " + node, node, Scene.ILLEGAL, node);
            s.due("nothing behind it is worked", s.x.told(2), 0);
        }
        int[] secondNoNumber = {s.less(n, h), s.plus(n, h), s.put(h, list), s.item(list, h), s.seek(h, list)};
        for (int node : secondNoNumber) {
            s.fails("NODE " + node, node, Scene.ILLEGAL, node);
        }
        s.fails("a part that FAILS is the one", s.plus(n, s.fail(2)), 2, s.x.told(0) - 2);
    }

    private static void times() {
        Scene s = new Scene("TIMES");
        int print = s.print(s.num(9));
        s.number("three", s.times(s.num(3), print), 0);
        s.due("OUTPUT", s.x.told(2), 3);
        s.due("worked", s.x.worked(), 8);
        s.number("none", s.times(s.num(0), print), 0);
        s.number("below 0", s.times(s.num(-4), print), 0);
        s.number("far below 0", s.times(s.num(Integer.MIN_VALUE), print), 0);
        s.due("OUTPUT", s.x.told(2), 3);
        int third = s.then(s.set(1, s.plus(s.get(1), s.num(1))), s.iff(s.less(s.get(1), s.num(3)), s.num(0), s.fail(6)));
        s.ends("until it FAILS", s.times(s.num(10), third), Scene.FAILED, 6);
        s.number("the count", s.catching(s.times(s.num(10), third), s.get(1), 64), 3);
        s.lay(0, 1);
        s.number("any sort is worked", s.times(s.num(2), s.open(0, 0)), 0);
        s.due("HANDLES", s.x.told(4), 2);
    }

    private static void stopped() {
        Scene s = new Scene("STOPPED");
        int n = s.num(1);
        int exactly = s.times(s.num(598), n);
        s.number("600 are worked", exactly, 0);
        s.due("worked", s.x.worked(), 600);
        int over = s.times(s.num(599), n);
        s.ends("one more", over, Scene.STOPPED, 0);
        s.due("worked", s.x.worked(), 600);
        s.ends("CATCH does not take it", s.catching(over, n, 127), Scene.STOPPED, 0);
        int print = s.print(n);
        s.ends("FINALLY does not", s.ending(over, print), Scene.STOPPED, 0);
        s.ends("BRACKET does not", s.bracket(n, print, over), Scene.STOPPED, 0);
        s.due("no end is worked", s.x.told(2), 0);
        s.ends("nor is it ILLEGAL around them", s.print(s.ending(over, print)), Scene.STOPPED, 0);
        s.ends("it stops in an end, too", s.ending(s.fail(6), over), Scene.STOPPED, 0);
        s.ends("and ahead of EXIT", s.exit(over), Scene.STOPPED, 0);
        s.ends("and with no round left", s.then(exactly, n), Scene.STOPPED, 0);
        int open = s.set(1, s.open(0, Scene.WRITE));
        int put = s.then(s.buffer(s.get(1), 9), s.put(s.get(1), s.num(5)));
        s.ends("HANDLES are closed behind it", s.then(open, put, over), Scene.STOPPED, 0);
        s.handle("the HANDLE", 0, 0, Scene.WRITE, Scene.OPEN, 1, 0, 1);
        s.content("the FILE", 0, 5);
    }

    /** 60 NODES, each a part of the next one, through every part of the CODES that take any number. */
    private static void deep() {
        int[][] partsOf = {{2, 1}, {17, 0}, {19, 0, 1}, {20, 0, 1, 2}, {21, 0, 1}, {22, 0, 1}, {23, 0, 1},
            {26, 0}, {27, 0, 1}, {28, 0, 1, 2}};
        for (int[] entry : partsOf) {
            for (int i = 1; i < entry.length; i++) {
                chain(entry[0], entry[i]);
            }
        }
        deepEnds();
    }

    private static void chain(int code, int part) {
        Scene s = new Scene("chain through part " + part + " of " + code);
        int bottom = s.num(code == 20 && part == 2 ? 0 : 1);
        for (int n = 1; n < 60; n++) {
            int[] parts = {bottom, bottom, bottom};
            parts[part] = n - 1;
            s.due("node", s.x.node(code, parts[0], parts[1], parts[2]), n);
        }
        s.due("run", s.x.run(59), Scene.A_NUMBER);
        s.due("where", s.x.where(), NONE);
        Check.holds("all are worked", s.x.worked() >= 60);
    }

    private static void deepEnds() {
        for (int code : new int[] {4, 5, 8, 9}) {
            Watched x = new Watched();
            x.node(0, 1, 0, 0);
            for (int n = 1; n < 60; n++) {
                Check.due("chain of " + code, x.node(code, n - 1, 0, 0), n);
            }
            Check.due("run of the chain of " + code, x.run(59), Scene.FAILED);
            Check.due("where in the chain of " + code, x.where(), 1);
            Check.due("worked of the chain of " + code, x.worked(), 60);
        }
        Watched x = new Watched();
        x.node(24, 6, 0, 0);
        for (int n = 1; n < 60; n++) {
            Check.due("chain of caught ones", x.node(26, 0, n - 1, 64), n);
        }
        Check.due("run of caught ones", x.run(59), Scene.FAILED);
        Check.due("where of caught ones", x.where(), 0);
        Check.due("worked of caught ones", x.worked(), 119);
    }

    private static void freshRuns() {
        Scene s = new Scene("each run anew");
        s.lay(0, 1, 2);
        int open = s.open(0, Scene.READ);
        int busy = s.open(0, Scene.WRITE);
        s.ends("HELD in a run", s.then(s.lazy(open), s.catching(busy, s.num(8), 1)), Scene.A_NUMBER, 8);
        s.ends("not in the next", s.open(0, Scene.APPEND), Scene.A_HANDLE, 0);
        s.due("HANDLES", s.x.told(4), 1);
        s.due("LISTS", s.x.told(5), 0);
        s.due("no second HANDLE", s.x.handle(1, 0), NONE);
        s.order("ORDER", s.x.told(0) - 1);
        int many = s.times(s.num(20), open);
        s.number("20 HANDLES", many, 0);
        s.number("20 HANDLES again", many, 0);
        s.due("worked", s.x.worked(), 22);
        s.fill(1, 40, 1);
        s.fill(2, 40, 1);
        s.fill(3, 38, 1);
        int write = s.set(1, s.open(4, Scene.WRITE));
        int put = s.put(s.get(1), s.num(5));
        s.number("a BUFFER", s.then(write, s.buffer(s.get(1), 9), put), 0);
        s.fails("none at first", s.then(write, put), Scene.FULL, put);
    }
}
