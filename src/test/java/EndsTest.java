/** Promise 10 and CODES 24 to 28: errors that are caught or passed on, and ends that are always worked. */
public final class EndsTest {
    private static final int NONE = InputOutput.NONE;

    public static void main(String[] args) {
        kinds();
        catching();
        exits();
        finals();
        finalsTakeOver();
        brackets();
        bracketsWithHandles();
        where();
        passedOn();
        comesToValue();
        Check.finish();
    }

    private static void kinds() {
        Scene s = new Scene("FAIL");
        for (int kind = 0; kind <= 6; kind++) {
            int fail = s.fail(kind);
            s.fails("KIND " + kind, fail, kind, fail);
        }
    }

    private static void catching() {
        Scene s = new Scene("CATCH");
        int kept = s.get(0);
        for (int kind = 0; kind <= 6; kind++) {
            int fail = s.fail(kind);
            s.number("its KIND alone", s.catching(fail, kept, 1 << kind), kind);
            s.fails("all others", s.catching(fail, kept, 127 - (1 << kind)), kind, fail);
        }
        s.due("worked", s.x.worked(), 2);
        int fail = s.fail(6);
        s.fails("no KIND", s.catching(fail, kept, 0), 6, fail);
        int set = s.set(0, s.num(44));
        s.fails("VARIABLE 0 stays then", s.catching(s.then(set, fail), kept, 1), 6, fail);
        s.number("no failure", s.catching(set, fail, 127), 44);
        int late = s.fail(3);
        s.fails("y FAILS", s.catching(fail, late, 127), 3, late);
        s.number("one around the other", s.catching(s.catching(fail, late, 64), kept, 8), 3);
        s.lay(0, 1);
        s.ends("y of any sort", s.catching(fail, s.open(0, 0), 64), Scene.A_HANDLE, 0);
    }

    private static void exits() {
        Scene s = new Scene("EXIT");
        int one = s.num(1);
        int exit = s.exit(s.num(12));
        s.ends("CATCH does not take it", s.catching(exit, one, 127), Scene.EXITED, 12);
        s.due("worked", s.x.worked(), 3);
        s.ends("THEN", s.then(exit, one), Scene.EXITED, 12);
        s.ends("PLUS", s.plus(one, exit), Scene.EXITED, 12);
        s.ends("TIMES", s.times(s.num(9), exit), Scene.EXITED, 12);
        s.due("worked", s.x.worked(), 4);
        s.ends("SET", s.set(0, exit), Scene.EXITED, 12);
        s.ends("IF", s.iff(exit, one, one), Scene.EXITED, 12);
        s.ends("PRINT", s.print(exit), Scene.EXITED, 12);
        s.ends("CLOSE", s.close(exit), Scene.EXITED, 12);
        s.ends("LENGTH", s.length(exit), Scene.EXITED, 12);
        s.ends("in EXIT", s.exit(s.then(exit, one)), Scene.EXITED, 12);
        s.ends("once caught", s.catching(s.fail(1), exit, 2), Scene.EXITED, 12);
    }

    private static void finals() {
        Scene s = new Scene("FINALLY");
        int one = s.num(1);
        int end = s.print(s.num(7));
        s.number("the VALUE of x", s.ending(one, end), 1);
        s.due("y was worked", s.x.told(2), 1);
        s.due("worked", s.x.worked(), 4);
        s.lay(0, 1);
        s.ends("of any sort", s.ending(s.open(0, 0), end), Scene.A_HANDLE, 0);
        s.ends("a LIST", s.ending(s.lazy(s.open(0, 0)), end), Scene.A_LIST, 0);
        int fail = s.fail(2);
        s.fails("x FAILS", s.ending(fail, end), 2, fail);
        s.due("y was worked", s.x.told(2), 4);
        s.ends("EXIT", s.ending(s.exit(one), end), Scene.EXITED, 1);
        s.due("y was worked", s.x.told(2), 5);
        int other = s.fail(5);
        int caught = s.catching(other, one, 127);
        s.fails("y catches within itself", s.ending(fail, caught), 2, fail);
        s.number("the KIND that goes on", s.catching(s.ending(fail, caught), s.get(0), 4), 2);
        s.fails("y is any sort", s.ending(fail, s.open(0, 0)), 2, fail);
    }

    private static void finalsTakeOver() {
        Scene s = new Scene("FINALLY, y goes on instead");
        int one = s.num(1);
        int fail = s.fail(2);
        int late = s.fail(5);
        int exit = s.exit(one);
        int lateExit = s.exit(s.num(9));
        s.fails("of a VALUE", s.ending(one, late), 5, late);
        s.fails("of a failure", s.ending(fail, late), 5, late);
        s.fails("of EXIT", s.ending(exit, late), 5, late);
        s.ends("EXIT of a VALUE", s.ending(one, lateExit), Scene.EXITED, 9);
        s.ends("EXIT of a failure", s.ending(fail, lateExit), Scene.EXITED, 9);
        s.ends("EXIT of EXIT", s.ending(exit, lateExit), Scene.EXITED, 9);
        s.number("caught once it FAILED instead", s.catching(s.ending(exit, late), s.get(0), 32), 5);
    }

    private static void brackets() {
        Scene s = new Scene("BRACKET");
        int five = s.get(5);
        int seven = s.num(7);
        int show = s.print(five);
        s.number("VARIABLE 5 in z", s.bracket(seven, s.num(0), five), 7);
        s.number("the VALUE of z", s.bracket(seven, show, s.set(5, s.num(8))), 8);
        s.due("VARIABLE 5 is that again in y", s.x.printed(0), 7);
        s.number("and stays so", s.then(s.bracket(seven, show, s.set(5, s.num(8))), five), 7);
        int fail = s.fail(3);
        s.fails("x FAILS", s.bracket(fail, show, show), 3, fail);
        s.due("nothing else is worked", s.x.told(2), 2);
        s.due("worked", s.x.worked(), 2);
        s.ends("x is EXIT", s.bracket(s.exit(seven), show, show), Scene.EXITED, 7);
        s.due("nothing else is worked", s.x.told(2), 2);
        s.fails("z FAILS", s.bracket(seven, show, fail), 3, fail);
        s.due("y is worked", s.x.told(2), 3);
        s.ends("z is EXIT", s.bracket(seven, show, s.exit(five)), Scene.EXITED, 7);
        s.due("y is worked", s.x.told(2), 4);
        int late = s.fail(1);
        s.fails("y FAILS instead", s.bracket(seven, late, fail), 1, late);
        s.ends("y is EXIT instead", s.bracket(seven, s.exit(five), fail), Scene.EXITED, 7);
        int inner = s.bracket(s.num(8), show, five);
        s.number("one in the other", s.bracket(seven, show, inner), 8);
        s.due("the inner end first", s.x.printed(4), 8);
        s.due("the outer end behind it", s.x.printed(5), 7);
    }

    private static void bracketsWithHandles() {
        Scene s = new Scene("BRACKET of a HANDLE");
        int open = s.open(0, Scene.WRITE);
        int close = s.close(s.get(5));
        int put = s.put(s.get(5), s.num(5));
        int fail = s.fail(6);
        s.fails("it is closed", s.bracket(open, close, s.then(put, fail)), 6, fail);
        s.order("ORDER", open, put, close);
        s.due("CLOSED", s.x.handle(0, 2), Scene.CLOSED);
        s.number("so it can be opened anew", s.then(s.bracket(open, close, put), s.bracket(open, close, put)), 0);
        s.due("HANDLES", s.x.told(4), 2);
        s.ends("the HANDLE as z's VALUE", s.bracket(open, close, s.get(5)), Scene.A_HANDLE, 0);
        s.due("CLOSED", s.x.handle(0, 2), Scene.CLOSED);
    }

    private static void where() {
        Scene s = new Scene("where");
        int fail = s.fail(6);
        int deep = s.ending(s.then(s.num(1), s.set(1, fail)), s.num(2));
        s.fails("the one whose own doing it was", deep, 6, fail);
        s.number("caught", s.catching(deep, s.num(3), 64), 3);
        s.due("none", s.x.where(), NONE);
        int other = s.fail(1);
        int caught = s.catching(other, s.num(3), 2);
        s.fails("an earlier one was caught", s.then(caught, fail), 6, fail);
        s.fails("a later one was caught", s.ending(fail, caught), 6, fail);
        s.fails("the same of BRACKET", s.bracket(s.num(1), caught, fail), 6, fail);
        int absent = s.open(7, Scene.READ);
        int close = s.close(absent);
        s.fails("a part", close, Scene.ABSENT, absent);
        int sort = s.close(s.num(1));
        s.fails("the wrong sort is the doing of the one that wants it", s.then(sort, fail), Scene.ILLEGAL, sort);
        s.x.clear();
        s.due("clear leaves it", s.x.where(), sort);
    }

    /** What FAILS or is EXIT in any part goes on through every CODE, and nothing behind it is worked. */
    private static void passedOn() {
        int[][] partsOf = {{2, 1}, {4, 0}, {5, 0, 1}, {6, 0}, {7, 0}, {8, 0, 1}, {9, 0}, {10, 0, 1}, {11, 0}, {12, 0},
            {13, 0}, {14, 0}, {17, 0}, {19, 0, 1}, {20, 0, 1, 2}, {21, 0, 1}, {22, 0, 1}, {23, 0, 1}, {25, 0},
            {26, 0, 1}, {27, 0, 1}, {28, 0, 1, 2}};
        for (int[] entry : partsOf) {
            for (int i = 1; i < entry.length; i++) {
                passedOn(entry[0], entry[i], false);
                passedOn(entry[0], entry[i], true);
            }
        }
    }

    private static void passedOn(int code, int part, boolean byExit) {
        Scene s = new Scene("part " + part + " of " + code);
        s.lay(0, 1);
        int one = s.num(part == 2 && code == 20 ? 0 : 1);
        int write = s.open(1, Scene.WRITE);
        int lazy = s.lazy(s.open(0, Scene.READ));
        int caught = s.fail(1);
        int bad = byExit ? s.exit(s.num(6)) : s.fail(6);
        int[] parts = {one, one, one};
        if (code == 5 || code == 10) {
            parts[0] = write;
        } else if (code == 8) {
            parts[0] = lazy;
        } else if (code == 2) {
            parts[0] = 3;
        } else if (code == 26) {
            parts[0] = caught;
            parts[2] = 2;
        } else if (code == 13) {
            parts[1] = 3;
        }
        parts[part] = bad;
        int node = s.x.node(code, parts[0], parts[1], parts[2]);
        int whole = s.then(node, s.print(one));
        if (byExit) {
            s.ends("EXIT", whole, Scene.EXITED, 6);
        } else {
            s.fails("FAIL", whole, 6, bad);
        }
        s.due("nothing behind it is worked", s.x.told(2), 0);
    }

    /** What came to a VALUE is no failure for what stands around it. */
    private static void comesToValue() {
        Scene s = new Scene("a VALUE within");
        s.lay(0, 4, 5);
        int lazy = s.lazy(s.open(0, Scene.READ));
        int fail = s.fail(1);
        s.number("of FINALLY", s.length(s.ending(lazy, s.num(0))), 2);
        s.number("of BRACKET", s.length(s.bracket(s.num(1), s.num(0), lazy)), 2);
        s.number("of CATCH", s.length(s.catching(lazy, fail, 127)), 2);
        s.number("of CATCH that took one", s.length(s.catching(fail, lazy, 127)), 2);
        s.number("of IF", s.length(s.iff(s.num(0), fail, lazy)), 2);
        s.number("of THEN", s.length(s.then(s.num(0), lazy)), 2);
        s.number("of SET", s.length(s.set(3, lazy)), 2);
    }
}
