/**
 * "In one run 600 NODES are worked at most; with the next one it is STOPPED,
 * which nothing takes": around the 600th NODE, through every CODE.
 */
public final class StopTest {
    private static final int NONE = InputOutput.NONE;

    /** THEN, TIMES and its x are worked beside the rounds of spend. */
    private static final int SPENT_AROUND = 3;

    public static void main(String[] args) {
        rounds();
        aPart();
        everyPart();
        nextOnes();
        anEndIsTheNext();
        nothingTakesIt();
        keepsWhatWasDone();
        worksAnew();
        deepest();
        Check.finish();
    }

    /** Works so many NODES, and then this one. */
    private static int spend(Scene s, int nodes, int node) {
        return s.then(s.times(s.num(nodes - SPENT_AROUND), s.num(1)), node);
    }

    private static void stops(Scene s, String what, int node) {
        s.ends(what, node, Scene.STOPPED, 0);
        s.due(what + ", worked", s.x.worked(), 600);
    }

    private static void rounds() {
        Scene s = new Scene("rounds");
        int one = s.num(1);
        for (int rounds = 596; rounds <= 598; rounds++) {
            s.number(rounds + " rounds", s.times(s.num(rounds), one), 0);
            s.due("worked", s.x.worked(), rounds + 2);
        }
        for (int rounds : new int[] {599, 600, 601, 1000, Integer.MAX_VALUE}) {
            stops(s, rounds + " rounds", s.times(s.num(rounds), one));
        }
    }

    /** A NODE counts before its parts are worked, and does nothing if one of them is one too many. */
    private static void aPart() {
        Scene s = new Scene("PRINT");
        int print = s.print(s.num(7));
        s.number("599", spend(s, 597, print), 1);
        s.due("worked", s.x.worked(), 599);
        s.number("600", spend(s, 598, print), 2);
        s.due("worked", s.x.worked(), 600);
        stops(s, "its part is the 601st", spend(s, 599, print));
        s.due("nothing is printed", s.x.told(2), 2);
        s.order("no act");
        stops(s, "it is the 601st itself", spend(s, 600, print));
        s.due("nothing is printed", s.x.told(2), 2);
    }

    /** What is STOPPED in any part goes on through every CODE, and nothing behind it is worked. */
    private static void everyPart() {
        int[][] partsOf = {{2, 1}, {4, 0}, {5, 0, 1}, {6, 0}, {7, 0}, {8, 0, 1}, {9, 0}, {10, 0, 1}, {11, 0}, {12, 0},
            {13, 0}, {14, 0}, {17, 0}, {19, 0, 1}, {20, 0, 1, 2}, {21, 0, 1}, {22, 0, 1}, {23, 0, 1}, {25, 0},
            {26, 0, 1}, {27, 0, 1}, {28, 0, 1, 2}};
        for (int[] entry : partsOf) {
            for (int i = 1; i < entry.length; i++) {
                partStops(entry[0], entry[i]);
            }
        }
    }

    private static void partStops(int code, int part) {
        Scene s = new Scene("part " + part + " of " + code);
        s.lay(0, 1);
        int one = s.num(part == 2 && code == 20 ? 0 : 1);
        int mark = s.print(one);
        int write = s.open(1, Scene.WRITE);
        int lazy = s.lazy(s.open(0, Scene.READ));
        int fail = s.fail(1);
        int stop = s.times(s.num(600), one);
        int[] parts = {one, mark, mark};
        if (part > 0) {
            parts[0] = code == 5 || code == 10 ? write : code == 8 ? lazy : code == 2 ? 3 : code == 26 ? fail : one;
        }
        if (code == 28 && part == 1) {
            parts[2] = one;
        } else if (code == 26) {
            parts[2] = 127;
        } else if (code == 13) {
            parts[1] = 3;
        }
        parts[part] = stop;
        int node = s.x.node(code, parts[0], parts[1], parts[2]);
        stops(s, "alone", node);
        stops(s, "within CATCH and FINALLY", s.ending(s.catching(s.then(node, mark), mark, 127), mark));
        s.due("nothing behind it is worked", s.x.told(2), 0);
    }

    /** The NODE that is one too many is the part that comes next: it does nothing. */
    private static void nextOnes() {
        Scene s = new Scene("the next one");
        int print = s.print(s.num(7));
        int fail = s.fail(6);
        stops(s, "y of THEN", spend(s, 599, s.then(s.num(1), print)));
        stops(s, "y of IF", spend(s, 598, s.iff(s.num(1), print, print)));
        stops(s, "y of CATCH", spend(s, 598, s.catching(fail, print, 127)));
        stops(s, "y of TIMES", spend(s, 598, s.times(s.num(1), print)));
        stops(s, "z of BRACKET", spend(s, 598, s.bracket(s.num(1), print, print)));
        stops(s, "x of EXIT", spend(s, 599, s.exit(s.num(1))));
        stops(s, "b of PLUS", spend(s, 598, s.plus(s.num(1), print)));
        s.due("nothing is printed", s.x.told(2), 0);
        s.ends("EXIT as the 599th", spend(s, 598, s.exit(s.num(4))), Scene.EXITED, 4);
        s.due("worked", s.x.worked(), 600);
        s.fails("FAIL as the 600th", spend(s, 599, fail), Scene.USER, fail);
        s.due("worked", s.x.worked(), 600);
        stops(s, "FAIL as the 601st", spend(s, 600, fail));
    }

    /** An end for which no NODE is left takes over what was on its way. */
    private static void anEndIsTheNext() {
        Scene s = new Scene("an end");
        int one = s.num(1);
        int fail = s.fail(6);
        int exit = s.exit(one);
        s.fails("the 600th, of a failure", spend(s, 597, s.ending(fail, one)), Scene.USER, fail);
        s.due("worked", s.x.worked(), 600);
        stops(s, "the 601st, of a failure", spend(s, 598, s.ending(fail, one)));
        s.ends("the 600th, of EXIT", spend(s, 596, s.ending(exit, one)), Scene.EXITED, 1);
        stops(s, "the 601st, of EXIT", spend(s, 597, s.ending(exit, one)));
        s.number("the 600th, of a VALUE", spend(s, 597, s.ending(one, one)), 1);
        stops(s, "the 601st, of a VALUE", spend(s, 598, s.ending(one, one)));
        s.fails("the 600th, of BRACKET", spend(s, 596, s.bracket(one, one, fail)), Scene.USER, fail);
        stops(s, "the 601st, of BRACKET", spend(s, 597, s.bracket(one, one, fail)));
    }

    private static void nothingTakesIt() {
        Scene s = new Scene("nothing takes it");
        int mark = s.print(s.num(1));
        int stop = s.times(s.num(600), s.num(1));
        stops(s, "CATCH", s.catching(stop, mark, 127));
        stops(s, "FINALLY", s.ending(stop, mark));
        stops(s, "FINALLY, y", s.ending(s.fail(2), stop));
        stops(s, "BRACKET, x", s.bracket(stop, mark, mark));
        stops(s, "BRACKET, z", s.bracket(s.num(1), mark, stop));
        stops(s, "BRACKET, y", s.bracket(s.num(1), stop, s.fail(2)));
        stops(s, "all", s.catching(s.ending(s.bracket(s.num(1), mark, stop), mark), mark, 127));
        s.due("nothing is printed", s.x.told(2), 0);
    }

    /** What was done ahead of the 601st NODE stays, and is told. */
    private static void keepsWhatWasDone() {
        Scene s = new Scene("what was done");
        s.lay(0, 5);
        s.x.input(9);
        int open = s.open(1, Scene.WRITE);
        int keep = s.set(1, open);
        int put = s.put(s.get(1), s.num(65));
        int read = s.read();
        int length = s.length(s.lazy(s.open(0, Scene.READ)));
        int first = length - 2;
        int stop = s.times(s.num(600), s.num(1));
        stops(s, "a run", s.then(keep, put, read, length, stop));
        s.order("THE ORDER", open, put, read, first, length);
        s.handle("the first", 0, 1, Scene.WRITE, Scene.OPEN, 1, 0, 1);
        s.handle("the second", 1, 0, Scene.READ, Scene.CLOSED, 0, 1, 0);
        s.due("HANDLES", s.x.told(4), 2);
        s.due("LISTS", s.x.told(5), 1);
        s.due("THE INPUT", s.x.told(1), 0);
        s.content("the FILE", 1, 65);
    }

    private static void worksAnew() {
        Scene s = new Scene("each run anew");
        int exactly = s.times(s.num(598), s.num(1));
        for (int i = 0; i < 3; i++) {
            s.number("600 each", exactly, 0);
            s.due("worked", s.x.worked(), 600);
        }
        stops(s, "STOPPED", s.times(s.num(599), s.num(1)));
        s.number("behind that", exactly, 0);
        s.due("worked", s.x.worked(), 600);
        s.number("one", s.num(8), 8);
        s.due("worked", s.x.worked(), 1);
        s.due("a refused run", s.x.run(60), InputOutput.OUTSIDE);
        s.due("worked stays", s.x.worked(), 1);
        s.due("where stays", s.x.where(), NONE);
    }

    /** 60 NODES, each within the next, whose work doubles: it ends with the 600th. */
    private static void deepest() {
        for (int code : new int[] {19, 21, 22, 27, 28}) {
            Watched x = new Watched();
            x.node(0, 1, 0, 0);
            for (int n = 1; n < 60; n++) {
                Check.due("NODE of " + code, x.node(code, n - 1, n - 1, n - 1), n);
            }
            Check.due("the work of " + code, x.run(59), Scene.STOPPED);
            Check.due("worked of " + code, x.worked(), 600);
            Check.due("value of " + code, x.value(), 0);
            int small = code == 28 ? 5 : 8;
            Check.due("less work of " + code, x.run(small), Scene.A_NUMBER);
            Check.due("worked of " + code, x.worked(), code == 28 ? 364 : 511);
        }
    }
}
