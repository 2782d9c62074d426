import java.util.ArrayList;
import java.util.List;

/**
 * "Calls answer, the first of these that fits: OUTSIDE (a number that is not as
 * told), ROOM; then nothing changes": two objects go the same way, but one of
 * them is asked what it refuses; all that they answer behind it is the same.
 */
public final class UnchangedTest {
    private static final int NONE = InputOutput.NONE, OUTSIDE = InputOutput.OUTSIDE, ROOM = InputOutput.ROOM;
    private static final int LEAST = Integer.MIN_VALUE, MOST = Integer.MAX_VALUE;
    private static final int EMPTY = 0, FURNISHED = 1, FULL_FILE = 2, CROWDED = 3, WORLDS = 4;

    /** A call and the answer that is due. */
    private record Call(String name, int[] p, int due) {
    }

    public static void main(String[] args) {
        for (int world = 0; world < WORLDS; world++) {
            for (Call call : outsideCalls()) {
                changesNothing(world, call);
            }
            for (Call call : lookingCalls(world)) {
                changesNothing(world, call);
            }
        }
        changesNothing(FULL_FILE, call("lay", ROOM, 5, 1));
        for (Call call : callsWithoutRoom()) {
            changesNothing(CROWDED, call);
        }
        Check.finish();
    }

    private static Call call(String name, int due, int... p) {
        return new Call(name, p, due);
    }

    private static int answer(Watched x, Call c) {
        int[] p = c.p();
        return switch (c.name()) {
            case "lay" -> x.lay(p[0], p[1]);
            case "there" -> x.there(p[0], p[1] != 0);
            case "permit" -> x.permit(p[0], p[1]);
            case "input" -> x.input(p[0]);
            case "node" -> x.node(p[0], p[1], p[2], p[3]);
            case "run" -> x.run(p[0]);
            case "order" -> x.order(p[0]);
            case "handle" -> x.handle(p[0], p[1]);
            case "content" -> x.content(p[0], p[1]);
            case "size" -> x.size(p[0]);
            case "printed" -> x.printed(p[0]);
            default -> x.told(p[0]);
        };
    }

    /** Refused in every world, also where there is no ROOM: OUTSIDE comes first. */
    private static List<Call> outsideCalls() {
        List<Call> calls = new ArrayList<>();
        for (int file : new int[] {-1, 8, LEAST, MOST}) {
            calls.add(call("lay", OUTSIDE, file, 1));
            calls.add(call("there", OUTSIDE, file, 1));
            calls.add(call("there", OUTSIDE, file, 0));
            calls.add(call("permit", OUTSIDE, file, 0));
            calls.add(call("content", OUTSIDE, file, 0));
            calls.add(call("content", OUTSIDE, file, -1));
            calls.add(call("size", OUTSIDE, file));
        }
        for (int v : new int[] {-1, 256, LEAST, MOST}) {
            calls.add(call("lay", OUTSIDE, 0, v));
            calls.add(call("lay", OUTSIDE, 3, v));
            calls.add(call("lay", OUTSIDE, 5, v));
            calls.add(call("input", OUTSIDE, v));
        }
        for (int bits : new int[] {-1, 4, LEAST, MOST}) {
            calls.add(call("permit", OUTSIDE, 0, bits));
            calls.add(call("permit", OUTSIDE, 2, bits));
        }
        for (int node : new int[] {-1, 60, LEAST, MOST}) {
            calls.add(call("run", OUTSIDE, node));
        }
        for (int what : new int[] {-1, 6, LEAST, MOST}) {
            calls.add(call("handle", OUTSIDE, 0, what));
            calls.add(call("handle", OUTSIDE, -1, what));
        }
        for (int what : new int[] {-1, 7, LEAST, MOST}) {
            calls.add(call("told", OUTSIDE, what));
        }
        outsideNodes(calls);
        return calls;
    }

    /** One part at a time is wrong; NODE 60 is never told. */
    private static void outsideNodes(List<Call> calls) {
        int[][] bounds = NodeTest.PARTS;
        for (int code = 0; code < bounds.length; code++) {
            for (int part = 0; part < 3; part++) {
                int bound = bounds[code][part];
                if (bound == 0) {
                    continue;
                }
                for (int wrong : new int[] {-1, bound < 0 ? 60 : bound}) {
                    int[] p = {code, 0, 0, 0};
                    p[part + 1] = wrong;
                    calls.add(new Call("node", p, OUTSIDE));
                }
            }
        }
        for (int code : new int[] {-1, 29, LEAST, MOST}) {
            calls.add(call("node", OUTSIDE, code, 0, 0, 0));
        }
    }

    private static List<Call> lookingCalls(int world) {
        List<Call> calls = new ArrayList<>();
        for (int i : new int[] {-1, 300, LEAST, MOST}) {
            calls.add(call("order", NONE, i));
            calls.add(call("printed", NONE, i));
            calls.add(call("handle", NONE, i, 0));
            calls.add(call("content", NONE, 0, i));
            calls.add(call("content", NONE, 1, i));
        }
        calls.add(call("size", NONE, 7));
        calls.add(call("content", NONE, 7, 0));
        calls.add(call("size", world == EMPTY ? NONE : 2, 0));
        calls.add(call("content", world == EMPTY ? NONE : 11, 0, 0));
        calls.add(call("printed", world == EMPTY ? NONE : 77, 0));
        calls.add(call("order", world == EMPTY ? NONE : 2, 0));
        calls.add(call("handle", world == EMPTY ? NONE : 1, 0, 2));
        calls.add(call("told", world == EMPTY ? 0 : 1, 5));
        return calls;
    }

    private static List<Call> callsWithoutRoom() {
        List<Call> calls = new ArrayList<>();
        calls.add(call("lay", ROOM, 0, 1));
        calls.add(call("lay", ROOM, 5, 1));
        calls.add(call("lay", ROOM, 7, 1));
        calls.add(call("input", ROOM, 0));
        calls.add(call("input", ROOM, 255));
        for (int code = 0; code < NodeTest.PARTS.length; code++) {
            calls.add(call("node", ROOM, code, 0, 0, 0));
        }
        return calls;
    }

    private static Watched made(int world) {
        Watched x = new Watched();
        if (world == EMPTY) {
            return x;
        }
        furnish(x);
        for (int i = 0; i < 40 && world != FURNISHED; i++) {
            x.lay(5, i);
        }
        if (world == CROWDED) {
            crowd(x);
        }
        return x;
    }

    /** NODES 0 to 8, and a run that FAILED, with a HANDLE, a LIST and something printed. */
    private static void furnish(Watched x) {
        x.lay(0, 11);
        x.lay(0, 22);
        x.there(1, true);
        x.permit(2, 1);
        x.input(5);
        x.input(6);
        x.node(0, 77, 0, 0);
        x.node(17, 0, 0, 0);
        x.node(3, 0, 0, 0);
        x.node(7, 2, 0, 0);
        x.node(0, 0, 0, 0);
        x.node(8, 3, 4, 0);
        x.node(24, 6, 0, 0);
        x.node(19, 5, 1, 0);
        x.node(19, 7, 6, 0);
        x.run(8);
    }

    /** No ROOM for a byte of a FILE, of THE DISK or of THE INPUT, or for a NODE. */
    private static void crowd(Watched x) {
        for (int i = 0; i < 40; i++) {
            x.lay(6, i);
        }
        for (int i = 0; i < 38; i++) {
            x.lay(4, i);
        }
        for (int i = 2; i < 100; i++) {
            x.input(i);
        }
        while (x.told(0) < 60) {
            x.node(18, 0, 0, 0);
        }
    }

    private static void changesNothing(int world, Call c) {
        Watched plain = made(world);
        Watched asked = made(world);
        StringBuilder name = new StringBuilder("world " + world + ", " + c.name() + "(");
        for (int i = 0; i < c.p().length; i++) {
            name.append(i == 0 ? "" : ", ").append(c.p()[i]);
        }
        name.append(")");
        Check.due(name.toString(), answer(asked, c), c.due());
        same(name.toString(), plain, asked);
    }

    private static void same(String name, Watched plain, Watched asked) {
        int[] one = everything(plain);
        int[] other = everything(asked);
        for (int i = 0; i < one.length; i++) {
            Check.due("answer " + i + " behind " + name, other[i], one[i]);
        }
    }

    /** Looks first, and then does what shows the rest: PERMITS, NODES, THE INPUT. */
    private static int[] everything(Watched x) {
        List<Integer> answers = new ArrayList<>();
        look(x, answers);
        for (int file = 0; file < 8; file++) {
            answers.add(x.permit(file, 3));
        }
        for (int node : new int[] {0, 1, 2, 5, 7, 8, 9, 59}) {
            answers.add(x.run(node));
            answers.add(x.value());
            answers.add(x.where());
        }
        answers.add(x.node(18, 0, 0, 0));
        answers.add(x.input(9));
        answers.add(x.lay(0, 9));
        answers.add(x.lay(7, 9));
        answers.add(x.there(1, false));
        answers.add(x.clear());
        answers.add(x.told(1));
        answers.add(x.told(3));
        int[] row = new int[answers.size()];
        for (int i = 0; i < row.length; i++) {
            row[i] = answers.get(i);
        }
        return row;
    }

    private static void look(Watched x, List<Integer> answers) {
        for (int what = 0; what <= 6; what++) {
            answers.add(x.told(what));
        }
        answers.add(x.value());
        answers.add(x.where());
        answers.add(x.worked());
        for (int i = 0; i < 4; i++) {
            answers.add(x.order(i));
            answers.add(x.printed(i));
        }
        for (int what = 0; what <= 5; what++) {
            answers.add(x.handle(0, what));
            answers.add(x.handle(1, what));
        }
        for (int file = 0; file < 8; file++) {
            answers.add(x.size(file));
            answers.add(x.content(file, 0));
            answers.add(x.content(file, 1));
            answers.add(x.content(file, 39));
        }
    }
}
