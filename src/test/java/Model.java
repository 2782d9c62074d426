import java.util.ArrayList;
import java.util.List;

/**
 * The document a second time, written with the library and with exceptions, as
 * far from the class's own ways as it goes: WildTest compares the two.
 */
final class Model {
    private static final int NONE = -1, OUTSIDE = -2, ROOM = -3;

    private static final class Failure extends RuntimeException {
        private static final long serialVersionUID = 1L;
        final int kind;
        final int node;

        Failure(int kind, int node) {
            super(null, null, false, false);
            this.kind = kind;
            this.node = node;
        }
    }

    private static final class Exit extends RuntimeException {
        private static final long serialVersionUID = 1L;
        final int number;

        Exit(int number) {
            super(null, null, false, false);
            this.number = number;
        }
    }

    private static final class Stop extends RuntimeException {
        private static final long serialVersionUID = 1L;

        Stop() {
            super(null, null, false, false);
        }
    }

    private record Value(int sort, int number) {
    }

    private record Node(int code, int a, int b, int c) {
    }

    private static final class Opened {
        int file, mode, place, kind, state, put, taken, laid;
        final List<Integer> waiting = new ArrayList<>();
    }

    private static final class Lazy {
        Opened source;
        final List<Integer> items = new ArrayList<>();
    }

    private final List<List<Integer>> files = new ArrayList<>();
    private final int[] permits = {3, 3, 3, 3, 3, 3, 3, 3};
    private final List<Integer> input = new ArrayList<>();
    private int inputRead;
    private final List<Integer> output = new ArrayList<>();
    private final List<Node> nodes = new ArrayList<>();
    private List<Opened> handles = new ArrayList<>();
    private List<Integer> statesAtEnd = new ArrayList<>();
    private List<Lazy> lists = new ArrayList<>();
    private List<Integer> order = new ArrayList<>();
    private Value[] variables;
    private int worked;
    private int value;
    private int where = NONE;

    Model() {
        for (int i = 0; i < 8; i++) {
            files.add(null);
        }
    }

    private int total() {
        int sum = 0;
        for (List<Integer> f : files) {
            sum += f == null ? 0 : f.size();
        }
        return sum;
    }

    private static boolean is(int n, int least, int most) {
        return least <= n && n <= most;
    }

    int lay(int file, int v) {
        if (!is(file, 0, 7) || !is(v, 0, 255)) {
            return OUTSIDE;
        }
        if (total() == 120 || files.get(file) != null && files.get(file).size() == 40) {
            return ROOM;
        }
        there(file, true);
        files.get(file).add(v);
        return files.get(file).size();
    }

    int there(int file, boolean is) {
        if (!is(file, 0, 7)) {
            return OUTSIDE;
        }
        boolean was = files.get(file) != null;
        if (!is) {
            files.set(file, null);
        } else if (!was) {
            files.set(file, new ArrayList<>());
        }
        return was ? 1 : 0;
    }

    int permit(int file, int bits) {
        if (!is(file, 0, 7) || !is(bits, 0, 3)) {
            return OUTSIDE;
        }
        int was = permits[file];
        permits[file] = bits;
        return was;
    }

    int input(int v) {
        if (!is(v, 0, 255)) {
            return OUTSIDE;
        }
        if (input.size() == 100) {
            return ROOM;
        }
        input.add(v);
        return input.size() - inputRead;
    }

    int node(int code, int a, int b, int c) {
        int last = nodes.size() - 1;
        boolean x = is(a, 0, last);
        boolean y = is(b, 0, last);
        boolean z = is(c, 0, last);
        boolean fits = switch (code) {
            case 0, 18 -> true;
            case 1 -> is(a, 0, 5);
            case 2 -> is(a, 0, 5) && y;
            case 3 -> is(a, 0, 7) && is(b, 0, 3);
            case 4, 6, 7, 9, 11, 12, 14, 17, 25 -> x;
            case 5, 8, 10, 19, 21, 22, 23, 27 -> x && y;
            case 13 -> x && is(b, 0, 9);
            case 15 -> is(a, 0, 7);
            case 16 -> is(a, 0, 7) && is(b, 0, 7);
            case 20, 28 -> x && y && z;
            case 24 -> is(a, 0, 6);
            case 26 -> x && y && is(c, 0, 127);
            default -> false;
        };
        if (!fits) {
            return OUTSIDE;
        }
        if (nodes.size() == 60) {
            return ROOM;
        }
        nodes.add(new Node(code, a, b, c));
        return nodes.size() - 1;
    }

    int clear() {
        int were = nodes.size();
        nodes.clear();
        input.clear();
        inputRead = 0;
        output.clear();
        return were;
    }

    int run(int node) {
        if (!is(node, 0, nodes.size() - 1)) {
            return OUTSIDE;
        }
        handles = new ArrayList<>();
        lists = new ArrayList<>();
        order = new ArrayList<>();
        variables = new Value[6];
        for (int i = 0; i < 6; i++) {
            variables[i] = new Value(0, 0);
        }
        worked = 0;
        where = NONE;
        int answer;
        try {
            Value v = work(node);
            value = v.number();
            answer = v.sort();
        } catch (Failure f) {
            value = f.kind;
            where = f.node;
            answer = 3;
        } catch (Exit e) {
            value = e.number;
            answer = 4;
        } catch (Stop s) {
            value = 0;
            answer = 5;
        }
        statesAtEnd = new ArrayList<>();
        for (Opened h : handles) {
            statesAtEnd.add(h.state);
        }
        for (Opened h : handles) {
            if (h.state == 0) {
                try {
                    flush(h, NONE);
                } catch (Failure f) {
                    continue;
                }
            }
        }
        return answer;
    }

    int value() {
        return value;
    }

    int where() {
        return where;
    }

    int worked() {
        return worked;
    }

    int order(int i) {
        return is(i, 0, Math.min(300, order.size()) - 1) ? order.get(i) : NONE;
    }

    int handle(int h, int what) {
        if (!is(what, 0, 5)) {
            return OUTSIDE;
        }
        if (!is(h, 0, handles.size() - 1)) {
            return NONE;
        }
        Opened o = handles.get(h);
        return new int[] {o.file, o.mode, statesAtEnd.get(h), o.put, o.taken, o.laid}[what];
    }

    int content(int file, int i) {
        if (!is(file, 0, 7)) {
            return OUTSIDE;
        }
        List<Integer> f = files.get(file);
        return f != null && is(i, 0, f.size() - 1) ? f.get(i) : NONE;
    }

    int size(int file) {
        if (!is(file, 0, 7)) {
            return OUTSIDE;
        }
        return files.get(file) == null ? NONE : files.get(file).size();
    }

    int printed(int i) {
        return is(i, 0, Math.min(200, output.size()) - 1) ? output.get(i) : NONE;
    }

    int told(int what) {
        return switch (what) {
            case 0 -> nodes.size();
            case 1 -> input.size() - inputRead;
            case 2 -> output.size();
            case 3 -> total();
            case 4 -> handles.size();
            case 5 -> lists.size();
            case 6 -> order.size();
            default -> OUTSIDE;
        };
    }

    private static Value number(int n) {
        return new Value(0, n);
    }

    private void want(boolean good, int kind, int node) {
        if (!good) {
            throw new Failure(kind, node);
        }
    }

    private int workTo(int sort, int part, int node) {
        Value v = work(part);
        want(v.sort() == sort, 4, node);
        return v.number();
    }

    private void flush(Opened h, int node) {
        List<Integer> bytes = new ArrayList<>(h.waiting);
        h.waiting.clear();
        List<Integer> f = files.get(h.file);
        for (int v : bytes) {
            if (h.place < f.size()) {
                f.set(h.place, v);
            } else {
                want(f.size() < 40 && total() < 120, 5, node);
                f.add(v);
            }
            h.place++;
            h.laid++;
        }
    }

    private boolean held(int file, boolean writersOnly) {
        for (Opened h : handles) {
            if (h.file == file && h.state != 2 && !(writersOnly && h.mode == 0)) {
                return true;
            }
        }
        return false;
    }

    private Value work(int n) {
        if (worked == 600) {
            throw new Stop();
        }
        worked++;
        Node node = nodes.get(n);
        return switch (node.code()) {
            case 0 -> number(node.a());
            case 1 -> variables[node.a()];
            case 2 -> variables[node.a()] = work(node.b());
            case 3 -> open(node, n);
            case 4, 5, 6, 7, 10, 11, 12, 13, 14 -> withHandle(node, n);
            case 8, 9 -> withList(node, n);
            case 15, 16 -> withFile(node, n);
            case 17 -> {
                output.add(workTo(0, node.a(), n) & 255);
                order.add(n);
                yield number(output.size());
            }
            case 18 -> {
                want(inputRead < input.size(), 3, n);
                order.add(n);
                yield number(input.get(inputRead++));
            }
            default -> control(node, n);
        };
    }

    private Value control(Node node, int n) {
        switch (node.code()) {
            case 19:
                work(node.a());
                return work(node.b());
            case 20:
                return workTo(0, node.a(), n) != 0 ? work(node.b()) : work(node.c());
            case 21:
            case 22:
                int x = workTo(0, node.a(), n);
                int y = workTo(0, node.b(), n);
                return number(node.code() == 22 ? x + y : x < y ? 1 : 0);
            case 23:
                for (int left = workTo(0, node.a(), n); left > 0; left--) {
                    work(node.b());
                }
                return number(0);
            case 24:
                throw new Failure(node.a(), n);
            case 25:
                throw new Exit(workTo(0, node.a(), n));
            case 26:
                try {
                    return work(node.a());
                } catch (Failure f) {
                    if ((node.c() & 1 << f.kind) == 0) {
                        throw f;
                    }
                    variables[0] = number(f.kind);
                }
                return work(node.b());
            case 27:
                return ended(node.a(), node.b(), null);
            default:
                Value got = work(node.a());
                variables[5] = got;
                return ended(node.c(), node.b(), got);
        }
    }

    private Value ended(int body, int end, Value five) {
        Value v = null;
        RuntimeException thrown = null;
        try {
            v = work(body);
        } catch (Failure | Exit e) {
            thrown = e;
        }
        if (five != null) {
            variables[5] = five;
        }
        work(end);
        if (thrown != null) {
            throw thrown;
        }
        return v;
    }

    private Value open(Node node, int n) {
        int file = node.a();
        int mode = node.b();
        want(mode != 0 || files.get(file) != null, 1, n);
        int needed = new int[] {1, 2, 2, 3}[mode];
        want((permits[file] & needed) == needed, 2, n);
        want(!held(file, mode == 0), 0, n);
        want(handles.size() < 20, 5, n);
        there(file, true);
        Opened h = new Opened();
        h.file = file;
        h.mode = mode;
        if (mode == 1) {
            files.get(file).clear();
        }
        h.place = mode == 2 ? files.get(file).size() : 0;
        handles.add(h);
        order.add(n);
        return new Value(1, handles.size() - 1);
    }

    private Value withHandle(Node node, int n) {
        int code = node.code();
        Opened h = handles.get(workTo(1, node.a(), n));
        int y = code == 5 || code == 10 ? workTo(0, node.b(), n) : 0;
        if (code == 4) {
            if (h.state != 2) {
                int was = h.state;
                h.state = 2;
                order.add(n);
                if (was == 0) {
                    flush(h, n);
                }
            }
            return number(0);
        }
        want(h.state == 0, 4, n);
        want(!(code == 5 && h.mode == 0), 4, n);
        want(!(code == 6 && (h.mode == 1 || h.mode == 2)), 4, n);
        want(!(code == 7 && h.mode != 0), 4, n);
        if (code == 7) {
            Lazy lazy = new Lazy();
            lazy.source = h;
            h.state = 1;
            lists.add(lazy);
            return new Value(2, lists.size() - 1);
        }
        if (code == 11) {
            return number(h.place + h.waiting.size());
        }
        if (code == 5) {
            h.waiting.add(y & 255);
            h.put++;
            int many = h.waiting.size();
            boolean due = h.kind == 0 || h.kind == 1 && ((y & 255) == 10 || many == 20) || h.kind > 1 && many == h.kind;
            if (due) {
                flush(h, n);
            }
            order.add(n);
            return number(0);
        }
        flush(h, n);
        List<Integer> f = files.get(h.file);
        if (code == 12) {
            return number(f.size());
        }
        int answer = 0;
        if (code == 6) {
            want(h.place < f.size(), 3, n);
            answer = f.get(h.place++);
            h.taken++;
        } else if (code == 10) {
            want(h.mode != 2 && is(y, 0, f.size()), 4, n);
            h.place = y;
        } else if (code == 13) {
            h.kind = node.b();
        }
        order.add(n);
        return number(answer);
    }

    private Value withList(Node node, int n) {
        Lazy list = lists.get(workTo(2, node.a(), n));
        int wanted = Integer.MAX_VALUE;
        if (node.code() == 8) {
            wanted = workTo(0, node.b(), n);
            want(wanted >= 0, 4, n);
        }
        Opened h = list.source;
        while (list.items.size() <= wanted && h.state == 1) {
            List<Integer> f = files.get(h.file);
            if (h.place == f.size()) {
                h.state = 2;
            } else {
                list.items.add(f.get(h.place++));
                h.taken++;
                order.add(n);
            }
        }
        if (node.code() == 9) {
            return number(list.items.size());
        }
        return number(wanted < list.items.size() ? list.items.get(wanted) : -1);
    }

    private Value withFile(Node node, int n) {
        boolean removes = node.code() == 15;
        int from = node.a();
        int to = removes ? from : node.b();
        want(files.get(from) != null, 1, n);
        want((permits[from] & 2) != 0, 2, n);
        want((permits[to] & 2) != 0, 2, n);
        want(!held(from, false) && !held(to, false), 0, n);
        if (removes) {
            files.set(from, null);
            order.add(n);
        } else if (from != to) {
            files.set(to, files.get(from));
            files.set(from, null);
            order.add(n);
        }
        return number(0);
    }
}
