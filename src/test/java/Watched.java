/**
 * The class's face, with a look at each call: no test leans on what an object
 * answers behind its 512th call, which is free.
 */
final class Watched {
    static final int CALLS = 512;

    private final InputOutput inner = new InputOutput();
    private int calls = 0;

    int calls() {
        return calls;
    }

    private int seen(int answer) {
        calls++;
        if (calls > CALLS) {
            Check.holds("the object has been called " + CALLS + " times at most", false);
        }
        return answer;
    }

    int lay(int file, int v) { return seen(inner.lay(file, v)); }
    int there(int file, boolean is) { return seen(inner.there(file, is)); }
    int permit(int file, int bits) { return seen(inner.permit(file, bits)); }
    int input(int v) { return seen(inner.input(v)); }
    int node(int code, int a, int b, int c) { return seen(inner.node(code, a, b, c)); }
    int clear() { return seen(inner.clear()); }
    int run(int node) { return seen(inner.run(node)); }
    int value() { return seen(inner.value()); }
    int where() { return seen(inner.where()); }
    int worked() { return seen(inner.worked()); }
    int order(int i) { return seen(inner.order(i)); }
    int handle(int h, int what) { return seen(inner.handle(h, what)); }
    int content(int file, int i) { return seen(inner.content(file, i)); }
    int size(int file) { return seen(inner.size(file)); }
    int printed(int i) { return seen(inner.printed(i)); }
    int told(int what) { return seen(inner.told(what)); }
}
