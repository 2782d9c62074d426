/** Promise 12: THE ORDER. */
public final class OrderTest {
    private static final int NONE = InputOutput.NONE;

    public static void main(String[] args) {
        acts();
        notKept();
        noSuch();
        Check.finish();
    }

    private static void acts() {
        Scene s = new Scene("ORDER");
        s.lay(0, 1, 2);
        s.lay(1, 1);
        s.x.input(65);
        int open = s.open(0, Scene.BOTH);
        int keep = s.set(1, open);
        int h = s.get(1);
        int buffer = s.buffer(h, 9);
        int put = s.put(h, s.num(4));
        int take = s.take(h);
        int seek = s.seek(h, s.num(0));
        int flush = s.flush(h);
        int close = s.close(h);
        int remove = s.remove(1);
        int rename = s.rename(0, 2);
        int read = s.read();
        int print = s.print(read);
        int quiet = s.then(s.where(h), s.size(h), s.less(h, h));
        s.number("a run", s.then(keep, buffer, put, take, seek, flush, s.catching(quiet, h, 127),
            close, remove, rename, print), 1);
        s.order("all acts", open, buffer, put, take, seek, flush, close, remove, rename, read, print);
        s.fails("none that FAILS", s.then(s.catching(remove, h, 127), read), Scene.END, read);
        s.order("none");
    }

    private static void notKept() {
        Scene s = new Scene("300 are kept");
        int one = s.print(s.num(1));
        int two = s.print(s.num(1));
        s.number("290", s.times(s.num(290), one), 0);
        s.due("told(6)", s.x.told(6), 290);
        s.due("the last", s.x.order(289), one);
        s.due("none behind it", s.x.order(290), NONE);
        s.fill(0, 20, 3);
        int length = s.length(s.lazy(s.open(0, Scene.READ)));
        s.number("310", s.then(s.times(s.num(289), one), length), 20);
        s.due("told(6)", s.x.told(6), 310);
        s.due("the 300th", s.x.order(299), length);
        s.due("the 301st is not kept", s.x.order(300), NONE);
        s.due("nor the last", s.x.order(309), NONE);
        s.number("the next run is anew", two, s.x.told(2) + 1);
        s.order("one act", two);
    }

    private static void noSuch() {
        Scene s = new Scene("no such");
        int print = s.print(s.num(1));
        s.number("a run", print, 1);
        s.due("0", s.x.order(0), print);
        for (int i : new int[] {-1, 1, 300, Integer.MIN_VALUE, Integer.MAX_VALUE}) {
            s.due("order(" + i + ")", s.x.order(i), NONE);
        }
    }
}
