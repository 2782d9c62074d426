/** CODES 7 to 9: LISTS that are read by need. */
public final class ListTest {
    private static final int NONE = InputOutput.NONE;

    public static void main(String[] args) {
        lazy();
        items();
        lengths();
        closedBetween();
        closedAtEachItem();
        oneForEachHandle();
        fromPlace();
        longest();
        keepsItsItems();
        Check.finish();
    }

    private static void lazy() {
        Scene s = new Scene("LAZY");
        s.lay(0, 1);
        int lazy = s.lazy(s.open(0, Scene.READ));
        s.ends("a LIST", lazy, Scene.A_LIST, 0);
        s.handle("HALF, nothing read", 0, 0, Scene.READ, Scene.HALF, 0, 0, 0);
        s.order("LAZY is no act", lazy - 1);
        for (int mode = Scene.WRITE; mode <= Scene.BOTH; mode++) {
            int other = s.lazy(s.open(0, mode));
            s.fails("of another MODE", other, Scene.ILLEGAL, other);
            s.due("no LIST", s.x.told(5), 0);
            s.due("it stays OPEN", s.x.handle(0, 2), Scene.OPEN);
        }
    }

    private static void items() {
        Scene s = new Scene("ITEM");
        s.lay(0, 11, 22, 33);
        int open = s.open(0, Scene.READ);
        int keep = s.set(1, s.lazy(open));
        int last = s.item(s.get(1), s.num(2));
        int first = s.item(s.get(1), s.num(0));
        int behind = s.item(s.get(1), s.num(3));
        s.number("the last", s.then(keep, last), 33);
        s.due("still HALF", s.x.handle(0, 2), Scene.HALF);
        s.order("a byte each", open, last, last, last);
        s.number("again", s.then(keep, last, first), 11);
        s.order("no byte more", open, last, last, last);
        s.number("one more each", s.then(keep, first, last), 33);
        s.order("by need", open, first, last, last);
        s.number("behind its end", s.then(keep, behind), -1);
        s.handle("CLOSED then", 0, 0, Scene.READ, Scene.CLOSED, 0, 3, 0);
        s.order("the end is no act", open, behind, behind, behind);
        s.number("far behind", s.item(s.lazy(open), s.num(Integer.MAX_VALUE)), -1);
        s.due("all are taken", s.x.handle(0, 4), 3);
        s.number("items stay when it ended", s.then(keep, behind, last), 33);
        int below = s.item(s.lazy(open), s.num(-1));
        s.fails("below 0", below, Scene.ILLEGAL, below);
        s.handle("nothing was taken", 0, 0, Scene.READ, Scene.HALF, 0, 0, 0);
        s.x.there(1, true);
        s.number("of an empty FILE", s.item(s.lazy(s.open(1, Scene.READ)), s.num(0)), -1);
        s.due("CLOSED", s.x.handle(0, 2), Scene.CLOSED);
    }

    private static void lengths() {
        Scene s = new Scene("LENGTH");
        s.lay(0, 11, 22, 33);
        int open = s.open(0, Scene.READ);
        int keep = s.set(1, s.lazy(open));
        int length = s.length(s.get(1));
        int first = s.item(s.get(1), s.num(0));
        s.number("all", s.then(keep, length), 3);
        s.due("CLOSED", s.x.handle(0, 2), Scene.CLOSED);
        s.order("a byte each", open, length, length, length);
        s.number("again", s.then(keep, first, length, length), 3);
        s.order("only what is left", open, first, length, length);
        s.x.there(1, true);
        s.number("of an empty FILE", s.length(s.lazy(s.open(1, Scene.READ))), 0);
        s.due("CLOSED", s.x.handle(0, 2), Scene.CLOSED);
    }

    private static void closedBetween() {
        Scene s = new Scene("closed between");
        s.lay(0, 11, 22, 33);
        int open = s.set(2, s.open(0, Scene.READ));
        int keep = s.then(open, s.set(1, s.lazy(s.get(2))));
        int second = s.item(s.get(1), s.num(1));
        int close = s.close(s.get(2));
        s.number("LENGTH", s.then(keep, second, close, s.length(s.get(1))), 2);
        s.due("taken", s.x.handle(0, 4), 2);
        s.number("ITEM ahead of it", s.then(keep, second, close, second), 22);
        s.number("ITEM behind it", s.then(keep, second, close, s.item(s.get(1), s.num(2))), -1);
        s.number("nothing read", s.then(keep, close, s.length(s.get(1))), 0);
    }

    /** "A HANDLE that was closed ends its LIST where it is": with no item, some, all of them. */
    private static void closedAtEachItem() {
        for (int read = 0; read <= 3; read++) {
            Scene s = new Scene("closed with " + read + " items");
            s.lay(0, 11, 22, 33);
            int list = s.get(1);
            int open = s.set(2, s.open(0, Scene.READ));
            int keep = s.then(open, s.set(1, s.lazy(s.get(2))));
            int some = read == 0 ? s.num(0) : s.item(list, s.num(read - 1));
            int closed = s.then(keep, some, s.close(s.get(2)));
            s.number("LENGTH", s.then(closed, s.length(list)), read);
            s.handle("no more is taken", 0, 0, Scene.READ, Scene.CLOSED, 0, read, 0);
            s.due("no act more", s.x.told(6), read + 2);
            for (int i = 0; i <= 3; i++) {
                s.number("ITEM " + i, s.then(closed, s.item(list, s.num(i))), i < read ? 11 * (i + 1) : -1);
            }
            int below = s.item(list, s.num(-1));
            s.fails("ITEM -1", s.then(closed, below), Scene.ILLEGAL, below);
            s.ends("the FILE is held no more", s.then(closed, s.open(0, Scene.WRITE)), Scene.A_HANDLE, 1);
        }
    }

    /** "numbered from 0 on, one for each": a HANDLE has no second LIST, and 20 HANDLES have 20. */
    private static void oneForEachHandle() {
        Scene s = new Scene("one for each");
        s.lay(0, 11);
        int open = s.set(2, s.open(0, Scene.READ));
        int lazy = s.lazy(s.get(2));
        s.fails("a second one", s.then(open, lazy, lazy), Scene.ILLEGAL, lazy);
        s.due("LISTS", s.x.told(5), 1);
        s.fails("once it ended", s.then(open, s.length(lazy), lazy), Scene.ILLEGAL, lazy);
        int both = s.then(open, lazy);
        for (int count = 18; count <= 19; count++) {
            s.ends(count + " before", s.then(s.times(s.num(count), both), both), Scene.A_LIST, count);
            s.due("LISTS", s.x.told(5), count + 1);
        }
        s.ends("20 before", s.then(s.times(s.num(20), both), both), Scene.FAILED, Scene.FULL);
        s.due("LISTS", s.x.told(5), 20);
        s.ends("the next run is anew", both, Scene.A_LIST, 0);
        s.ends("HANDLES without LISTS are not counted", s.then(open, open, lazy), Scene.A_LIST, 0);
    }

    private static void fromPlace() {
        Scene s = new Scene("from the PLACE on");
        s.lay(0, 11, 22, 33);
        int open = s.set(2, s.open(0, Scene.READ));
        int begin = s.then(open, s.take(s.get(2)), s.lazy(s.get(2)));
        s.number("ITEM 0", s.item(begin, s.num(0)), 22);
        s.due("taken by both", s.x.handle(0, 4), 2);
        s.number("LENGTH", s.length(begin), 2);
        s.number("at the end", s.length(s.then(open, s.seek(s.get(2), s.num(3)), s.lazy(s.get(2)))), 0);
        int other = s.then(open, s.set(1, s.lazy(s.open(0, Scene.READ))), s.take(s.get(2)), s.item(s.get(1), s.num(0)));
        s.number("HANDLES have a PLACE each", other, 11);
    }

    private static void longest() {
        Scene s = new Scene("40 bytes");
        s.fill(0, 39, 1);
        s.lay(0, 2);
        int keep = s.set(1, s.lazy(s.open(0, Scene.READ)));
        s.number("ITEM 39", s.then(keep, s.item(s.get(1), s.num(39))), 2);
        s.due("HALF", s.x.handle(0, 2), Scene.HALF);
        s.number("ITEM 40", s.then(keep, s.item(s.get(1), s.num(40))), -1);
        s.due("CLOSED", s.x.handle(0, 2), Scene.CLOSED);
        int all = s.length(s.get(1));
        s.number("LENGTH", s.then(keep, s.item(s.get(1), s.num(39)), all), 40);
        s.due("CLOSED", s.x.handle(0, 2), Scene.CLOSED);
        s.number("20 LISTS", s.times(s.num(20), s.length(keep)), 0);
        s.due("LISTS", s.x.told(5), 20);
        s.due("ACTS", s.x.told(6), 20 * 41);
        s.due("300 are kept", s.x.order(300), NONE);
        s.due("the last one kept", s.x.order(299), s.x.order(298));
    }

    private static void keepsItsItems() {
        Scene s = new Scene("the FILE changes");
        s.lay(0, 11, 22);
        int keep = s.set(1, s.lazy(s.open(0, Scene.READ)));
        int over = s.put(s.open(0, Scene.WRITE), s.num(99));
        s.number("ITEM stays", s.then(keep, s.length(s.get(1)), over, s.item(s.get(1), s.num(1))), 22);
        s.content("the FILE", 0, 99);
        s.number("a new LIST reads anew", s.item(keep, s.num(0)), 99);
        s.number("and ends anew", s.length(keep), 1);
    }
}
