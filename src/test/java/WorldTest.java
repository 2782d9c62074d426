/** Promises 1 to 5, 7 and 14 to 17: the world as the calls outside of runs see it. */
public final class WorldTest {
    private static final int NONE = InputOutput.NONE, OUTSIDE = InputOutput.OUTSIDE, ROOM = InputOutput.ROOM;

    public static void main(String[] args) {
        newObject();
        objectsAreApart();
        layBytes();
        layWithoutRoom();
        thereOrNot();
        permits();
        input();
        clear();
        content();
        printed();
        told();
        Check.finish();
    }

    private static void newObject() {
        Scene s = new Scene("a new object");
        for (int what = 0; what <= 6; what++) {
            s.due("told(" + what + ")", s.x.told(what), 0);
        }
        for (int file = 0; file < 8; file++) {
            s.due("size", s.x.size(file), NONE);
            s.due("content", s.x.content(file, 0), NONE);
            s.due("there", s.x.there(file, false), 0);
            s.due("permit", s.x.permit(file, 3), 3);
        }
        s.due("value", s.x.value(), 0);
        s.due("where", s.x.where(), NONE);
        s.due("worked", s.x.worked(), 0);
        s.due("order", s.x.order(0), NONE);
        s.due("handle", s.x.handle(0, 0), NONE);
        s.due("printed", s.x.printed(0), NONE);
        s.due("run", s.x.run(0), OUTSIDE);
        s.due("clear", s.x.clear(), 0);
    }

    private static void objectsAreApart() {
        Scene one = new Scene("one object");
        Scene other = new Scene("another object");
        one.lay(0, 1);
        one.num(7);
        one.x.input(1);
        one.x.permit(1, 0);
        other.due("size", other.x.size(0), NONE);
        other.due("told(0)", other.x.told(0), 0);
        other.due("told(1)", other.x.told(1), 0);
        other.due("permit", other.x.permit(1, 3), 3);
    }

    private static void layBytes() {
        Scene s = new Scene("lay");
        s.due("first", s.x.lay(3, 0), 1);
        s.due("second", s.x.lay(3, 255), 2);
        s.content("both edges", 3, 0, 255);
        s.due("it is there", s.x.there(3, true), 1);
        s.due("FILE 7", s.x.lay(7, 9), 1);
        int[][] outside = {{-1, 0}, {8, 0}, {0, -1}, {0, 256}, {Integer.MIN_VALUE, 0},
            {Integer.MAX_VALUE, 0}, {0, Integer.MIN_VALUE}, {0, Integer.MAX_VALUE}};
        for (int[] pair : outside) {
            s.due("outside", s.x.lay(pair[0], pair[1]), OUTSIDE);
        }
        s.due("nothing changed", s.x.size(0), NONE);
        s.due("all bytes", s.x.told(3), 3);
        s.x.permit(3, 0);
        s.due("PERMITS do not bind lay", s.x.lay(3, 5), 3);
    }

    private static void layWithoutRoom() {
        Scene s = new Scene("lay without room");
        s.fill(0, 40, 1);
        s.due("the FILE is full", s.x.lay(0, 1), ROOM);
        s.due("OUTSIDE is asked first", s.x.lay(0, 256), OUTSIDE);
        s.due("it has 40", s.x.size(0), 40);
        s.fill(1, 40, 2);
        s.fill(2, 39, 3);
        s.due("the last place on THE DISK", s.x.lay(3, 4), 1);
        s.due("THE DISK is full", s.x.lay(2, 3), ROOM);
        s.due("also for a FILE that is not there", s.x.lay(4, 3), ROOM);
        s.due("which is not there then", s.x.size(4), NONE);
        s.due("120 bytes", s.x.told(3), 120);
        s.due("room comes back", s.x.there(0, false), 1);
        s.due("80 bytes", s.x.told(3), 80);
        s.due("now it goes", s.x.lay(4, 3), 1);
    }

    private static void thereOrNot() {
        Scene s = new Scene("there");
        s.due("it was not", s.x.there(0, true), 0);
        s.due("it is empty", s.x.size(0), 0);
        s.due("no byte", s.x.content(0, 0), NONE);
        s.lay(0, 5, 6);
        s.due("it was", s.x.there(0, true), 1);
        s.content("its bytes stay", 0, 5, 6);
        s.due("it was, too", s.x.there(0, false), 1);
        s.due("it is not there", s.x.size(0), NONE);
        s.due("nor are its bytes", s.x.content(0, 0), NONE);
        s.due("nor do they count", s.x.told(3), 0);
        s.due("it was not", s.x.there(0, false), 0);
        s.due("it was not", s.x.there(0, true), 0);
        s.due("it is empty anew", s.x.size(0), 0);
        for (int file : new int[] {-1, 8, Integer.MIN_VALUE, Integer.MAX_VALUE}) {
            s.due("outside", s.x.there(file, true), OUTSIDE);
            s.due("outside", s.x.there(file, false), OUTSIDE);
        }
    }

    private static void permits() {
        Scene s = new Scene("permit");
        s.due("both at first", s.x.permit(0, 0), 3);
        s.due("none", s.x.permit(0, 1), 0);
        s.due("one", s.x.permit(0, 2), 1);
        s.due("two", s.x.permit(0, 3), 2);
        s.due("of FILE 7", s.x.permit(7, 1), 3);
        for (int v : new int[] {-1, 4, Integer.MIN_VALUE, Integer.MAX_VALUE}) {
            s.due("outside", s.x.permit(7, v), OUTSIDE);
        }
        for (int file : new int[] {-1, 8, Integer.MIN_VALUE, Integer.MAX_VALUE}) {
            s.due("outside", s.x.permit(file, 0), OUTSIDE);
        }
        s.due("nothing changed", s.x.permit(7, 3), 1);
        s.x.permit(2, 1);
        s.x.there(2, true);
        s.x.there(2, false);
        s.due("they stay when the FILE goes", s.x.permit(2, 3), 1);
        s.x.permit(2, 1);
        s.x.clear();
        s.due("and with clear", s.x.permit(2, 3), 1);
    }

    private static void input() {
        Scene s = new Scene("input");
        int read = s.read();
        s.due("first", s.x.input(0), 1);
        s.due("second", s.x.input(255), 2);
        s.due("outside", s.x.input(-1), OUTSIDE);
        s.due("outside", s.x.input(256), OUTSIDE);
        s.due("outside", s.x.input(Integer.MIN_VALUE), OUTSIDE);
        s.due("left", s.x.told(1), 2);
        s.number("read", read, 0);
        s.due("left", s.x.told(1), 1);
        s.due("third", s.x.input(7), 2);
        s.number("read", read, 255);
        s.number("read", read, 7);
        s.fails("read", read, Scene.END, read);
        for (int i = 3; i < 100; i++) {
            s.due("more", s.x.input(i), i - 2);
        }
        s.due("100 have come", s.x.input(1), ROOM);
        s.number("read", read, 3);
        s.due("reading gives no room", s.x.input(1), ROOM);
        s.due("OUTSIDE is asked first", s.x.input(256), OUTSIDE);
        s.due("left", s.x.told(1), 96);
        s.x.clear();
        s.due("clear does", s.x.input(1), 1);
    }

    private static void clear() {
        Scene s = new Scene("clear");
        s.lay(0, 4);
        s.x.input(9);
        int print = s.print(s.num(65));
        s.number("print", print, 1);
        s.due("clear", s.x.clear(), 2);
        s.due("no NODES", s.x.told(0), 0);
        s.due("THE INPUT", s.x.told(1), 0);
        s.due("THE OUTPUT", s.x.told(2), 0);
        s.due("THE OUTPUT", s.x.printed(0), NONE);
        s.content("FILES stay", 0, 4);
        s.due("told(3)", s.x.told(3), 1);
        s.due("no run", s.x.run(0), OUTSIDE);
        s.due("the latest run stays, value", s.x.value(), 1);
        s.due("the latest run stays, order", s.x.order(0), 1);
        s.due("the latest run stays, worked", s.x.worked(), 2);
        s.due("NODES are numbered anew", s.num(1), 0);
        s.due("clear", s.x.clear(), 1);
        s.due("clear", s.x.clear(), 0);
    }

    private static void content() {
        Scene s = new Scene("content and size");
        s.lay(7, 1, 2);
        s.content("of FILE 7", 7, 1, 2);
        s.due("no such", s.x.content(7, -1), NONE);
        s.due("no such", s.x.content(7, 2), NONE);
        s.due("no such", s.x.content(7, 40), NONE);
        s.due("no such", s.x.content(7, Integer.MAX_VALUE), NONE);
        s.due("no such", s.x.content(7, Integer.MIN_VALUE), NONE);
        s.due("not there", s.x.content(6, 0), NONE);
        for (int file : new int[] {-1, 8, Integer.MIN_VALUE, Integer.MAX_VALUE}) {
            s.due("outside", s.x.content(file, 0), OUTSIDE);
            s.due("outside", s.x.content(file, -1), OUTSIDE);
            s.due("outside", s.x.size(file), OUTSIDE);
        }
    }

    private static void printed() {
        Scene s = new Scene("printed");
        int high = s.print(s.num(256 + 65));
        int below = s.print(s.num(-1));
        s.number("how many there are", high, 1);
        s.number("over runs", below, 2);
        s.due("lowest 8 bits", s.x.printed(0), 65);
        s.due("lowest 8 bits", s.x.printed(1), 255);
        s.due("no such", s.x.printed(2), NONE);
        s.due("no such", s.x.printed(-1), NONE);
        s.due("no such", s.x.printed(Integer.MAX_VALUE), NONE);
        s.due("no such", s.x.printed(Integer.MIN_VALUE), NONE);
        int many = s.times(s.num(197), high);
        s.number("199 by now", many, 0);
        s.number("the 200th", below, 200);
        s.due("is kept", s.x.printed(199), 255);
        s.number("the 201st", below, 201);
        s.due("is not", s.x.printed(200), NONE);
        s.due("but counts", s.x.told(2), 201);
        s.due("the others stay", s.x.printed(198), 65);
    }

    private static void told() {
        Scene s = new Scene("told");
        s.lay(0, 1, 2, 3);
        s.lay(5, 1);
        s.x.input(1);
        s.x.input(2);
        int lazy = s.lazy(s.open(0, Scene.READ));
        int print = s.print(s.length(lazy));
        int all = s.then(print, s.open(0, Scene.READ), s.open(5, Scene.READ), s.read());
        s.number("the run", all, 1);
        int[] want = {s.x.told(0), 1, 1, 4, 3, 1, 8};
        for (int what = 1; what <= 6; what++) {
            s.due("told(" + what + ")", s.x.told(what), want[what]);
        }
        s.due("NODES", s.x.told(0), all + 1);
        for (int what : new int[] {-1, 7, Integer.MIN_VALUE, Integer.MAX_VALUE}) {
            s.due("outside", s.x.told(what), OUTSIDE);
        }
        s.number("a run without any", s.num(0), 0);
        s.due("HANDLES of the latest run", s.x.told(4), 0);
        s.due("LISTS of the latest run", s.x.told(5), 0);
        s.due("THE ORDER of the latest run", s.x.told(6), 0);
    }
}
