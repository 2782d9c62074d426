/**
 * "of one for which there is no room, in the FILE or on THE DISK, and of those
 * behind it nothing comes, and it FAILS 5; the BUFFER is empty then": for each
 * CODE that makes a FLUSH, and for the closing behind a run.
 */
public final class FullTest {
    private static final int NONE = InputOutput.NONE;
    private static final int CLOSE = 4, PUT = 5, TAKE = 6, SEEK = 10, WHERE = 11, SIZE = 12, BUFFER = 13, FLUSH = 14;
    private static final int[] FLUSHING = {CLOSE, PUT, TAKE, SEEK, SIZE, BUFFER, FLUSH};

    /** FILE 0 has so many bytes at least when a test begins; the HANDLE begins behind them. */
    private static final int BEFORE = 3;

    public static void main(String[] args) {
        for (int code : FLUSHING) {
            for (int waiting : new int[] {2, 3, 9}) {
                for (int room = 0; room <= waiting + 1; room++) {
                    inFile(code, waiting, room);
                    onDisk(code, waiting, room);
                }
            }
        }
        for (int room = 0; room <= 20; room++) {
            aLine(room);
        }
        overTheEnd();
        lineBufferEmptyThen();
        goesOnWithPuts();
        seekAsksBehindFlush();
        bufferStays();
        nothingWaits();
        behindRun();
        behindEachEnding();
        halfBehindRun();
        stateAheadOfClosing();
        Check.finish();
    }

    private static void inFile(int code, int waiting, int room) {
        Scene s = new Scene("CODE " + code + ", " + waiting + " wait, room for " + room + " in the FILE");
        s.fill(0, 40 - room, 1);
        flushing(s, code, waiting, room, 40 - room);
    }

    private static void onDisk(int code, int waiting, int room) {
        Scene s = new Scene("CODE " + code + ", " + waiting + " wait, room for " + room + " on THE DISK");
        s.fill(0, BEFORE, 1);
        s.fill(5, 40, 1);
        s.fill(6, 40, 1);
        s.fill(7, 40 - BEFORE - room, 1);
        flushing(s, code, waiting, room, BEFORE);
    }

    /** Behind the bytes of FILE 0, so many wait: 100, 101 and so on; then the CODE makes its FLUSH. */
    private static void flushing(Scene s, int code, int waiting, int room, int bytes) {
        int h = s.get(1);
        int begin = s.then(s.set(1, s.open(0, Scene.BOTH)), s.seek(h, s.num(bytes)),
            s.buffer(h, code == PUT ? waiting : 9), s.set(2, s.num(100)));
        int put = s.put(h, s.get(2));
        int next = s.set(2, s.plus(s.get(2), s.num(1)));
        int puts = code == PUT || waiting == 9 ? waiting - 1 : waiting;
        int before = s.then(begin, s.times(s.num(puts), s.then(put, next)));
        if (code != PUT && waiting == 9) {
            flushAtNine(s, before, put, h, room, bytes);
            return;
        }
        int node = code == PUT ? s.put(h, s.get(2)) : s.x.node(code, h, code == BUFFER ? 4 : s.num(0), 0);
        int whole = s.then(before, node);
        int laid = Math.min(waiting, room);
        int acts = 3 + puts;
        if (laid < waiting) {
            s.fails("no room", whole, Scene.FULL, node);
            s.due("acts", s.x.told(6), code == CLOSE ? acts + 1 : acts);
        } else if (code == TAKE) {
            s.fails("room, but no byte behind", whole, Scene.END, node);
        } else {
            s.number("room", whole, code == SIZE ? bytes + waiting : 0);
            s.due("acts", s.x.told(6), code == SIZE ? acts : acts + 1);
        }
        s.handle("HANDLE", 0, 0, Scene.BOTH, code == CLOSE ? Scene.CLOSED : Scene.OPEN, waiting, 0, laid);
        laidBytes(s, bytes, laid);
        if (laid < waiting && code != CLOSE) {
            s.x.there(0, false);
            s.fill(0, bytes, 1);
            s.number("the BUFFER is empty", s.then(before, s.catching(node, s.where(h), 1 << Scene.FULL)), bytes + laid);
            s.handle("nothing is laid later", 0, 0, Scene.BOTH, Scene.OPEN, waiting, 0, laid);
            laidBytes(s, bytes, laid);
        }
    }

    private static void laidBytes(Scene s, int bytes, int laid) {
        s.due("size", s.x.size(0), bytes + laid);
        s.due("the one before", s.x.content(0, bytes - 1), 1);
        for (int i = 0; i < laid; i++) {
            s.due("laid byte " + i, s.x.content(0, bytes + i), 100 + i);
        }
        s.due("none behind", s.x.content(0, bytes + laid), NONE);
    }

    /** BLOCK of 9 makes its FLUSH with the ninth byte. */
    private static void flushAtNine(Scene s, int before, int put, int h, int room, int bytes) {
        int laid = Math.min(9, room);
        if (laid < 9) {
            s.fails("the ninth", s.then(before, put), Scene.FULL, put);
        } else {
            s.number("the ninth", s.then(before, put, s.where(h)), bytes + 9);
        }
        laidBytes(s, bytes, laid);
    }

    /** LINE with 20 bytes, of which the last one makes the FLUSH. */
    private static void aLine(int room) {
        Scene s = new Scene("LINE of 20, room for " + room);
        s.fill(0, 40 - room, 1);
        int h = s.get(1);
        int begin = s.then(s.set(1, s.open(0, Scene.APPEND)), s.buffer(h, 1), s.set(2, s.num(100)));
        int put = s.put(h, s.get(2));
        int next = s.set(2, s.plus(s.get(2), s.num(1)));
        int before = s.then(begin, s.times(s.num(19), s.then(put, next)));
        if (room < 20) {
            s.fails("the 20th", s.then(before, put), Scene.FULL, put);
        } else {
            s.number("the 20th", s.then(before, put), 0);
        }
        laidBytes(s, 40 - room, room);
    }

    /** "each in place of the byte there, or behind the last one": the first ones need no room. */
    private static void overTheEnd() {
        for (int place = 36; place <= 40; place++) {
            Scene s = new Scene("from PLACE " + place + " on");
            s.fill(0, 40, 1);
            int h = s.get(1);
            int put = s.put(h, s.num(9));
            int whole = s.then(s.set(1, s.open(0, Scene.BOTH)), s.buffer(h, 3), s.seek(h, s.num(place)), put, put, put);
            if (place <= 37) {
                s.number("all in place", whole, 0);
            } else {
                s.fails("over the end", whole, Scene.FULL, put);
            }
            s.due("laid", s.x.handle(0, 5), Math.min(3, 40 - place));
            s.due("size", s.x.size(0), 40);
            for (int i = 35; i < 40; i++) {
                s.due("byte " + i, s.x.content(0, i), i >= place && i < place + 3 ? 9 : 1);
            }
        }
    }

    private static void lineBufferEmptyThen() {
        Scene s = new Scene("LINE, empty then");
        s.fill(0, 39, 1);
        int h = s.get(1);
        int begin = s.then(s.set(1, s.open(0, Scene.BOTH)), s.buffer(h, 1), s.seek(h, s.num(39)));
        int letter = s.put(h, s.num(65));
        int end = s.put(h, s.num(10));
        int caught = s.catching(s.then(letter, letter, end), s.seek(h, s.num(0)), 1 << Scene.FULL);
        s.number("goes on", s.then(begin, caught, s.put(h, s.num(7))), 0);
        s.handle("HANDLE", 0, 0, Scene.BOTH, Scene.OPEN, 4, 0, 2);
        s.due("the last byte", s.x.content(0, 39), 65);
        s.due("the first byte", s.x.content(0, 0), 7);
        s.due("the second byte", s.x.content(0, 1), 1);
    }

    /** The HANDLE is OPEN behind a FLUSH that FAILED, and its BUFFER begins anew. */
    private static void goesOnWithPuts() {
        Scene s = new Scene("behind a FLUSH that FAILED");
        s.fill(0, 40, 1);
        int h = s.get(1);
        int begin = s.then(s.set(1, s.open(0, Scene.BOTH)), s.buffer(h, 2), s.seek(h, s.num(40)));
        int put = s.put(h, s.num(65));
        int failing = s.catching(s.then(put, put), s.num(0), 1 << Scene.FULL);
        s.number("one waits", s.then(begin, failing, put, s.where(h)), 41);
        s.handle("laid", 0, 0, Scene.BOTH, Scene.OPEN, 3, 0, 0);
        s.fails("two do not fit", s.then(begin, failing, put, put), Scene.FULL, put);
        s.due("put", s.x.handle(0, 3), 4);
        s.order("only what did not FAIL", s.x.order(0), s.x.order(1), s.x.order(2), put, put);
    }

    /** "a FLUSH, then the PLACE is y; ILLEGAL: .. above the number of bytes (asked behind the FLUSH)". */
    private static void seekAsksBehindFlush() {
        Scene s = new Scene("SEEK behind its FLUSH");
        int h = s.get(1);
        int begin = s.then(s.set(1, s.open(0, Scene.WRITE)), s.buffer(h, 9));
        int put = s.put(h, s.num(65));
        s.number("the byte that waited counts", s.then(begin, put, s.seek(h, s.num(1))), 0);
        int far = s.seek(h, s.num(2));
        s.fails("one above", s.then(begin, put, far), Scene.ILLEGAL, far);
        s.handle("the FLUSH came", 0, 0, Scene.WRITE, Scene.OPEN, 1, 0, 1);
        int below = s.seek(h, s.num(-1));
        s.number("the FLUSH came ahead", s.then(begin, put, s.catching(below, s.where(h), 16)), 1);
        s.x.there(0, false);
        s.fill(5, 40, 1);
        s.fill(6, 40, 1);
        s.fill(7, 40, 1);
        s.fails("it FAILS ahead of ILLEGAL", s.then(begin, put, far), Scene.FULL, far);
        s.fails("it FAILS ahead of ILLEGAL", s.then(begin, put, below), Scene.FULL, below);
    }

    /** "13 BUFFER of x (a) becomes b (0 to 9), a FLUSH ahead": if that FAILS, it does not become so. */
    private static void bufferStays() {
        Scene s = new Scene("BUFFER that FAILS");
        s.fill(0, 40, 1);
        int h = s.get(1);
        int begin = s.then(s.set(1, s.open(0, Scene.APPEND)), s.buffer(h, 3));
        int put = s.put(h, s.num(65));
        int failing = s.catching(s.then(put, s.buffer(h, 0)), s.num(0), 1 << Scene.FULL);
        s.number("one waits", s.then(begin, failing, put, s.where(h)), 41);
        s.number("two wait", s.then(begin, failing, put, put, s.where(h)), 42);
        s.fails("three do not", s.then(begin, failing, put, put, put), Scene.FULL, put);
    }

    /** A FLUSH of nothing needs no room. */
    private static void nothingWaits() {
        for (int code : new int[] {CLOSE, SEEK, WHERE, SIZE, BUFFER, FLUSH}) {
            Scene s = new Scene("CODE " + code + ", nothing waits");
            s.fill(0, 40, 1);
            s.fill(1, 40, 1);
            s.fill(2, 40, 1);
            int open = s.open(0, Scene.BOTH);
            int node = s.x.node(code, open, code == BUFFER ? 9 : s.num(40), 0);
            s.number("no failure", node, code == SIZE ? 40 : 0);
            s.due("laid", s.x.handle(0, 5), 0);
        }
    }

    /** "Behind a run .. HANDLES that are OPEN or HALF are closed as by CLOSE, in order, whatever FAILS". */
    private static void behindRun() {
        for (int room = 0; room <= 5; room++) {
            Scene s = new Scene("behind a run, room for " + room);
            s.fill(5, 40, 1);
            s.fill(6, 40, 1);
            s.fill(7, 40 - room, 1);
            int begin = s.num(0);
            for (int file = 0; file < 2; file++) {
                begin = s.then(begin, s.set(file, s.open(file, Scene.WRITE)), s.buffer(s.get(file), 9));
            }
            int first = s.put(s.get(0), s.num(60));
            int second = s.put(s.get(1), s.num(61));
            s.number("a run", s.then(begin, second, first, second, first), 0);
            int laidFirst = Math.min(2, room);
            int laidSecond = Math.min(2, room - laidFirst);
            s.handle("the first", 0, 0, Scene.WRITE, Scene.OPEN, 2, 0, laidFirst);
            s.handle("the second", 1, 1, Scene.WRITE, Scene.OPEN, 2, 0, laidSecond);
            s.due("the first", s.x.size(0), laidFirst);
            s.due("the second", s.x.size(1), laidSecond);
            s.due("THE ORDER is without it", s.x.told(6), 8);
            s.due("value", s.x.value(), 0);
            s.due("where", s.x.where(), NONE);
        }
    }

    /** Whatever the run came to, its HANDLES are closed, and what it came to stays. */
    private static void behindEachEnding() {
        for (int ending = Scene.A_NUMBER; ending <= Scene.STOPPED; ending++) {
            for (int room = 0; room <= 1; room++) {
                Scene s = new Scene("behind ending " + ending + ", room for " + room);
                s.fill(0, 40 - room, 1);
                s.lay(1, 7);
                int h = s.get(1);
                int begin = s.then(s.set(1, s.open(0, Scene.APPEND)), s.buffer(h, 9), s.put(h, s.num(65)));
                int last = switch (ending) {
                    case Scene.A_NUMBER -> s.num(3);
                    case Scene.A_HANDLE -> h;
                    case Scene.A_LIST -> s.lazy(s.open(1, Scene.READ));
                    case Scene.FAILED -> s.fail(3);
                    case Scene.EXITED -> s.exit(s.num(3));
                    default -> s.times(s.num(600), s.num(3));
                };
                int value = ending == Scene.A_HANDLE || ending == Scene.A_LIST || ending == Scene.STOPPED ? 0 : 3;
                if (ending == Scene.FAILED) {
                    s.fails("a run", s.then(begin, last), value, last);
                } else {
                    s.ends("a run", s.then(begin, last), ending, value);
                }
                s.handle("HANDLE", 0, 0, Scene.APPEND, Scene.OPEN, 1, 0, room);
                s.due("the last byte", s.x.content(0, 39), room == 1 ? 65 : 1);
                s.ends("it is held no more", s.open(0, Scene.WRITE), Scene.A_HANDLE, 0);
                s.content("nothing comes later", 0);
            }
        }
    }

    private static void halfBehindRun() {
        Scene s = new Scene("HALF behind a run");
        s.lay(0, 7, 8);
        s.number("HALF", s.item(s.lazy(s.open(0, Scene.READ)), s.num(0)), 7);
        s.handle("HANDLE", 0, 0, Scene.READ, Scene.HALF, 0, 1, 0);
        s.due("ORDER", s.x.told(6), 2);
        s.number("it is held no more", s.remove(0), 0);
        s.due("HANDLES", s.x.told(4), 0);
    }

    /** "2 OPEN (0), HALF (1), CLOSED (2) when the run ended (ahead of closing)". */
    private static void stateAheadOfClosing() {
        Scene s = new Scene("states");
        s.lay(0, 7);
        int open = s.open(0, Scene.READ);
        s.ends("three HANDLES", s.then(s.close(open), s.lazy(open), open), Scene.A_HANDLE, 2);
        s.due("CLOSED", s.x.handle(0, 2), Scene.CLOSED);
        s.due("HALF", s.x.handle(1, 2), Scene.HALF);
        s.due("OPEN", s.x.handle(2, 2), Scene.OPEN);
        s.due("no more", s.x.handle(3, 2), NONE);
    }
}
