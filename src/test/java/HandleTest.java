/** Promise 13 and CODES 3 to 6 and 10 to 16: HANDLES, BUFFERS and FILES in runs. */
public final class HandleTest {
    private static final int NONE = InputOutput.NONE, OUTSIDE = InputOutput.OUTSIDE;

    public static void main(String[] args) {
        openModes();
        openRefused();
        openBusy();
        openFull();
        closing();
        putting();
        putRefused();
        lineBuffer();
        blockBuffer();
        flushWithoutRoom();
        flushOverBytes();
        taking();
        seeking();
        seekBehindFlush();
        whereAndSize();
        changingBuffer();
        notOpen();
        removing();
        renaming();
        behindRun();
        facts();
        Check.finish();
    }

    private static void openModes() {
        Scene s = new Scene("OPEN");
        s.lay(0, 1, 2, 3);
        s.number("READ at the beginning", s.where(s.open(0, Scene.READ)), 0);
        s.number("BOTH at the beginning", s.where(s.open(0, Scene.BOTH)), 0);
        s.number("APPEND behind the last byte", s.where(s.open(0, Scene.APPEND)), 3);
        s.content("these leave the bytes", 0, 1, 2, 3);
        s.number("WRITE at the beginning", s.where(s.open(0, Scene.WRITE)), 0);
        s.content("WRITE makes it empty", 0);
        s.due("THE DISK is empty", s.x.told(3), 0);
        for (int mode = Scene.WRITE; mode <= Scene.BOTH; mode++) {
            s.ends("one that is not there", s.open(mode, mode), Scene.A_HANDLE, 0);
            s.due("is there then", s.x.size(mode), 0);
            s.handle("HANDLE", 0, mode, mode, Scene.OPEN, 0, 0, 0);
        }
    }

    private static void openRefused() {
        Scene s = new Scene("OPEN refused");
        int read = s.open(0, Scene.READ);
        int write = s.open(0, Scene.WRITE);
        int append = s.open(0, Scene.APPEND);
        int both = s.open(0, Scene.BOTH);
        s.x.permit(0, 0);
        s.fails("ABSENT is asked ahead of DENIED", read, Scene.ABSENT, read);
        s.fails("a new one, DENIED", write, Scene.DENIED, write);
        s.due("nothing is there", s.x.size(0), NONE);
        s.lay(0, 7);
        for (int node : new int[] {read, write, append, both}) {
            s.fails("without PERMITS", node, Scene.DENIED, node);
            s.due("no HANDLE", s.x.told(4), 0);
            s.order("no ORDER");
        }
        s.x.permit(0, 1);
        s.ends("READ with 1", read, Scene.A_HANDLE, 0);
        s.fails("WRITE with 1", write, Scene.DENIED, write);
        s.fails("APPEND with 1", append, Scene.DENIED, append);
        s.fails("BOTH with 1", both, Scene.DENIED, both);
        s.content("it is not made empty", 0, 7);
        s.x.permit(0, 2);
        s.fails("READ with 2", read, Scene.DENIED, read);
        s.fails("BOTH with 2", both, Scene.DENIED, both);
        s.ends("APPEND with 2", append, Scene.A_HANDLE, 0);
        s.ends("WRITE with 2", write, Scene.A_HANDLE, 0);
    }

    private static void openBusy() {
        int[][] busy = {{0, 1, 1, 1}, {1, 1, 1, 1}, {1, 1, 1, 1}, {1, 1, 1, 1}};
        for (int first = 0; first < 4; first++) {
            for (int second = 0; second < 4; second++) {
                Scene s = new Scene("MODE " + second + " while " + first);
                s.lay(0, 1);
                s.lay(1, 1);
                int one = s.open(0, first);
                int two = s.open(0, second);
                if (busy[first][second] == 1) {
                    s.fails("the same FILE", s.then(one, two), Scene.BUSY, two);
                } else {
                    s.ends("the same FILE", s.then(one, two), Scene.A_HANDLE, 1);
                }
                s.ends("another FILE", s.then(one, s.open(1, second)), Scene.A_HANDLE, 1);
                s.ends("once it is CLOSED", s.then(s.close(one), two), Scene.A_HANDLE, 1);
            }
        }
        Scene s = new Scene("BUSY by one that is HALF");
        s.lay(0, 1);
        int half = s.lazy(s.open(0, Scene.READ));
        int write = s.open(0, Scene.WRITE);
        s.fails("WRITE", s.then(half, write), Scene.BUSY, write);
        s.content("it is not made empty", 0, 1);
        s.ends("READ", s.then(half, s.open(0, Scene.READ)), Scene.A_HANDLE, 1);
        s.ends("its LIST ended", s.then(s.length(half), write), Scene.A_HANDLE, 1);
        s.x.there(0, true);
        s.x.permit(0, 1);
        s.fails("DENIED is asked ahead of BUSY", s.then(half, write), Scene.DENIED, write);
    }

    private static void openFull() {
        Scene s = new Scene("OPEN, FULL");
        s.lay(0, 1);
        int open = s.open(0, Scene.READ);
        int twenty = s.times(s.num(20), s.close(open));
        s.fails("the 21st, though all are CLOSED", s.then(twenty, open), Scene.FULL, open);
        s.due("HANDLES", s.x.told(4), 20);
        s.due("the last one", s.x.handle(19, 2), Scene.CLOSED);
        s.due("no more", s.x.handle(20, 2), NONE);
        int other = s.open(1, Scene.WRITE);
        s.fails("WRITE", s.then(twenty, other), Scene.FULL, other);
        s.due("it is not there", s.x.size(1), NONE);
        int twice = s.times(s.num(20), open);
        int busy = s.open(0, Scene.WRITE);
        s.fails("BUSY is asked first", s.then(twice, busy), Scene.BUSY, busy);
    }

    private static void closing() {
        Scene s = new Scene("CLOSE");
        s.lay(0, 1, 2);
        int close = s.close(s.open(0, Scene.READ));
        s.number("OPEN", close, 0);
        s.handle("HANDLE", 0, 0, Scene.READ, Scene.CLOSED, 0, 0, 0);
        int keep = s.set(1, s.open(0, Scene.READ));
        int again = s.close(s.get(1));
        s.number("CLOSED", s.then(keep, again, again), 0);
        s.order("only the first closed one", keep - 1, again);
        s.number("HALF", s.then(keep, s.lazy(s.get(1)), again), 0);
        s.order("it closed one", keep - 1, again);
        s.due("it is CLOSED", s.x.handle(0, 2), Scene.CLOSED);
        int open = s.set(1, s.open(3, Scene.WRITE));
        int put = s.then(open, s.buffer(s.get(1), 9), s.put(s.get(1), s.num(8)));
        s.number("what waits is laid", s.then(put, again, s.where(s.set(2, s.open(3, Scene.APPEND)))), 1);
        s.content("FILE 3", 3, 8);
    }

    private static void putting() {
        Scene s = new Scene("PUT");
        int open = s.set(1, s.open(0, Scene.WRITE));
        int first = s.put(s.get(1), s.num(0x141));
        int second = s.put(s.get(1), s.num(-1));
        s.number("comes to 0", s.then(open, first, second), 0);
        s.content("the lowest 8 bits", 0, 0x41, 255);
        s.handle("HANDLE", 0, 0, Scene.WRITE, Scene.OPEN, 2, 0, 2);
        s.number("APPEND", s.put(s.open(0, Scene.APPEND), s.num(3)), 0);
        s.content("behind", 0, 0x41, 255, 3);
        s.number("BOTH", s.put(s.open(0, Scene.BOTH), s.num(4)), 0);
        s.content("in place", 0, 4, 255, 3);
    }

    private static void putRefused() {
        Scene s = new Scene("PUT refused");
        s.lay(0, 9);
        int print = s.print(s.num(5));
        int put = s.put(s.open(0, Scene.READ), print);
        s.fails("READ", put, Scene.ILLEGAL, put);
        s.due("once all parts are worked", s.x.told(2), 1);
        s.handle("HANDLE", 0, 0, Scene.READ, Scene.OPEN, 0, 0, 0);
        int keep = s.set(1, s.open(0, Scene.WRITE));
        int late = s.put(s.get(1), print);
        s.fails("CLOSED", s.then(keep, s.close(s.get(1)), late), Scene.ILLEGAL, late);
        s.due("once all parts are worked", s.x.told(2), 2);
        s.due("nothing was put", s.x.handle(0, 3), 0);
        s.content("nothing was laid", 0);
    }

    /** Runs of so many bytes; the sizes come from a second look at the disk ahead of closing. */
    private static void lineBuffer() {
        Scene s = new Scene("LINE");
        int open = s.then(s.set(1, s.open(0, Scene.WRITE)), s.buffer(s.get(1), 1));
        int put = s.put(s.get(1), s.num(65));
        int line = s.put(s.get(1), s.num(10));
        int high = s.put(s.get(1), s.num(256 + 10));
        s.fill(1, 40, 1);
        s.fill(2, 40, 1);
        s.fill(3, 40, 1);
        int nineteen = s.times(s.num(19), put);
        s.number("19 wait", s.then(open, nineteen), 0);
        s.handle("none is laid: no room", 0, 0, Scene.WRITE, Scene.OPEN, 19, 0, 0);
        s.fails("the 20th is laid at once", s.then(open, nineteen, put), Scene.FULL, put);
        s.fails("a line end is laid at once", s.then(open, put, line), Scene.FULL, line);
        s.fails("of its lowest 8 bits", s.then(open, put, high), Scene.FULL, high);
        s.due("put", s.x.handle(0, 3), 2);
        s.number("the BUFFER is empty then", s.then(open, s.catching(line, s.where(s.get(1)), 32)), 0);
    }

    private static void blockBuffer() {
        for (int block = 2; block <= 9; block++) {
            Scene s = new Scene("BLOCK of " + block);
            s.fill(1, 40, 1);
            s.fill(2, 40, 1);
            s.fill(3, 40, 1);
            int open = s.then(s.set(1, s.open(0, Scene.WRITE)), s.buffer(s.get(1), block));
            int put = s.put(s.get(1), s.num(10));
            int before = s.times(s.num(block - 1), put);
            s.number("one less waits", s.then(open, before), 0);
            s.fails("as many are laid", s.then(open, before, put), Scene.FULL, put);
            s.x.there(1, false);
            s.number("with room", s.then(open, before, put, put), 0);
            s.handle("HANDLE", 0, 0, Scene.WRITE, Scene.OPEN, block + 1, 0, block + 1);
            s.due("the FILE", s.x.size(0), block + 1);
        }
    }

    private static void flushWithoutRoom() {
        Scene s = new Scene("no room");
        s.fill(0, 38, 1);
        int open = s.then(s.set(1, s.open(0, Scene.APPEND)), s.buffer(s.get(1), 9));
        int puts = s.then(s.put(s.get(1), s.num(2)), s.put(s.get(1), s.num(3)), s.put(s.get(1), s.num(4)),
            s.put(s.get(1), s.num(5)));
        int flush = s.flush(s.get(1));
        s.fails("in the FILE", s.then(open, puts, flush), Scene.FULL, flush);
        s.due("what had room came", s.x.content(0, 38), 2);
        s.due("what had room came", s.x.content(0, 39), 3);
        s.handle("HANDLE", 0, 0, Scene.APPEND, Scene.OPEN, 4, 0, 2);
        s.number("the PLACE is behind it", s.then(open, s.catching(s.then(puts, flush), s.where(s.get(1)), 32)), 40);

        Scene t = new Scene("no room on THE DISK");
        t.fill(0, 40, 1);
        t.fill(1, 40, 1);
        t.fill(2, 38, 1);
        int start = t.then(t.set(1, t.open(3, Scene.BOTH)), t.buffer(t.get(1), 3));
        int put = t.put(t.get(1), t.num(7));
        t.fails("the third", t.then(start, put, put, put), Scene.FULL, put);
        t.content("two came", 3, 7, 7);
        int close = t.close(t.get(1));
        int four = t.open(4, Scene.APPEND);
        int begin = t.then(t.set(1, four), t.buffer(t.get(1), 3), put);
        t.fails("CLOSE FAILS", t.then(begin, close), Scene.FULL, close);
        t.due("it is CLOSED all the same", t.x.handle(0, 2), Scene.CLOSED);
        t.order("and closed one", four, t.x.order(1), put, close);
        t.content("nothing came", 4);
    }

    /** Bytes in place of others need no room. */
    private static void flushOverBytes() {
        Scene s = new Scene("in place");
        s.fill(0, 40, 1);
        s.fill(1, 40, 1);
        s.fill(2, 40, 1);
        int open = s.set(1, s.open(2, Scene.BOTH));
        int put = s.put(s.get(1), s.num(9));
        s.number("40 in place", s.then(open, s.times(s.num(40), put)), 0);
        s.due("the last one", s.x.content(2, 39), 9);
        s.fails("the 41st", s.then(open, s.times(s.num(41), put)), Scene.FULL, put);
        s.due("laid", s.x.handle(0, 5), 40);
        int late = s.then(open, s.seek(s.get(1), s.num(39)), s.buffer(s.get(1), 2));
        s.fails("half in place", s.then(late, s.put(s.get(1), s.num(6)), put), Scene.FULL, put);
        s.due("the one that had room", s.x.content(2, 39), 6);
        s.due("laid", s.x.handle(0, 5), 1);
    }

    private static void taking() {
        Scene s = new Scene("TAKE");
        s.lay(0, 200, 10);
        int open = s.set(1, s.open(0, Scene.READ));
        int take = s.take(s.get(1));
        s.number("the first", s.then(open, take), 200);
        s.number("the next", s.then(open, take, take), 10);
        s.handle("HANDLE", 0, 0, Scene.READ, Scene.OPEN, 0, 2, 0);
        s.fails("END", s.then(open, take, take, take), Scene.END, take);
        s.due("taken", s.x.handle(0, 4), 2);
        s.order("END is no act", open - 1, take, take);
        int write = s.take(s.open(3, Scene.WRITE));
        s.fails("WRITE", write, Scene.ILLEGAL, write);
        int append = s.take(s.open(0, Scene.APPEND));
        s.fails("APPEND", append, Scene.ILLEGAL, append);
        int both = s.then(s.set(1, s.open(0, Scene.BOTH)), s.buffer(s.get(1), 9), s.put(s.get(1), s.num(7)));
        s.number("a FLUSH ahead", s.then(both, take), 10);
        s.content("in place", 0, 7, 10);
        s.fails("its PLACE is behind", s.then(both, take, take), Scene.END, take);
        s.fill(4, 40, 1);
        s.fill(5, 40, 1);
        s.fill(6, 38, 1);
        int full = s.then(s.set(1, s.open(7, Scene.BOTH)), s.buffer(s.get(1), 9), s.put(s.get(1), s.num(7)));
        s.fails("that FAILS", s.then(full, take), Scene.FULL, take);
    }

    private static void seeking() {
        Scene s = new Scene("SEEK");
        s.lay(0, 1, 2, 3);
        for (int mode : new int[] {Scene.READ, Scene.BOTH}) {
            int open = s.set(1, s.open(0, mode));
            int seek = s.seek(s.get(1), s.num(2));
            s.number("comes to 0", s.then(open, seek), 0);
            s.order("it is an act", open - 1, seek);
            s.number("TAKE from there", s.then(open, seek, s.take(s.get(1))), 3);
            s.number("behind the last", s.then(open, s.seek(s.get(1), s.num(3)), s.where(s.get(1))), 3);
            int far = s.seek(s.get(1), s.num(4));
            s.fails("farther", s.then(open, far), Scene.ILLEGAL, far);
            s.order("that is no act", open - 1);
        }
        int below = s.seek(s.open(0, Scene.READ), s.num(-1));
        s.fails("below 0", below, Scene.ILLEGAL, below);
        s.x.clear();
        int least = s.seek(s.open(0, Scene.READ), s.num(Integer.MIN_VALUE));
        s.fails("far below 0", least, Scene.ILLEGAL, least);
        int most = s.seek(s.open(0, Scene.READ), s.num(Integer.MAX_VALUE));
        s.fails("far above", most, Scene.ILLEGAL, most);
        int append = s.seek(s.open(0, Scene.APPEND), s.num(0));
        s.fails("APPEND", append, Scene.ILLEGAL, append);
        int write = s.set(1, s.open(0, Scene.WRITE));
        int put = s.put(s.get(1), s.num(9));
        s.number("WRITE", s.then(write, put, put, s.seek(s.get(1), s.num(0)), s.put(s.get(1), s.num(8))), 0);
        s.content("in place", 0, 8, 9);
    }

    private static void seekBehindFlush() {
        Scene s = new Scene("SEEK, a FLUSH ahead");
        int open = s.then(s.set(1, s.open(0, Scene.WRITE)), s.buffer(s.get(1), 9));
        int put = s.put(s.get(1), s.num(5));
        s.number("the bytes that waited count", s.then(open, put, put, s.seek(s.get(1), s.num(2))), 0);
        int back = s.then(s.seek(s.get(1), s.num(0)), s.put(s.get(1), s.num(6)));
        s.number("they were laid at the former PLACE", s.then(open, put, put, back), 0);
        s.content("FILE 0", 0, 6, 5);
        s.fill(1, 40, 1);
        s.fill(2, 40, 1);
        s.fill(3, 38, 1);
        int seek = s.seek(s.get(1), s.num(-1));
        int three = s.then(open, put, put, put);
        s.fails("FULL ahead of ILLEGAL", s.then(three, seek), Scene.FULL, seek);
        int append = s.then(s.set(1, s.open(4, Scene.APPEND)), s.buffer(s.get(1), 9), put);
        s.fails("of APPEND, too", s.then(append, seek), Scene.FULL, seek);
    }

    private static void whereAndSize() {
        Scene s = new Scene("WHERE and SIZE");
        s.lay(0, 1, 2, 3);
        int open = s.then(s.set(1, s.open(0, Scene.BOTH)), s.buffer(s.get(1), 9));
        int put = s.put(s.get(1), s.num(5));
        int where = s.where(s.get(1));
        int size = s.size(s.get(1));
        s.number("WHERE counts what waits", s.then(open, put, put, where), 2);
        s.due("ORDER is without WHERE", s.x.told(6), 4);
        s.number("SIZE flushes", s.then(open, put, put, put, put, size), 4);
        s.due("ORDER is without SIZE", s.x.told(6), 6);
        s.number("WHERE behind it", s.then(open, put, size, where), 1);
        s.number("SIZE of READ", s.size(s.open(0, Scene.READ)), 4);
        s.fill(1, 40, 1);
        s.fill(2, 40, 1);
        s.fill(3, 36, 1);
        s.fails("SIZE FAILS with its FLUSH", s.then(open, s.seek(s.get(1), s.num(4)), put, size), Scene.FULL, size);
    }

    private static void changingBuffer() {
        Scene s = new Scene("BUFFER");
        int open = s.then(s.set(1, s.open(0, Scene.WRITE)), s.buffer(s.get(1), 9));
        int put = s.put(s.get(1), s.num(5));
        int none = s.buffer(s.get(1), 0);
        int size = s.size(s.get(1));
        s.number("comes to 0", s.then(open, put, none), 0);
        s.number("NONE again", s.then(open, put, none, put, size), 2);
        s.x.there(0, false);
        s.fill(1, 40, 1);
        s.fill(2, 40, 1);
        s.fill(3, 39, 1);
        s.fails("a FLUSH ahead", s.then(open, put, put, none), Scene.FULL, none);
        s.due("it is no act", s.x.order(4), NONE);
        s.x.there(0, false);
        s.number("the BUFFER stays then", s.then(open, put, put, s.catching(none, put, 32)), 0);
        s.due("ACTS", s.x.told(6), 5);
        s.number("of READ", s.buffer(s.open(1, Scene.READ), 4), 0);
        s.number("FLUSH of READ", s.flush(s.open(1, Scene.READ)), 0);
    }

    private static void notOpen() {
        for (int way = 0; way < 2; way++) {
            Scene s = new Scene(way == 0 ? "HALF" : "CLOSED");
            s.lay(0, 1);
            int open = s.set(1, s.open(0, Scene.READ));
            int gone = s.then(open, way == 0 ? s.lazy(s.get(1)) : s.close(s.get(1)));
            int print = s.print(s.num(0));
            int h = s.get(1);
            int[] nodes = {s.put(h, print), s.take(h), s.lazy(h), s.seek(h, print), s.where(h), s.size(h),
                s.buffer(h, 2), s.flush(h)};
            for (int node : nodes) {
                s.fails("NODE " + node, s.then(gone, node), Scene.ILLEGAL, node);
            }
            s.due("all parts were worked", s.x.told(2), 2);
            s.number("CLOSE", s.then(gone, s.close(h)), 0);
        }
    }

    private static void removing() {
        Scene s = new Scene("REMOVE");
        s.lay(0, 1, 2);
        int remove = s.remove(0);
        int open = s.open(0, Scene.READ);
        s.x.permit(0, 1);
        s.fails("DENIED", remove, Scene.DENIED, remove);
        s.fails("ahead of BUSY", s.then(open, remove), Scene.DENIED, remove);
        s.x.permit(0, 3);
        s.fails("BUSY", s.then(open, remove), Scene.BUSY, remove);
        s.fails("BUSY, HALF", s.then(s.lazy(open), remove), Scene.BUSY, remove);
        s.content("nothing changed", 0, 1, 2);
        s.x.permit(0, 2);
        s.number("2 is enough", remove, 0);
        s.order("ORDER", remove);
        s.due("it is not there", s.x.size(0), NONE);
        s.due("its room is free", s.x.told(3), 0);
        s.x.permit(0, 1);
        s.fails("ABSENT ahead of DENIED", remove, Scene.ABSENT, remove);
        s.due("PERMITS stay", s.x.permit(0, 3), 1);
    }

    private static void renaming() {
        Scene s = new Scene("RENAME");
        s.lay(0, 1, 2);
        s.lay(1, 7, 8, 9);
        int rename = s.rename(0, 1);
        int same = s.rename(1, 1);
        s.x.permit(0, 1);
        s.fails("DENIED of a", rename, Scene.DENIED, rename);
        s.x.permit(0, 3);
        s.x.permit(1, 1);
        s.fails("DENIED of b", rename, Scene.DENIED, rename);
        s.fails("of the same", same, Scene.DENIED, same);
        s.fails("ahead of BUSY", s.then(s.open(1, Scene.READ), rename), Scene.DENIED, rename);
        s.x.permit(1, 3);
        s.fails("a is HELD", s.then(s.open(0, Scene.READ), rename), Scene.BUSY, rename);
        s.fails("b is HELD", s.then(s.open(1, Scene.READ), rename), Scene.BUSY, rename);
        s.fails("the same is HELD", s.then(s.open(1, Scene.READ), same), Scene.BUSY, same);
        s.number("the same", same, 0);
        s.order("is no act");
        s.content("nothing changed", 0, 1, 2);
        s.content("nothing changed", 1, 7, 8, 9);
        s.x.permit(0, 2);
        s.number("comes to 0", rename, 0);
        s.order("is an act", rename);
        s.due("a is not there", s.x.size(0), NONE);
        s.due("nor are its bytes", s.x.content(0, 0), NONE);
        s.due("it was not there", s.x.there(0, true), 0);
        s.due("nor do they come back", s.x.size(0), 0);
        s.x.there(0, false);
        s.content("b has its bytes", 1, 1, 2);
        s.due("bytes of all FILES", s.x.told(3), 2);
        s.due("PERMITS stay with a", s.x.permit(0, 3), 2);
        s.due("PERMITS stay with b", s.x.permit(1, 0), 3);
        s.fails("ABSENT ahead of DENIED", rename, Scene.ABSENT, rename);
        s.x.permit(1, 3);
        s.number("to one that is not there", s.rename(1, 5), 0);
        s.content("it has the bytes", 5, 1, 2);
        s.fails("the same, ABSENT", same, Scene.ABSENT, same);
    }

    private static void behindRun() {
        Scene s = new Scene("behind a run");
        s.fill(2, 40, 1);
        s.fill(3, 40, 1);
        s.fill(4, 38, 1);
        int one = s.then(s.set(1, s.open(0, Scene.WRITE)), s.buffer(s.get(1), 9));
        int two = s.then(s.set(2, s.open(1, Scene.WRITE)), s.buffer(s.get(2), 9));
        int putOne = s.put(s.get(1), s.num(5));
        int putTwo = s.put(s.get(2), s.num(6));
        s.number("whatever FAILS", s.then(one, two, putTwo, putTwo, putOne), 0);
        s.content("in order: the first", 0, 5);
        s.content("in order: the second", 1, 6);
        s.handle("the first", 0, 0, Scene.WRITE, Scene.OPEN, 1, 0, 1);
        s.handle("the second", 1, 1, Scene.WRITE, Scene.OPEN, 2, 0, 1);
        s.due("ORDER is without that", s.x.told(6), 7);
        s.due("where", s.x.where(), NONE);
        s.ends("EXIT", s.then(s.remove(1), one, putOne, s.exit(s.num(3))), Scene.EXITED, 3);
        s.content("laid, too", 0, 5);
        s.ends("FAILED", s.then(one, s.put(s.get(1), s.num(77)), s.fail(2)), Scene.FAILED, 2);
        s.content("laid, too", 0, 77);
    }

    private static void facts() {
        Scene s = new Scene("handle");
        s.lay(5, 1, 2, 3);
        int open = s.set(1, s.open(5, Scene.BOTH));
        int puts = s.then(s.put(s.get(1), s.num(5)), s.put(s.get(1), s.num(5)));
        s.number("a run", s.then(open, puts, s.take(s.get(1))), 3);
        s.handle("HANDLE", 0, 5, Scene.BOTH, Scene.OPEN, 2, 1, 2);
        s.due("what", s.x.handle(0, -1), OUTSIDE);
        s.due("what", s.x.handle(0, 6), OUTSIDE);
        s.due("what", s.x.handle(0, Integer.MIN_VALUE), OUTSIDE);
        s.due("what", s.x.handle(0, Integer.MAX_VALUE), OUTSIDE);
        s.due("OUTSIDE ahead of NONE", s.x.handle(1, 6), OUTSIDE);
        for (int h : new int[] {-1, 1, 20, Integer.MIN_VALUE, Integer.MAX_VALUE}) {
            s.due("no such", s.x.handle(h, 0), NONE);
        }
    }
}
