/**
 * The limits that "Terms" names, each at the limit, one below it and one above
 * it. Above each test stands the sentence that it is for.
 */
public final class LimitTest {
    private static final int NONE = InputOutput.NONE, OUTSIDE = InputOutput.OUTSIDE, ROOM = InputOutput.ROOM;
    private static final int LEAST = Integer.MIN_VALUE, MOST = Integer.MAX_VALUE;

    public static void main(String[] args) {
        files();
        filesOfNodes();
        atFirst();
        bytesOfFile();
        bytesOfFileByFlush();
        bytesOnDisk();
        bytesOnDiskByFlush();
        roomComesBack();
        roomComesBackInRun();
        bytesOfInput();
        inputSinceClear();
        bytesOfOutput();
        keptOutputStays();
        handles();
        handlesOfEachRun();
        modes();
        firstPlaces();
        bufferSorts();
        lineOfTwenty();
        lineEnds();
        blocks();
        noBuffer();
        lengthsOfLists();
        itemsOfLists();
        nodes();
        lesserNumbers();
        variables();
        kinds();
        kindsOfCatch();
        bytes();
        lowestBits();
        wrapAround();
        places();
        times();
        order();
        orderOfBytes();
        Check.finish();
    }

    /** A full disk: any FLUSH of a byte behind the last one FAILS, so that it shows when a FLUSH comes. */
    private static Scene crowded(String name, int room) {
        Scene s = new Scene(name);
        s.fill(5, 40, 1);
        s.fill(6, 40, 1);
        s.fill(7, 40 - room, 1);
        return s;
    }

    /** "FILES 0 to 7". */
    private static void files() {
        Scene s = new Scene("FILES");
        for (int file : new int[] {0, 7}) {
            s.due("there", s.x.there(file, true), 0);
            s.due("lay", s.x.lay(file, 9), 1);
            s.due("permit", s.x.permit(file, 3), 3);
            s.due("content", s.x.content(file, 0), 9);
            s.due("size", s.x.size(file), 1);
        }
        for (int file : new int[] {-1, 8, LEAST, MOST}) {
            s.due("there", s.x.there(file, true), OUTSIDE);
            s.due("there", s.x.there(file, false), OUTSIDE);
            s.due("lay", s.x.lay(file, 9), OUTSIDE);
            s.due("permit", s.x.permit(file, 3), OUTSIDE);
            s.due("content", s.x.content(file, 0), OUTSIDE);
            s.due("size", s.x.size(file), OUTSIDE);
        }
        s.due("bytes of all FILES", s.x.told(3), 2);
    }

    private static void filesOfNodes() {
        Scene s = new Scene("FILES of NODES");
        for (int file : new int[] {0, 7}) {
            s.ends("OPEN", s.open(file, Scene.WRITE), Scene.A_HANDLE, 0);
            s.due("its FILE", s.x.handle(0, 0), file);
            s.number("RENAME", s.rename(file, 7 - file), 0);
            s.number("REMOVE", s.remove(7 - file), 0);
        }
        int told = s.x.told(0);
        for (int file : new int[] {-1, 8, LEAST, MOST}) {
            s.due("OPEN", s.x.node(3, file, 1, 0), OUTSIDE);
            s.due("REMOVE", s.x.node(15, file, 0, 0), OUTSIDE);
            s.due("RENAME a", s.x.node(16, file, 0, 0), OUTSIDE);
            s.due("RENAME b", s.x.node(16, 0, file, 0), OUTSIDE);
        }
        s.due("NODES", s.x.told(0), told);
    }

    /** "PERMITS: to be read (1), written (2); both at first; none is there." */
    private static void atFirst() {
        Scene s = new Scene("at first");
        for (int file = 0; file < 8; file++) {
            s.due("none is there", s.x.size(file), NONE);
            s.due("nor has it bytes", s.x.content(file, 0), NONE);
            s.due("both PERMITS", s.x.permit(file, file % 4), 3);
            s.due("what they were", s.x.permit(file, 3), file % 4);
        }
        s.fails("so READ is ABSENT", s.open(0, Scene.READ), Scene.ABSENT, 0);
        s.ends("and BOTH is not DENIED", s.open(0, Scene.BOTH), Scene.A_HANDLE, 0);
    }

    /** "with bytes, 40 at most"; "ROOM: 40". */
    private static void bytesOfFile() {
        Scene s = new Scene("40 bytes");
        for (int i = 1; i <= 40; i++) {
            s.due("byte " + i, s.x.lay(3, i), i);
        }
        s.due("the 41st", s.x.lay(3, 41), ROOM);
        s.due("40 stay", s.x.size(3), 40);
        s.due("the 39th", s.x.content(3, 38), 39);
        s.due("the 40th", s.x.content(3, 39), 40);
        s.due("no 41st", s.x.content(3, 40), NONE);
        s.due("of all FILES", s.x.told(3), 40);
        s.due("another FILE has room", s.x.lay(4, 1), 1);
    }

    /** "of one for which there is no room, in the FILE or on THE DISK, .. nothing comes, and it FAILS 5". */
    private static void bytesOfFileByFlush() {
        Scene s = new Scene("40 bytes by FLUSH");
        int open = s.set(1, s.open(3, Scene.WRITE));
        int put = s.put(s.get(1), s.num(6));
        s.number("39", s.then(open, s.times(s.num(39), put)), 0);
        s.due("size", s.x.size(3), 39);
        s.number("40", s.then(open, s.times(s.num(40), put)), 0);
        s.due("size", s.x.size(3), 40);
        s.fails("41", s.then(open, s.times(s.num(41), put)), Scene.FULL, put);
        s.due("size", s.x.size(3), 40);
        s.handle("put and laid", 0, 3, Scene.WRITE, Scene.OPEN, 41, 0, 40);
        int more = s.put(s.open(3, Scene.APPEND), s.num(7));
        s.fails("APPEND to 40", more, Scene.FULL, more);
        s.due("laid", s.x.handle(0, 5), 0);
    }

    /** "THE DISK has room for 120 bytes of all FILES together"; "ROOM: .. THE DISK". */
    private static void bytesOnDisk() {
        Scene s = crowded("120 bytes", 3);
        s.due("117 bytes", s.x.told(3), 117);
        s.due("118", s.x.lay(0, 1), 1);
        s.due("119", s.x.lay(1, 1), 1);
        s.due("120", s.x.lay(2, 1), 1);
        s.due("121 in a FILE that is there", s.x.lay(0, 1), ROOM);
        s.due("121 in one that is not", s.x.lay(3, 1), ROOM);
        s.due("it is not there then", s.x.size(3), NONE);
        s.due("there needs no room", s.x.there(3, true), 0);
        s.due("121 in an empty one", s.x.lay(3, 1), ROOM);
        s.due("it is empty", s.x.size(3), 0);
        s.due("FILE 0", s.x.size(0), 1);
        s.due("120 stay", s.x.told(3), 120);
    }

    private static void bytesOnDiskByFlush() {
        Scene s = crowded("120 bytes by FLUSH", 3);
        int open = s.set(1, s.open(0, Scene.WRITE));
        int put = s.put(s.get(1), s.num(6));
        s.number("119", s.then(open, s.times(s.num(2), put)), 0);
        s.due("bytes", s.x.told(3), 119);
        s.number("120", s.then(open, s.times(s.num(3), put)), 0);
        s.due("bytes", s.x.told(3), 120);
        s.fails("121", s.then(open, s.times(s.num(4), put)), Scene.FULL, put);
        s.due("bytes", s.x.told(3), 120);
        s.content("FILE 0", 0, 6, 6, 6);
        s.number("in place needs no room", s.put(s.open(0, Scene.BOTH), s.num(7)), 0);
        s.content("FILE 0", 0, 7, 6, 6);
        s.ends("nor does a new FILE", s.open(1, Scene.WRITE), Scene.A_HANDLE, 0);
        s.due("it is there", s.x.size(1), 0);
    }

    private static void roomComesBack() {
        Scene s = crowded("room comes back", 0);
        s.due("no room", s.x.lay(0, 1), ROOM);
        s.due("a FILE goes", s.x.there(7, false), 1);
        s.due("80 bytes", s.x.told(3), 80);
        s.fill(0, 40, 2);
        s.due("no room again", s.x.lay(7, 1), ROOM);
        s.number("REMOVE", s.remove(6), 0);
        s.due("80 bytes", s.x.told(3), 80);
        s.fill(7, 40, 2);
        s.due("no room again", s.x.lay(6, 1), ROOM);
        s.number("RENAME over another", s.rename(0, 5), 0);
        s.due("80 bytes", s.x.told(3), 80);
        s.fill(1, 40, 2);
        s.due("no room again", s.x.lay(6, 1), ROOM);
        s.number("RENAME to a new one", s.rename(1, 2), 0);
        s.due("gives none", s.x.lay(6, 1), ROOM);
        s.due("120 bytes", s.x.told(3), 120);
        s.ends("WRITE makes it empty", s.open(2, Scene.WRITE), Scene.A_HANDLE, 0);
        s.due("80 bytes", s.x.told(3), 80);
        s.due("room", s.x.lay(6, 1), 1);
        s.x.clear();
        s.due("clear gives none: FILES stay", s.x.told(3), 81);
    }

    private static void roomComesBackInRun() {
        Scene s = crowded("room comes back in a run", 0);
        int open = s.set(1, s.open(0, Scene.WRITE));
        int put = s.put(s.get(1), s.num(6));
        s.fails("no room", s.then(open, put), Scene.FULL, put);
        s.number("REMOVE", s.then(open, s.remove(7), put), 0);
        s.due("81 bytes", s.x.told(3), 81);
        s.fill(7, 39, 1);
        s.fails("no room", s.then(open, put, put), Scene.FULL, put);
        s.number("RENAME over another", s.then(open, s.rename(7, 6), put, put), 0);
        s.due("81 bytes", s.x.told(3), 81);
        s.number("OPEN of WRITE", s.then(open, s.open(5, Scene.WRITE), s.times(s.num(40), put)), 0);
        s.due("79 bytes", s.x.told(3), 79);
    }

    /** "THE INPUT is a row of bytes, 100 at most". */
    private static void bytesOfInput() {
        Scene s = new Scene("100 of THE INPUT");
        for (int i = 1; i <= 100; i++) {
            s.due("byte " + i, s.x.input(i), i);
        }
        s.due("the 101st", s.x.input(101), ROOM);
        s.due("100 are left", s.x.told(1), 100);
        int read = s.read();
        s.number("the first 99", s.times(s.num(99), read), 0);
        s.due("one is left", s.x.told(1), 1);
        s.number("the 100th", read, 100);
        s.due("none is left", s.x.told(1), 0);
        s.fails("the 101st", read, Scene.END, read);
        s.due("none is left", s.x.told(1), 0);
    }

    /** "ROOM: 100 have come since clear()". */
    private static void inputSinceClear() {
        Scene s = new Scene("THE INPUT since clear");
        for (int i = 0; i < 99; i++) {
            s.x.input(i);
        }
        s.number("one is read", s.read(), 0);
        s.due("the 100th", s.x.input(7), 99);
        s.due("what was read gives no room", s.x.input(7), ROOM);
        s.number("all are read", s.times(s.num(99), s.read()), 0);
        s.due("that gives no room either", s.x.input(7), ROOM);
        s.due("OUTSIDE is asked first", s.x.input(256), OUTSIDE);
        s.x.clear();
        for (int i = 1; i <= 100; i++) {
            s.due("anew", s.x.input(7), i);
        }
        s.due("the 101st", s.x.input(7), ROOM);
        s.x.clear();
        s.due("clear empties it", s.x.told(1), 0);
        s.fails("so READ is at its END", s.read(), Scene.END, 0);
    }

    /** "THE OUTPUT one, of which 200 are kept"; "how many there are, with those that are not kept". */
    private static void bytesOfOutput() {
        Scene s = new Scene("200 of THE OUTPUT");
        int one = s.print(s.num(1));
        int two = s.print(s.num(2));
        s.number("198", s.times(s.num(198), one), 0);
        s.due("not yet", s.x.printed(198), NONE);
        for (int i = 199; i <= 202; i++) {
            s.number("PRINT " + i, two, i);
            s.due("told", s.x.told(2), i);
            s.due("the last one", s.x.printed(i - 1), i <= 200 ? 2 : NONE);
            s.due("behind it", s.x.printed(i), NONE);
        }
        s.due("the 198th", s.x.printed(197), 1);
        s.due("the 200th", s.x.printed(199), 2);
        s.x.clear();
        s.due("clear", s.x.printed(0), NONE);
        s.number("anew", s.print(s.num(3)), 1);
        s.due("the first", s.x.printed(0), 3);
        s.due("no second", s.x.printed(1), NONE);
    }

    private static void keptOutputStays() {
        Scene s = new Scene("kept of THE OUTPUT");
        int count = s.print(s.get(1));
        int next = s.set(1, s.plus(s.get(1), s.num(1)));
        int both = s.then(count, next);
        s.number("66 numbers", s.times(s.num(66), both), 0);
        s.number("again", s.times(s.num(66), both), 0);
        s.number("again", s.times(s.num(66), both), 0);
        s.number("over the limit", s.times(s.num(66), both), 0);
        s.due("told", s.x.told(2), 264);
        for (int i = 0; i < 200; i++) {
            s.due("printed(" + i + ")", s.x.printed(i), i % 66);
        }
        s.due("no more", s.x.printed(200), NONE);
        s.due("nor the last", s.x.printed(263), NONE);
    }

    /** "HANDLES, 20 at most in a run, numbered from 0 on as they are opened"; "FULL (20 HANDLES)". */
    private static void handles() {
        for (int closed = 0; closed < 2; closed++) {
            Scene s = new Scene(closed == 0 ? "20 HANDLES" : "20 HANDLES, all CLOSED");
            s.lay(0, 1);
            int open = s.open(0, Scene.READ);
            int each = closed == 0 ? open : s.close(open);
            for (int count = 18; count <= 19; count++) {
                int before = s.times(s.num(count), each);
                s.ends(count + " before", s.then(before, open), Scene.A_HANDLE, count);
                s.due("HANDLES", s.x.told(4), count + 1);
                s.due("the last one", s.x.handle(count, 2), Scene.OPEN);
                s.due("behind it", s.x.handle(count + 1, 2), NONE);
            }
            s.fails("20 before", s.then(s.times(s.num(20), each), open), Scene.FULL, open);
            s.due("HANDLES", s.x.told(4), 20);
            s.due("the last one", s.x.handle(19, 0), 0);
            s.due("no more", s.x.handle(20, 0), NONE);
            s.due("ORDER", s.x.told(6), closed == 0 ? 20 : 40);
        }
    }

    private static void handlesOfEachRun() {
        Scene s = new Scene("20 HANDLES in each run");
        s.lay(0, 1);
        int twenty = s.times(s.num(20), s.open(0, Scene.READ));
        for (int i = 0; i < 3; i++) {
            s.number("a run", twenty, 0);
            s.due("HANDLES", s.x.told(4), 20);
        }
        s.ends("one", s.open(0, Scene.WRITE), Scene.A_HANDLE, 0);
        s.due("HANDLES", s.x.told(4), 1);
        s.due("no more", s.x.handle(1, 0), NONE);
        s.due("no more", s.x.handle(19, 0), NONE);
    }

    /** "a MODE: 0 READ, 1 WRITE, 2 APPEND, 3 BOTH". */
    private static void modes() {
        Scene s = new Scene("MODES");
        s.lay(0, 1);
        for (int mode = 0; mode <= 3; mode++) {
            s.ends("MODE " + mode, s.open(0, mode), Scene.A_HANDLE, 0);
            s.due("it is told", s.x.handle(0, 1), mode);
        }
        for (int mode : new int[] {-1, 4, LEAST, MOST}) {
            s.due("MODE " + mode, s.x.node(3, 0, mode, 0), OUTSIDE);
        }
    }

    /** "a HANDLE, at the FILE's beginning, of APPEND behind its last byte": with 0, 1, 39, 40 bytes. */
    private static void firstPlaces() {
        for (int bytes : new int[] {NONE, 0, 1, 39, 40}) {
            for (int mode = 0; mode <= 3; mode++) {
                Scene s = new Scene("first PLACE, " + bytes + " bytes, MODE " + mode);
                if (bytes != NONE) {
                    s.x.there(0, true);
                    s.fill(0, bytes, 8);
                }
                int open = s.open(0, mode);
                int where = s.where(open);
                if (bytes == NONE && mode == Scene.READ) {
                    s.fails("ABSENT", where, Scene.ABSENT, open);
                    s.due("it is not there", s.x.size(0), NONE);
                    continue;
                }
                s.number("WHERE", where, mode == Scene.APPEND ? Math.max(0, bytes) : 0);
                s.due("its bytes", s.x.size(0), mode == Scene.WRITE ? 0 : Math.max(0, bytes));
            }
        }
    }

    /** "13 BUFFER of x (a) becomes b (0 to 9)". */
    private static void bufferSorts() {
        Scene s = new Scene("BUFFERS");
        int open = s.open(0, Scene.WRITE);
        for (int b = 0; b <= 9; b++) {
            s.number("BUFFER " + b, s.buffer(open, b), 0);
        }
        for (int b : new int[] {-1, 10, LEAST, MOST}) {
            s.due("BUFFER " + b, s.x.node(13, open, b, 0), OUTSIDE);
        }
    }

    /** So many bytes of this value are put, until one FAILS; nothing fits. */
    private static void flushAt(String what, int buffer, int v, int bytes) {
        Scene s = crowded(what, 0);
        int open = s.then(s.set(1, s.open(0, Scene.WRITE)), s.buffer(s.get(1), buffer));
        int put = s.put(s.get(1), s.num(v));
        s.number("one below", s.then(open, s.times(s.num(bytes - 1), put), s.where(s.get(1))), bytes - 1);
        s.handle("it waits", 0, 0, Scene.WRITE, Scene.OPEN, bytes - 1, 0, 0);
        s.fails("as many", s.then(open, s.times(s.num(bytes), put)), Scene.FULL, put);
        s.fails("more", s.then(open, s.times(s.num(bytes + 1), put)), Scene.FULL, put);
        s.handle("the FLUSH came", 0, 0, Scene.WRITE, Scene.OPEN, bytes, 0, 0);
    }

    /** The same, with room for one FLUSH: the BUFFER is empty behind it, and counts anew. */
    private static void flushAgainAt(String what, int buffer, int v, int bytes) {
        Scene s = crowded(what, bytes);
        int open = s.then(s.set(1, s.open(0, Scene.WRITE)), s.buffer(s.get(1), buffer));
        int put = s.put(s.get(1), s.num(v));
        s.number("one above", s.then(open, s.times(s.num(bytes + 1), put), s.where(s.get(1))), bytes + 1);
        s.handle("it waits, and does not fit", 0, 0, Scene.WRITE, Scene.OPEN, bytes + 1, 0, bytes);
        s.number("one below twice", s.then(open, s.times(s.num(2 * bytes - 1), put)), 0);
        s.fails("twice", s.then(open, s.times(s.num(2 * bytes + 1), put)), Scene.FULL, put);
        s.handle("the second FLUSH came", 0, 0, Scene.WRITE, Scene.OPEN, 2 * bytes, 0, bytes);
    }

    /** "LINE: if that byte is 10, or there are 20". */
    private static void lineOfTwenty() {
        for (int v : new int[] {0, 9, 11, 255, 10 << 8}) {
            flushAt("LINE of " + v, 1, v, 20);
        }
        flushAgainAt("LINE twice", 1, 65, 20);
    }

    private static void lineEnds() {
        for (int v : new int[] {10, 256 + 10, 10 - 256, LEAST + 10}) {
            flushAt("LINE, a byte of " + v, 1, v, 1);
        }
        Scene s = crowded("a line", 0);
        int open = s.then(s.set(1, s.open(0, Scene.WRITE)), s.buffer(s.get(1), 1));
        int put = s.put(s.get(1), s.num(65));
        int end = s.put(s.get(1), s.num(10));
        for (int before : new int[] {1, 18, 19}) {
            int line = s.then(open, s.times(s.num(before), put), end);
            s.fails(before + " ahead of its end", line, Scene.FULL, end);
            s.due("put", s.x.handle(0, 3), before + 1);
        }
        Scene t = new Scene("lines");
        int begin = t.then(t.set(1, t.open(0, Scene.WRITE)), t.buffer(t.get(1), 1));
        int letter = t.put(t.get(1), t.num(65));
        int stop = t.put(t.get(1), t.num(10));
        t.number("two lines and more", t.then(begin, letter, stop, stop, letter), 0);
        t.content("in order", 0, 65, 10, 10, 65);
    }

    /** "2 to 9 BLOCK of so many"; "BLOCK: if there are as many". */
    private static void blocks() {
        for (int block = 2; block <= 9; block++) {
            flushAt("BLOCK of " + block, block, 65, block);
            flushAt("BLOCK of line ends of " + block, block, 10, block);
            flushAgainAt("BLOCK twice of " + block, block, 65, block);
        }
    }

    /** "it is 0 NONE (at first)"; "NONE: at once". */
    private static void noBuffer() {
        flushAt("NONE", 0, 65, 1);
        Scene t = crowded("NONE, room for one", 1);
        int twice = t.put(t.set(1, t.open(0, Scene.WRITE)), t.num(65));
        int second = t.put(t.get(1), t.num(66));
        t.fails("the second", t.then(twice, second), Scene.FULL, second);
        t.handle("the first is laid", 0, 0, Scene.WRITE, Scene.OPEN, 2, 0, 1);
        Scene s = crowded("NONE at first", 0);
        int put = s.put(s.open(0, Scene.WRITE), s.num(65));
        s.fails("at once", put, Scene.FULL, put);
        int other = s.then(s.set(1, s.open(0, Scene.WRITE)), s.buffer(s.get(1), 9), s.close(s.get(1)));
        s.fails("of each HANDLE", s.then(other, put), Scene.FULL, put);
        s.number("a BUFFER in a run", s.buffer(s.open(0, Scene.WRITE), 9), 0);
        s.fails("is none in the next", put, Scene.FULL, put);
    }

    /** "9 LENGTH of LIST x: all of it asked for"; "where there is none, it ends, and the HANDLE is CLOSED". */
    private static void lengthsOfLists() {
        for (int bytes : new int[] {0, 1, 39, 40}) {
            Scene s = new Scene("LIST of " + bytes);
            s.x.there(0, true);
            s.fill(0, bytes, 8);
            int keep = s.set(1, s.lazy(s.open(0, Scene.READ)));
            s.number("LENGTH", s.then(keep, s.length(s.get(1))), bytes);
            s.handle("all is taken", 0, 0, Scene.READ, Scene.CLOSED, 0, bytes, 0);
            s.due("ORDER", s.x.told(6), bytes + 1);
            int last = s.item(s.get(1), s.num(Math.max(0, bytes - 1)));
            s.number("the last ITEM", s.then(keep, last), bytes == 0 ? -1 : 8);
            s.due("ends it only where there is none", s.x.handle(0, 2), bytes == 0 ? Scene.CLOSED : Scene.HALF);
            s.number("one behind", s.then(keep, s.item(s.get(1), s.num(bytes))), -1);
            s.handle("it ended", 0, 0, Scene.READ, Scene.CLOSED, 0, bytes, 0);
            s.due("ORDER", s.x.told(6), bytes + 1);
            s.number("LENGTH behind the last", s.then(keep, last, s.length(s.get(1))), bytes);
        }
    }

    /** "8 ITEM y (b) of LIST x (a): the number, -1 behind its end; ILLEGAL below 0". */
    private static void itemsOfLists() {
        Scene s = new Scene("ITEMS");
        s.lay(0, 11, 22, 33);
        int list = s.lazy(s.open(0, Scene.READ));
        int[] at = {0, 1, 2, 3, 4, 40, 41, MOST};
        int[] due = {11, 22, 33, -1, -1, -1, -1, -1};
        int[] taken = {1, 2, 3, 3, 3, 3, 3, 3};
        for (int i = 0; i < at.length; i++) {
            s.number("ITEM " + at[i], s.item(list, s.num(at[i])), due[i]);
            s.due("taken", s.x.handle(0, 4), taken[i]);
            s.due("state", s.x.handle(0, 2), due[i] < 0 ? Scene.CLOSED : Scene.HALF);
        }
        for (int below : new int[] {-1, -2, LEAST}) {
            int item = s.item(list, s.num(below));
            s.fails("ITEM " + below, item, Scene.ILLEGAL, item);
            s.handle("nothing is taken", 0, 0, Scene.READ, Scene.HALF, 0, 0, 0);
        }
    }

    /** "NODES, 60 at most, are told, numbered from 0 on". */
    private static void nodes() {
        Scene s = new Scene("60 NODES");
        for (int i = 0; i < 60; i++) {
            s.due("NODE " + i, s.x.node(0, i, 0, 0), i);
            s.due("NODES", s.x.told(0), i + 1);
        }
        s.due("the 61st", s.x.node(0, 60, 0, 0), ROOM);
        s.due("60 stay", s.x.told(0), 60);
        s.due("OUTSIDE is asked first", s.x.node(29, 0, 0, 0), OUTSIDE);
        s.due("OUTSIDE is asked first", s.x.node(4, 60, 0, 0), OUTSIDE);
        s.due("not of a NODE that is there", s.x.node(4, 59, 0, 0), ROOM);
        s.number("the 59th", 58, 58);
        s.number("the 60th", 59, 59);
        s.due("no 61st", s.x.run(60), OUTSIDE);
        s.due("clear", s.x.clear(), 60);
        s.due("none", s.x.run(0), OUTSIDE);
        s.due("anew", s.x.node(0, 7, 0, 0), 0);
        s.number("the first", 0, 7);
        s.due("no second", s.x.run(1), OUTSIDE);
        s.due("clear", s.x.clear(), 1);
    }

    /** "x, y, z are NODES of lesser numbers". */
    private static void lesserNumbers() {
        int[][] partsOf = {{2, 1}, {4, 0}, {5, 0, 1}, {6, 0}, {7, 0}, {8, 0, 1}, {9, 0}, {10, 0, 1}, {11, 0}, {12, 0},
            {13, 0}, {14, 0}, {17, 0}, {19, 0, 1}, {20, 0, 1, 2}, {21, 0, 1}, {22, 0, 1}, {23, 0, 1}, {25, 0},
            {26, 0, 1}, {27, 0, 1}, {28, 0, 1, 2}};
        for (int[] entry : partsOf) {
            Scene s = new Scene("parts of " + entry[0]);
            s.due("none is told", s.x.node(entry[0], 0, 0, 0), OUTSIDE);
            s.num(1);
            s.num(2);
            for (int i = 1; i < entry.length; i++) {
                int[] parts = {0, 0, 0};
                int told = s.x.told(0);
                for (int wrong : new int[] {-1, told, told + 1, LEAST, MOST}) {
                    parts[entry[i]] = wrong;
                    s.due("part " + wrong, s.x.node(entry[0], parts[0], parts[1], parts[2]), OUTSIDE);
                }
                parts[entry[i]] = told - 1;
                s.due("the one before", s.x.node(entry[0], parts[0], parts[1], parts[2]), told);
            }
        }
    }

    /** "1 GET VARIABLE a (0 to 5; the number 0 at first)". */
    private static void variables() {
        Scene s = new Scene("VARIABLES");
        for (int v = 0; v <= 5; v++) {
            s.number("at first", s.get(v), 0);
            s.number("SET", s.then(s.set(v, s.num(7 + v)), s.get(v)), 7 + v);
        }
        for (int v : new int[] {-1, 6, LEAST, MOST}) {
            s.due("GET " + v, s.x.node(1, v, 0, 0), OUTSIDE);
            s.due("SET " + v, s.x.node(2, v, 0, 0), OUTSIDE);
        }
        int sum = s.get(0);
        for (int v = 1; v <= 5; v++) {
            sum = s.plus(sum, s.get(v));
        }
        s.number("the others stay 0", s.then(s.set(3, s.num(5)), sum), 5);
    }

    /** "24 FAIL a (0 to 6)". */
    private static void kinds() {
        Scene s = new Scene("KINDS");
        for (int kind = 0; kind <= 6; kind++) {
            int fail = s.fail(kind);
            s.fails("FAIL " + kind, fail, kind, fail);
        }
        for (int kind : new int[] {-1, 7, LEAST, MOST}) {
            s.due("FAIL " + kind, s.x.node(24, kind, 0, 0), OUTSIDE);
        }
    }

    /** "26 CATCH x (a), KINDS c (bits 0 to 6)". */
    private static void kindsOfCatch() {
        Scene s = new Scene("KINDS of CATCH");
        int fail = s.fail(0);
        int last = s.fail(6);
        int kind = s.get(0);
        s.number("all, the first", s.catching(fail, kind, 127), 0);
        s.number("all, the last", s.catching(last, kind, 127), 6);
        s.fails("none, the first", s.catching(fail, kind, 0), 0, fail);
        s.fails("none, the last", s.catching(last, kind, 0), 6, last);
        s.number("bit 0", s.catching(fail, kind, 1), 0);
        s.number("bit 6", s.catching(last, kind, 64), 6);
        s.fails("all but bit 0", s.catching(fail, kind, 126), 0, fail);
        s.fails("all but bit 6", s.catching(last, kind, 63), 6, last);
        for (int c : new int[] {-1, 128, LEAST, MOST}) {
            s.due("KINDS " + c, s.x.node(26, fail, kind, c), OUTSIDE);
        }
    }

    /** "OUTSIDE: .. byte (0 to 255)". */
    private static void bytes() {
        Scene s = new Scene("bytes");
        s.due("lay 0", s.x.lay(0, 0), 1);
        s.due("lay 255", s.x.lay(0, 255), 2);
        s.due("input 0", s.x.input(0), 1);
        s.due("input 255", s.x.input(255), 2);
        for (int v : new int[] {-1, 256, LEAST, MOST}) {
            s.due("lay " + v, s.x.lay(0, v), OUTSIDE);
            s.due("input " + v, s.x.input(v), OUTSIDE);
        }
        s.content("laid", 0, 0, 255);
        int read = s.read();
        s.number("read", read, 0);
        s.number("read", read, 255);
        s.fails("read", read, Scene.END, read);
    }

    /** "PUT ..: the lowest 8 bits"; "PRINT y (a): its lowest 8 bits". */
    private static void lowestBits() {
        int[] numbers = {0, 1, 127, 128, 255, 256, 257, -1, -128, -129, -255, -256, -257, LEAST, MOST};
        int[] low = {0, 1, 127, 128, 255, 0, 1, 255, 128, 127, 1, 0, 255, 0, 255};
        Scene s = new Scene("the lowest 8 bits");
        for (int i = 0; i < numbers.length; i++) {
            int v = s.num(numbers[i]);
            s.number("PUT " + numbers[i], s.put(s.open(0, Scene.WRITE), v), 0);
            s.content("PUT " + numbers[i], 0, low[i]);
            s.number("PRINT " + numbers[i], s.print(v), i % 9 + 1);
            s.due("PRINT " + numbers[i], s.x.printed(i % 9), low[i]);
            if (i == 8) {
                s.x.clear();
            }
        }
    }

    /** "a number (int)": PLUS wraps around, LESS does not go astray at the ends. */
    private static void wrapAround() {
        Scene s = new Scene("wrap-around");
        int least = s.num(LEAST);
        int most = s.num(MOST);
        int one = s.num(1);
        int minus = s.num(-1);
        int zero = s.num(0);
        s.number("NUMBER", least, LEAST);
        s.number("NUMBER", most, MOST);
        s.number("up to the most", s.plus(s.num(MOST - 1), one), MOST);
        s.number("over the most", s.plus(most, one), LEAST);
        s.number("down to the least", s.plus(s.num(LEAST + 1), minus), LEAST);
        s.number("below the least", s.plus(least, minus), MOST);
        s.number("twice the most", s.plus(most, most), -2);
        s.number("twice the least", s.plus(least, least), 0);
        s.number("the least is LESS", s.less(least, most), 1);
        s.number("the most is not", s.less(most, least), 0);
        s.number("LESS than 0", s.less(least, zero), 1);
        s.number("LESS than 0", s.less(minus, zero), 1);
        s.number("not LESS than itself", s.less(zero, zero), 0);
        s.number("not LESS than itself", s.less(least, least), 0);
        s.number("not LESS", s.less(zero, minus), 0);
        s.number("LESS than the most", s.less(s.num(MOST - 1), most), 1);
        s.ends("EXIT", s.exit(least), Scene.EXITED, LEAST);
        s.number("IF of the least", s.iff(least, one, zero), 1);
        s.number("IF of -1", s.iff(minus, one, zero), 1);
        s.number("IF of 0", s.iff(zero, one, minus), -1);
    }

    /** "10 SEEK ..: ILLEGAL: APPEND, y below 0 or above the number of bytes". */
    private static void places() {
        for (int bytes : new int[] {0, 1, 39, 40}) {
            for (int mode : new int[] {Scene.READ, Scene.BOTH}) {
                Scene s = new Scene("SEEK in " + bytes + ", MODE " + mode);
                s.x.there(0, true);
                s.fill(0, bytes, 8);
                int open = s.set(1, s.open(0, mode));
                for (int y : new int[] {0, bytes / 2, bytes}) {
                    s.number("SEEK " + y, s.then(open, s.seek(s.get(1), s.num(y)), s.where(s.get(1))), y);
                }
                for (int y : new int[] {-1, bytes + 1, LEAST, MOST}) {
                    int seek = s.seek(s.get(1), s.num(y));
                    s.fails("SEEK " + y, s.then(open, seek), Scene.ILLEGAL, seek);
                }
                s.x.clear();
                int far = s.seek(s.get(1), s.num(bytes + 1));
                int stays = s.then(s.set(1, s.open(0, mode)), s.seek(s.get(1), s.num(bytes / 2)),
                    s.catching(far, s.where(s.get(1)), 16));
                s.number("the PLACE stays", stays, bytes / 2);
                int append = s.seek(s.open(0, Scene.APPEND), s.num(bytes));
                s.fails("APPEND", append, Scene.ILLEGAL, append);
            }
        }
    }

    /** "23 TIMES: x (a), a number; y (b) is worked so often". */
    private static void times() {
        Scene s = new Scene("TIMES");
        int next = s.set(1, s.plus(s.get(1), s.num(1)));
        int[] often = {LEAST, -2, -1, 0, 1, 2, 100};
        for (int n : often) {
            s.number("TIMES " + n, s.times(s.num(n), next), 0);
            s.number("rounds", s.then(s.times(s.num(n), next), s.get(1)), Math.max(0, n));
            s.due("worked", s.x.worked(), 4 + 4 * Math.max(0, n));
        }
        s.ends("TIMES the most", s.times(s.num(MOST), next), Scene.STOPPED, 0);
    }

    /** "THE ORDER: ..; 300 are kept"; "6 THE ORDER (those not kept, too)". */
    private static void order() {
        Scene s = new Scene("300 of THE ORDER");
        s.lay(0, 1, 2, 3, 4, 5, 6, 7);
        int print = s.print(s.num(1));
        int many = s.times(s.num(291), print);
        int list = s.set(1, s.lazy(s.open(0, Scene.READ)));
        int open = list - 2;
        int length = s.length(s.get(1));
        s.number("299", s.then(many, list, length), 7);
        s.due("told", s.x.told(6), 299);
        s.due("the 291st", s.x.order(290), print);
        s.due("the 292nd", s.x.order(291), open);
        s.due("the 299th", s.x.order(298), length);
        s.due("no 300th", s.x.order(299), NONE);
        int last = s.open(0, Scene.READ);
        s.ends("300", s.then(many, list, length, last), Scene.A_HANDLE, 1);
        s.due("told", s.x.told(6), 300);
        s.due("the 300th", s.x.order(299), last);
        s.due("no 301st", s.x.order(300), NONE);
        s.number("301", s.then(many, list, length, s.close(last)), 0);
        s.due("told", s.x.told(6), 301);
        s.due("the 300th", s.x.order(299), last);
        s.due("the 301st is not kept", s.x.order(300), NONE);
        s.due("the 1st stays", s.x.order(0), print);
        s.number("the next run", print, s.x.told(2) + 1);
        s.order("is anew", print);
    }

    /** "and 8 or 9 for each byte that they took from a FILE", over the limit within one NODE. */
    private static void orderOfBytes() {
        Scene s = new Scene("bytes over the 300th");
        s.fill(0, 40, 1);
        int print = s.print(s.num(1));
        int list = s.lazy(s.open(0, Scene.READ));
        int item = s.item(list, s.num(39));
        s.number("331", s.then(s.times(s.num(290), print), item), 1);
        s.due("told", s.x.told(6), 331);
        s.due("the 291st", s.x.order(290), list - 1);
        s.due("the 292nd", s.x.order(291), item);
        s.due("the 300th", s.x.order(299), item);
        s.due("not kept", s.x.order(300), NONE);
        s.due("not kept", s.x.order(330), NONE);
        s.due("taken all the same", s.x.handle(0, 4), 40);
    }
}
