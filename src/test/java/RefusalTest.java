/**
 * The refusals of each CODE, in the order in which they are asked, in every
 * state that can be had; what was refused has changed nothing.
 */
public final class RefusalTest {
    private static final int NONE = InputOutput.NONE;
    private static final int NO_REFUSAL = -1;

    /** Who holds a FILE: nobody, a HANDLE of MODE 0 to 3, one that is HALF. */
    private static final int NOBODY = -1, BY_HALF = 4;

    public static void main(String[] args) {
        opening();
        removing();
        renaming();
        renamingToItself();
        renamingEmptyAndFull();
        heldUntilTheLast();
        handleCodes();
        wantedSorts();
        anySort();
        inputEnds();
        takingEnds();
        failuresLeaveTheFirst();
        Check.finish();
    }

    private static boolean isWriter(int holder) {
        return holder == Scene.WRITE || holder == Scene.APPEND || holder == Scene.BOTH;
    }

    /** The PERMITS that a MODE needs. */
    private static int needed(int mode) {
        return new int[] {1, 2, 2, 3, 1}[mode];
    }

    private static boolean canHold(int holder, boolean there, int permits) {
        return holder == NOBODY
            || (permits & needed(holder)) == needed(holder) && (there || isWriter(holder));
    }

    private static int hold(Scene s, int file, int holder) {
        if (holder == NOBODY) {
            return s.num(0);
        }
        return holder == BY_HALF ? s.lazy(s.open(file, Scene.READ)) : s.open(file, holder);
    }

    /** "OPEN ..: The first of these: ABSENT .., DENIED .., BUSY .., FULL (20 HANDLES). WRITE makes it empty". */
    private static void opening() {
        for (int mode = 0; mode < 4; mode++) {
            for (int permits = 0; permits < 4; permits++) {
                for (int holder = NOBODY; holder <= BY_HALF; holder++) {
                    for (int way = 0; way < 4; way++) {
                        if (canHold(holder, way % 2 == 1, permits)) {
                            opening(mode, permits, holder, way % 2 == 1, way / 2 == 1);
                        }
                    }
                }
            }
        }
    }

    private static int refusalToOpen(int mode, int permits, int holder, boolean there, boolean full) {
        if (mode == Scene.READ && !there && !isWriter(holder)) {
            return Scene.ABSENT;
        }
        if ((permits & needed(mode)) != needed(mode)) {
            return Scene.DENIED;
        }
        if (mode == Scene.READ ? isWriter(holder) : holder != NOBODY) {
            return Scene.BUSY;
        }
        return full ? Scene.FULL : NO_REFUSAL;
    }

    private static void opening(int mode, int permits, int holder, boolean there, boolean full) {
        Scene s = new Scene("OPEN by " + mode + ", PERMITS " + permits + ", held by " + holder
            + (there ? ", there" : ", not there") + (full ? ", 20 HANDLES" : ""));
        s.x.permit(0, permits);
        if (there) {
            s.lay(0, 4, 5);
        }
        s.lay(1, 6);
        int held = holder == NOBODY ? 0 : 1;
        int others = full ? 20 - held : 2;
        int before = s.then(s.times(s.num(others), s.open(1, Scene.READ)), hold(s, 0, holder));
        int open = s.open(0, mode);
        int refusal = refusalToOpen(mode, permits, holder, there, full);
        int whole = s.then(before, open);
        if (refusal == NO_REFUSAL) {
            s.ends("OPEN", whole, Scene.A_HANDLE, others + held);
            s.handle("it", others + held, 0, mode, Scene.OPEN, 0, 0, 0);
        } else {
            s.fails("OPEN", whole, refusal, open);
        }
        int more = refusal == NO_REFUSAL ? 1 : 0;
        s.due("HANDLES", s.x.told(4), others + held + more);
        s.due("ORDER", s.x.told(6), others + held + more);
        boolean emptied = holder == Scene.WRITE || mode == Scene.WRITE && refusal == NO_REFUSAL;
        boolean made = isWriter(holder) || mode != Scene.READ && refusal == NO_REFUSAL;
        if (there && !emptied) {
            s.content("its bytes stay", 0, 4, 5);
        } else {
            s.due("size", s.x.size(0), there || made ? 0 : NONE);
        }
        s.due("bytes of all FILES", s.x.told(3), there && !emptied ? 3 : 1);
    }

    /** "15 REMOVE FILE a: ABSENT, DENIED (2), BUSY (it is HELD); then it is not there". */
    private static void removing() {
        for (int permits = 0; permits < 4; permits++) {
            for (int holder = NOBODY; holder <= BY_HALF; holder++) {
                for (int there = 0; there < 2; there++) {
                    if (canHold(holder, there == 1, permits)) {
                        removing(permits, holder, there == 1);
                    }
                }
            }
        }
    }

    private static int refusalToRemove(int permits, int holder, boolean there) {
        if (!there && !isWriter(holder)) {
            return Scene.ABSENT;
        }
        if ((permits & 2) == 0) {
            return Scene.DENIED;
        }
        return holder == NOBODY ? NO_REFUSAL : Scene.BUSY;
    }

    private static void removing(int permits, int holder, boolean there) {
        Scene s = new Scene("REMOVE, PERMITS " + permits + ", held by " + holder + (there ? ", there" : ", not there"));
        s.x.permit(0, permits);
        if (there) {
            s.lay(0, 4, 5);
        }
        int before = hold(s, 0, holder);
        int remove = s.remove(0);
        int refusal = refusalToRemove(permits, holder, there);
        int held = holder == NOBODY ? 0 : 1;
        if (refusal == NO_REFUSAL) {
            s.number("REMOVE", s.then(before, remove), 0);
            s.order("it is an act", remove);
            s.due("it is not there", s.x.size(0), NONE);
            s.due("no bytes", s.x.told(3), 0);
            s.due("it was not there", s.x.there(0, true), 0);
            s.due("empty", s.x.size(0), 0);
        } else {
            s.fails("REMOVE", s.then(before, remove), refusal, remove);
            s.due("no act", s.x.told(6), held);
            boolean stays = there && holder != Scene.WRITE;
            s.due("it stays", s.x.size(0), stays ? 2 : isWriter(holder) ? 0 : NONE);
            s.due("its bytes stay", s.x.content(0, 1), stays ? 5 : NONE);
        }
        s.due("PERMITS stay", s.x.permit(0, 3), permits);
    }

    /** "16 RENAME FILE a to b: ABSENT (a), DENIED (2 of a, then of b), BUSY (a, b is HELD); b is there with ..". */
    private static void renaming() {
        int[] holders = {NOBODY, Scene.READ, Scene.APPEND, BY_HALF};
        for (int permits = 0; permits < 16; permits++) {
            for (int first : holders) {
                for (int second : holders) {
                    for (int way = 0; way < 4; way++) {
                        boolean a = way % 2 == 1;
                        boolean b = way / 2 == 1;
                        if (canHold(first, a, permits % 4) && canHold(second, b, permits / 4)) {
                            renaming(permits, first, second, a, b);
                        }
                    }
                }
            }
        }
    }

    private static int refusalToRename(int permits, int first, int second, boolean a) {
        if (!a && !isWriter(first)) {
            return Scene.ABSENT;
        }
        if ((permits & 2) == 0 || (permits / 4 & 2) == 0) {
            return Scene.DENIED;
        }
        return first == NOBODY && second == NOBODY ? NO_REFUSAL : Scene.BUSY;
    }

    private static void renaming(int permits, int first, int second, boolean a, boolean b) {
        Scene s = new Scene("RENAME, PERMITS " + permits % 4 + " " + permits / 4 + ", held by " + first + " " + second
            + (a ? ", there" : ", not there") + (b ? ", there" : ", not there"));
        s.x.permit(0, permits % 4);
        s.x.permit(1, permits / 4);
        if (a) {
            s.lay(0, 4, 5);
        }
        if (b) {
            s.lay(1, 7, 8, 9);
        }
        int before = s.then(hold(s, 0, first), hold(s, 1, second));
        int rename = s.rename(0, 1);
        int refusal = refusalToRename(permits, first, second, a);
        if (refusal == NO_REFUSAL) {
            s.number("RENAME", s.then(before, rename), 0);
            s.order("it is an act", rename);
            s.content("b", 1, 4, 5);
            s.due("a", s.x.size(0), NONE);
            s.due("bytes of all FILES", s.x.told(3), 2);
        } else {
            s.fails("RENAME", s.then(before, rename), refusal, rename);
            s.due("no act", s.x.told(6), (first == NOBODY ? 0 : 1) + (second == NOBODY ? 0 : 1));
            s.due("a stays", s.x.size(0), a ? 2 : isWriter(first) ? 0 : NONE);
            s.due("b stays", s.x.size(1), b ? 3 : isWriter(second) ? 0 : NONE);
            s.due("a's byte", s.x.content(0, 0), a ? 4 : NONE);
            s.due("b's byte", s.x.content(1, 0), b ? 7 : NONE);
        }
        s.due("PERMITS of a stay", s.x.permit(0, 3), permits % 4);
        s.due("PERMITS of b stay", s.x.permit(1, 3), permits / 4);
    }

    /** "(a is b, once this was asked: nothing)"; "(not 16 with a being b)". */
    private static void renamingToItself() {
        for (int permits = 0; permits < 4; permits++) {
            for (int holder = NOBODY; holder <= BY_HALF; holder++) {
                for (int there = 0; there < 2; there++) {
                    if (!canHold(holder, there == 1, permits)) {
                        continue;
                    }
                    Scene s = new Scene("RENAME to itself, PERMITS " + permits + ", held by " + holder + ", " + there);
                    s.x.permit(7, permits);
                    if (there == 1) {
                        s.lay(7, 4, 5);
                    }
                    int before = hold(s, 7, holder);
                    int rename = s.rename(7, 7);
                    int refusal = refusalToRemove(permits, holder, there == 1);
                    if (refusal == NO_REFUSAL) {
                        s.number("RENAME", s.then(before, rename), 0);
                        s.content("it stays", 7, 4, 5);
                    } else {
                        s.fails("RENAME", s.then(before, rename), refusal, rename);
                        s.due("it stays", s.x.size(7), there == 1 && holder != Scene.WRITE ? 2
                            : isWriter(holder) ? 0 : NONE);
                    }
                    s.due("no act", s.x.told(6), holder == NOBODY ? 0 : 1);
                }
            }
        }
    }

    /** "b is there with the bytes of a, a is not": 0, 1, 39 and 40 of them, over as many, on a full disk. */
    private static void renamingEmptyAndFull() {
        for (int from : new int[] {0, 1, 39, 40}) {
            for (int to : new int[] {NONE, 0, 1, 39, 40}) {
                Scene s = new Scene("RENAME of " + from + " over " + to);
                s.x.there(0, true);
                s.fill(0, from, 4);
                if (to != NONE) {
                    s.x.there(1, true);
                    s.fill(1, to, 5);
                }
                int others = 120 - from - Math.max(0, to);
                for (int i = 0; i < others; i++) {
                    s.lay(2 + i / 40, 6);
                }
                s.number("RENAME", s.rename(0, 1), 0);
                s.due("a", s.x.size(0), NONE);
                s.due("a's bytes", s.x.content(0, 0), NONE);
                s.due("b", s.x.size(1), from);
                s.due("b's first byte", s.x.content(1, 0), from > 0 ? 4 : NONE);
                s.due("b's last byte", s.x.content(1, from - 1), from > 0 ? 4 : NONE);
                s.due("none behind", s.x.content(1, from), NONE);
                s.due("bytes of all FILES", s.x.told(3), 120 - Math.max(0, to));
                s.due("a new a", s.x.lay(0, 7), to > 0 ? 1 : InputOutput.ROOM);
                s.due("has no old bytes", s.x.content(0, 1), NONE);
            }
        }
    }

    /** "A FILE is HELD by its HANDLES that are OPEN or HALF": until the last one is CLOSED. */
    private static void heldUntilTheLast() {
        Scene s = new Scene("held until the last");
        s.lay(0, 4);
        int first = s.set(1, s.open(0, Scene.READ));
        int second = s.set(2, s.open(0, Scene.READ));
        int both = s.then(first, second);
        int closeFirst = s.close(s.get(1));
        int closeSecond = s.close(s.get(2));
        int half = s.lazy(s.get(2));
        int[] nodes = {s.open(0, Scene.WRITE), s.open(0, Scene.APPEND), s.open(0, Scene.BOTH), s.rename(0, 3), s.remove(0)};
        for (int node : nodes) {
            s.fails("the second holds it", s.then(both, closeFirst, node), Scene.BUSY, node);
            s.fails("the first holds it", s.then(both, closeSecond, node), Scene.BUSY, node);
            s.fails("HALF holds it", s.then(both, half, closeFirst, node), Scene.BUSY, node);
        }
        s.content("it stays", 0, 4);
        s.x.clear();
        int open = s.set(1, s.open(0, Scene.READ));
        int closed = s.then(open, s.close(s.get(1)), open, s.close(s.get(1)));
        s.number("none holds it", s.then(closed, s.remove(0)), 0);
        s.due("it is not there", s.x.size(0), NONE);
        int absent = s.open(0, Scene.READ);
        s.fails("then it is ABSENT", s.then(s.close(s.open(0, Scene.WRITE)), s.remove(0), absent), Scene.ABSENT, absent);
    }

    /** "4 to 7 and 10 to 14 want a HANDLE; but for 4, one that is not OPEN: ILLEGAL, once all parts are worked". */
    private static void handleCodes() {
        for (int code : new int[] {4, 5, 6, 7, 10, 11, 12, 13, 14}) {
            for (int mode = 0; mode < 4; mode++) {
                for (int state = Scene.OPEN; state <= Scene.CLOSED; state++) {
                    if (state != Scene.HALF || mode == Scene.READ) {
                        handleCode(code, mode, state);
                    }
                }
            }
        }
    }

    private static boolean isIllegal(int code, int mode, int state) {
        if (code == 4) {
            return false;
        }
        return state != Scene.OPEN
            || code == 5 && mode == Scene.READ
            || code == 6 && (mode == Scene.WRITE || mode == Scene.APPEND)
            || code == 7 && mode != Scene.READ
            || code == 10 && mode == Scene.APPEND;
    }

    private static int valueOf(int code, int mode) {
        int size = mode == Scene.WRITE ? 0 : 2;
        return switch (code) {
            case 6 -> 40;
            case 11 -> mode == Scene.APPEND ? 2 : 0;
            case 12 -> size;
            default -> 0;
        };
    }

    private static void handleCode(int code, int mode, int state) {
        Scene s = new Scene("CODE " + code + " of MODE " + mode + " in state " + state);
        s.lay(0, 40, 50);
        int open = s.set(1, s.open(0, mode));
        int h = s.get(1);
        int change = state == Scene.OPEN ? s.num(0) : state == Scene.HALF ? s.lazy(h) : s.close(h);
        int before = s.then(open, change);
        int acts = state == Scene.CLOSED ? 2 : 1;
        int y = s.then(s.print(s.num(1)), s.num(0));
        boolean hasY = code == 5 || code == 10;
        int node = s.x.node(code, h, hasY ? y : 3, 0);
        int whole = s.then(before, node);
        boolean notOpen = state != Scene.OPEN;
        if (isIllegal(code, mode, state)) {
            s.fails("refused", whole, Scene.ILLEGAL, node);
            s.handle("nothing changed", 0, 0, mode, state, 0, 0, 0);
            s.due("no act", s.x.told(6), acts + (hasY ? 1 : 0));
            s.due("no LIST", s.x.told(5), state == Scene.HALF ? 1 : 0);
            int where = s.then(before, s.catching(node, s.where(h), 16));
            if (!notOpen) {
                s.number("its PLACE stays", where, mode == Scene.APPEND ? 2 : 0);
            }
        } else {
            s.ends("taken", whole, code == 7 ? Scene.A_LIST : Scene.A_NUMBER, notOpen ? 0 : valueOf(code, mode));
            boolean quiet = code == 7 || code == 11 || code == 12 || code == 4 && state == Scene.CLOSED;
            s.due("an act", s.x.told(6), acts + (hasY ? 1 : 0) + (quiet ? 0 : 1));
            s.due("its state", s.x.handle(0, 2), code == 4 ? Scene.CLOSED : code == 7 ? Scene.HALF : state);
        }
        s.due("all parts were worked", s.x.told(2) > 0 ? 1 : 0, hasY ? 1 : 0);
        if (mode != Scene.WRITE && code != 5) {
            s.content("the FILE", 0, 40, 50);
        }
    }

    /** For each CODE the sorts that a and b must have. */
    private static final int[][] WANTED = {
        {4, Scene.A_HANDLE}, {5, Scene.A_HANDLE, Scene.A_NUMBER}, {6, Scene.A_HANDLE}, {7, Scene.A_HANDLE},
        {8, Scene.A_LIST, Scene.A_NUMBER}, {9, Scene.A_LIST}, {10, Scene.A_HANDLE, Scene.A_NUMBER},
        {11, Scene.A_HANDLE}, {12, Scene.A_HANDLE}, {13, Scene.A_HANDLE}, {14, Scene.A_HANDLE},
        {17, Scene.A_NUMBER}, {20, Scene.A_NUMBER}, {21, Scene.A_NUMBER, Scene.A_NUMBER},
        {22, Scene.A_NUMBER, Scene.A_NUMBER}, {23, Scene.A_NUMBER}, {25, Scene.A_NUMBER}};

    private static int ofSort(Scene s, int sort) {
        if (sort == Scene.A_NUMBER) {
            return s.num(0);
        }
        return sort == Scene.A_HANDLE ? s.open(1, Scene.READ) : s.lazy(s.open(1, Scene.READ));
    }

    /** "what is not of the wanted sort: ILLEGAL, as soon as it was worked". */
    private static void wantedSorts() {
        for (int[] entry : WANTED) {
            for (int part = 1; part < entry.length; part++) {
                for (int sort = Scene.A_NUMBER; sort <= Scene.A_LIST; sort++) {
                    if (sort != entry[part]) {
                        wrongSort(entry, part, sort);
                    }
                }
            }
        }
    }

    private static void wrongSort(int[] entry, int part, int sort) {
        Scene s = new Scene("CODE " + entry[0] + ", part " + part + " of sort " + sort);
        s.lay(1, 6, 6);
        int good = ofSort(s, entry[1]);
        int bad = ofSort(s, sort);
        int mark = s.print(s.num(1));
        int behind = s.then(mark, s.num(0));
        int a = part == 1 ? bad : good;
        int b = part == 1 ? behind : bad;
        int c = behind;
        if (entry[0] == 13) {
            b = 2;
        }
        int node = s.x.node(entry[0], a, b, c);
        s.fails("refused", node, Scene.ILLEGAL, node);
        s.due("nothing behind it is worked", s.x.told(2), 0);
        s.number("it is caught as ILLEGAL", s.catching(node, s.get(0), 16), Scene.ILLEGAL);
        s.fails("and by no other", s.catching(node, s.get(0), 127 - 16), Scene.ILLEGAL, node);
    }

    /** The parts of these are of any sort, which comes through where it is their VALUE. */
    private static void anySort() {
        int[][] through = {{2, 1}, {19, 1}, {20, 1}, {26, 0}, {27, 0}, {28, 2}};
        int[][] worked = {{19, 0}, {23, 1}, {27, 1}, {28, 0}, {28, 1}};
        for (int sort = Scene.A_NUMBER; sort <= Scene.A_LIST; sort++) {
            for (int[] entry : through) {
                anySort(entry[0], entry[1], sort, sort);
            }
            for (int[] entry : worked) {
                anySort(entry[0], entry[1], sort, Scene.A_NUMBER);
            }
        }
    }

    private static void anySort(int code, int part, int sort, int due) {
        Scene s = new Scene("CODE " + code + ", part " + part + " of any sort " + sort);
        s.lay(1, 6, 6);
        int some = ofSort(s, sort);
        int one = s.num(1);
        int[] parts = {code == 2 ? 3 : one, one, one};
        parts[part] = some;
        int node = s.x.node(code, parts[0], parts[1], parts[2]);
        s.due("run", s.x.run(node), due);
        s.due("where", s.x.where(), NONE);
        s.due("HANDLES", s.x.told(4), sort == Scene.A_NUMBER ? 0 : 1);
        s.due("LISTS", s.x.told(5), sort == Scene.A_LIST ? 1 : 0);
    }

    /** "18 READ a byte of THE INPUT, which goes on: END". */
    private static void inputEnds() {
        Scene s = new Scene("READ");
        int read = s.read();
        s.fails("of none", read, Scene.END, read);
        s.order("no act");
        s.x.input(8);
        s.x.input(9);
        s.number("the first", read, 8);
        s.number("the last", read, 9);
        s.order("an act", read);
        s.fails("behind it", read, Scene.END, read);
        s.x.input(10);
        s.number("one more has come", read, 10);
        s.number("caught", s.catching(read, s.get(0), 8), Scene.END);
        s.fails("in a run", s.times(s.num(3), read), Scene.END, read);
    }

    /** "6 TAKE the next byte of x (a): .. END, if there is none". */
    private static void takingEnds() {
        for (int mode : new int[] {Scene.READ, Scene.BOTH}) {
            for (int bytes : new int[] {0, 1, 39, 40}) {
                Scene s = new Scene("TAKE of " + bytes + ", MODE " + mode);
                s.x.there(0, true);
                s.fill(0, bytes, 8);
                int open = s.set(1, s.open(0, mode));
                int take = s.take(s.get(1));
                s.number("all", s.then(open, s.times(s.num(bytes), take)), 0);
                s.handle("taken", 0, 0, mode, Scene.OPEN, 0, bytes, 0);
                s.fails("one more", s.then(open, s.times(s.num(bytes + 1), take)), Scene.END, take);
                s.handle("not taken", 0, 0, mode, Scene.OPEN, 0, bytes, 0);
                s.due("no act", s.x.told(6), bytes + 1);
                int again = s.catching(s.times(s.num(bytes + 1), take), s.where(s.get(1)), 8);
                s.number("the PLACE stays", s.then(open, again), bytes);
            }
        }
    }

    /** A failure that was caught leaves no trace in where, and what is told of HANDLES stays. */
    private static void failuresLeaveTheFirst() {
        Scene s = new Scene("caught ones");
        int absent = s.open(0, Scene.READ);
        int caught = s.catching(absent, s.num(5), 1 << Scene.ABSENT);
        s.number("a VALUE", caught, 5);
        s.due("where", s.x.where(), NONE);
        s.due("HANDLES", s.x.told(4), 0);
        s.ends("a HANDLE then", s.then(caught, s.open(0, Scene.WRITE)), Scene.A_HANDLE, 0);
        s.order("only what did something", s.x.told(0) - 2);
    }
}
