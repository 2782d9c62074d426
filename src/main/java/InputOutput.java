import java.util.Arrays;

/**
 * A small world of files, input and output, and runs of nodes that act on it.
 * The words in capitals are those of the document.
 */
public final class InputOutput {
    public static final int NONE = -1, OUTSIDE = -2, ROOM = -3;

    private static final int BYTES = 256, FILES = 8, FILE_ROOM = 40, DISK_ROOM = 120;
    private static final int INPUT_ROOM = 100, OUTPUT_KEPT = 200, ORDER_KEPT = 300;
    private static final int MAX_NODES = 60, MAX_HANDLES = 20, MAX_WORKED = 600;
    private static final int VARIABLES = 6, CAUGHT_VARIABLE = 0, BRACKET_VARIABLE = 5;

    private static final int MAY_READ = 1, MAY_WRITE = 2, PERMIT_SETS = 4;

    private static final int READ_MODE = 0, WRITE_MODE = 1, APPEND_MODE = 2, MODES = 4;
    private static final int IS_OPEN = 0, IS_HALF = 1, IS_CLOSED = 2;
    private static final int NO_BUFFER = 0, LINE_BUFFER = 1, BUFFERS = 10;
    private static final int LINE_END = 10, LINE_ROOM = 20;

    private static final int BUSY = 0, ABSENT = 1, DENIED = 2, END = 3, ILLEGAL = 4, FULL = 5;
    private static final int KINDS = 7, KIND_SETS = 128;

    /** What working a NODE came to; run answers with these. */
    private static final int A_NUMBER = 0, A_HANDLE = 1, A_LIST = 2, FAILED = 3, EXITED = 4, STOPPED = 5;

    private static final int NUMBER = 0, GET = 1, SET = 2, OPEN = 3, CLOSE = 4, PUT = 5, TAKE = 6,
            LAZY = 7, ITEM = 8, LENGTH = 9, SEEK = 10, WHERE = 11, SIZE = 12, BUFFER = 13, FLUSH = 14,
            REMOVE = 15, RENAME = 16, PRINT = 17, READ = 18, THEN = 19, IF = 20, LESS = 21, PLUS = 22,
            TIMES = 23, FAIL = 24, EXIT = 25, CATCH = 26, FINALLY = 27, BRACKET = 28, CODES = 29;

    private static final int DONE = 0;

    private final Disk disk;
    private final Console console;
    private final Script script;
    private final Handles handles;
    private final Lists lists;
    private final Journal journal;
    private final Worker worker;

    public InputOutput() {
        disk = new Disk();
        console = new Console();
        script = new Script();
        handles = new Handles(disk);
        lists = new Lists();
        journal = new Journal();
        worker = new Worker(script, console, handles, lists, journal);
    }

    public int lay(int file, int v) {
        if (!within(file, FILES) || !within(v, BYTES)) {
            return OUTSIDE;
        }
        return disk.append(file, v) ? disk.lengthOf(file) : ROOM;
    }

    public int there(int file, boolean is) {
        if (!within(file, FILES)) {
            return OUTSIDE;
        }
        int before = disk.isThere(file) ? 1 : 0;
        if (is) {
            disk.create(file);
        } else {
            disk.remove(file);
        }
        return before;
    }

    public int permit(int file, int bits) {
        if (!within(file, FILES) || !within(bits, PERMIT_SETS)) {
            return OUTSIDE;
        }
        return disk.changePermits(file, bits);
    }

    public int input(int v) {
        if (!within(v, BYTES)) {
            return OUTSIDE;
        }
        return console.supply(v) ? console.left() : ROOM;
    }

    public int node(int code, int a, int b, int c) {
        if (!within(code, CODES) || !script.allows(code, a, b, c)) {
            return OUTSIDE;
        }
        return script.add(code, a, b, c);
    }

    public int clear() {
        int before = script.length();
        script.forget();
        console.forget();
        return before;
    }

    public int run(int node) {
        if (!within(node, script.length())) {
            return OUTSIDE;
        }
        return worker.perform(node);
    }

    public int value() {
        return worker.outcome();
    }

    public int where() {
        return worker.failedNode();
    }

    public int worked() {
        return worker.steps();
    }

    public int order(int i) {
        return journal.entry(i);
    }

    public int handle(int h, int what) {
        if (!within(what, Handle.FACTS)) {
            return OUTSIDE;
        }
        Handle chosen = handles.pick(h);
        return chosen == null ? NONE : chosen.fact(what);
    }

    public int content(int file, int i) {
        return within(file, FILES) ? disk.byteAt(file, i) : OUTSIDE;
    }

    public int size(int file) {
        if (!within(file, FILES)) {
            return OUTSIDE;
        }
        return disk.isThere(file) ? disk.lengthOf(file) : NONE;
    }

    public int printed(int i) {
        return console.printedByte(i);
    }

    public int told(int what) {
        switch (what) {
            case 0:
                return script.length();
            case 1:
                return console.left();
            case 2:
                return console.printedCount();
            case 3:
                return disk.used();
            case 4:
                return handles.count();
            case 5:
                return lists.count();
            case 6:
                return journal.count();
            default:
                return OUTSIDE;
        }
    }

    private static boolean within(int n, int bound) {
        return n >= 0 && n < bound;
    }

    private static boolean mayTake(int mode) {
        return mode != WRITE_MODE && mode != APPEND_MODE;
    }

    /**
     * Doings answer with a VALUE, none of which is below 0, or with a KIND that
     * is turned below 0 by this; turning it again gives the KIND back.
     */
    private static int turned(int kind) {
        return -1 - kind;
    }

    /** The FILES and the room that they share. */
    private static final class Disk {
        private final boolean[] present = new boolean[FILES];
        private final int[] permits = new int[FILES];
        private final int[] lengths = new int[FILES];
        private final int[][] bytes = new int[FILES][FILE_ROOM];
        private int used = 0;

        Disk() {
            Arrays.fill(permits, MAY_READ | MAY_WRITE);
        }

        boolean isThere(int file) {
            return present[file];
        }

        int lengthOf(int file) {
            return lengths[file];
        }

        int used() {
            return used;
        }

        boolean grants(int file, int permit) {
            return (permits[file] & permit) != 0;
        }

        int changePermits(int file, int bits) {
            int before = permits[file];
            permits[file] = bits;
            return before;
        }

        /** The byte or NONE; a FILE that is not there has no bytes, so its length alone decides. */
        int byteAt(int file, int i) {
            return i >= 0 && i < lengths[file] ? bytes[file][i] : NONE;
        }

        void create(int file) {
            present[file] = true;
        }

        void makeEmpty(int file) {
            used -= lengths[file];
            lengths[file] = 0;
        }

        void remove(int file) {
            makeEmpty(file);
            present[file] = false;
        }

        /** False, and nothing changes, where there is no room. */
        boolean append(int file, int v) {
            int length = lengths[file];
            if (length >= FILE_ROOM || used >= DISK_ROOM) {
                return false;
            }
            bytes[file][length] = v;
            lengths[file] = length + 1;
            used++;
            present[file] = true;
            return true;
        }

        /** In place of the byte there, which takes no room, or behind the last one. */
        boolean write(int file, int place, int v) {
            if (!within(place, lengths[file])) {
                return append(file, v);
            }
            bytes[file][place] = v;
            return true;
        }

        void move(int from, int to) {
            used -= lengths[to];
            System.arraycopy(bytes[from], 0, bytes[to], 0, lengths[from]);
            lengths[to] = lengths[from];
            present[to] = true;
            lengths[from] = 0;
            present[from] = false;
        }
    }

    /** THE INPUT and THE OUTPUT. */
    private static final class Console {
        private final int[] incoming = new int[INPUT_ROOM];
        private final int[] kept = new int[OUTPUT_KEPT];
        private int come = 0;
        private int gone = 0;
        private int shown = 0;

        void forget() {
            come = 0;
            gone = 0;
            shown = 0;
        }

        /** Bytes that were read give no room back: what has come counts. */
        boolean supply(int v) {
            if (come >= INPUT_ROOM) {
                return false;
            }
            incoming[come] = v;
            come++;
            return true;
        }

        int left() {
            return come - gone;
        }

        int readByte() {
            if (gone >= come) {
                return turned(END);
            }
            int v = incoming[gone];
            gone++;
            return v;
        }

        int print(int v) {
            if (shown < OUTPUT_KEPT) {
                kept[shown] = v & (BYTES - 1);
            }
            shown++;
            return shown;
        }

        int printedCount() {
            return shown;
        }

        int printedByte(int i) {
            return within(i, Math.min(shown, OUTPUT_KEPT)) ? kept[i] : NONE;
        }
    }

    /** The NODES that were told. */
    private static final class Script {
        /** Marks among the bounds below, which else say that a part is 0 or more and less than they. */
        private static final int ANY = -1, LESSER = 0;

        private static final int[] FIRST_BOUNDS = {
            ANY, VARIABLES, VARIABLES, FILES, LESSER, LESSER, LESSER, LESSER, LESSER, LESSER,
            LESSER, LESSER, LESSER, LESSER, LESSER, FILES, FILES, LESSER, ANY, LESSER,
            LESSER, LESSER, LESSER, LESSER, KINDS, LESSER, LESSER, LESSER, LESSER};

        private static final int[] SECOND_BOUNDS = {
            ANY, ANY, LESSER, MODES, ANY, LESSER, ANY, ANY, LESSER, ANY,
            LESSER, ANY, ANY, BUFFERS, ANY, ANY, FILES, ANY, ANY, LESSER,
            LESSER, LESSER, LESSER, LESSER, ANY, ANY, LESSER, LESSER, LESSER};

        private static final int[] THIRD_BOUNDS = {
            ANY, ANY, ANY, ANY, ANY, ANY, ANY, ANY, ANY, ANY,
            ANY, ANY, ANY, ANY, ANY, ANY, ANY, ANY, ANY, ANY,
            LESSER, ANY, ANY, ANY, ANY, ANY, KIND_SETS, ANY, LESSER};

        private final int[] codes = new int[MAX_NODES];
        private final int[] firsts = new int[MAX_NODES];
        private final int[] seconds = new int[MAX_NODES];
        private final int[] thirds = new int[MAX_NODES];
        private int length = 0;

        int length() {
            return length;
        }

        void forget() {
            length = 0;
        }

        boolean allows(int code, int a, int b, int c) {
            return fits(a, FIRST_BOUNDS[code]) && fits(b, SECOND_BOUNDS[code]) && fits(c, THIRD_BOUNDS[code]);
        }

        private boolean fits(int part, int bound) {
            return bound == ANY || within(part, bound == LESSER ? length : bound);
        }

        int add(int code, int a, int b, int c) {
            if (length >= MAX_NODES) {
                return ROOM;
            }
            codes[length] = code;
            firsts[length] = a;
            seconds[length] = b;
            thirds[length] = c;
            length++;
            return length - 1;
        }

        int code(int node) {
            return codes[node];
        }

        int first(int node) {
            return firsts[node];
        }

        int second(int node) {
            return seconds[node];
        }

        int third(int node) {
            return thirds[node];
        }
    }

    /**
     * One HANDLE with its BUFFER; it is used again by later runs. What it does
     * answers as turned tells.
     */
    private static final class Handle {
        static final int FACTS = 6;

        private final Disk disk;
        private final int[] buffer = new int[LINE_ROOM];
        private int waiting = 0;
        private int buffering = NO_BUFFER;
        private int file = 0;
        private int mode = READ_MODE;
        private int place = 0;
        private int state = IS_CLOSED;
        private int given = 0;
        private int taken = 0;
        private int laid = 0;

        Handle(Disk disk) {
            this.disk = disk;
        }

        void begin(int newFile, int newMode) {
            file = newFile;
            mode = newMode;
            place = newMode == APPEND_MODE ? disk.lengthOf(newFile) : 0;
            state = IS_OPEN;
            buffering = NO_BUFFER;
            waiting = 0;
            given = 0;
            taken = 0;
            laid = 0;
        }

        boolean isOpen() {
            return state == IS_OPEN;
        }

        boolean isHalf() {
            return state == IS_HALF;
        }

        boolean isClosed() {
            return state == IS_CLOSED;
        }

        boolean writes() {
            return mode != READ_MODE;
        }

        boolean holds(int wanted) {
            return state != IS_CLOSED && file == wanted;
        }

        /** From now on a LIST reads it; false where that may not be. */
        boolean becomeHalf() {
            if (state != IS_OPEN || mode != READ_MODE) {
                return false;
            }
            state = IS_HALF;
            return true;
        }

        void endReading() {
            state = IS_CLOSED;
        }

        int close() {
            int answer = state == IS_OPEN ? flush() : DONE;
            state = IS_CLOSED;
            return answer;
        }

        int put(int v) {
            if (state != IS_OPEN || !writes() || waiting >= LINE_ROOM) {
                return turned(ILLEGAL);
            }
            int low = v & (BYTES - 1);
            buffer[waiting] = low;
            waiting++;
            given++;
            return isDue(low) ? flush() : DONE;
        }

        private boolean isDue(int latest) {
            if (buffering == LINE_BUFFER) {
                return latest == LINE_END || waiting >= LINE_ROOM;
            }
            return buffering == NO_BUFFER || waiting >= buffering;
        }

        int flush() {
            if (state != IS_OPEN) {
                return turned(ILLEGAL);
            }
            int done = 0;
            while (done < waiting && disk.write(file, place, buffer[done])) {
                done++;
                place++;
            }
            int answer = done == waiting ? DONE : turned(FULL);
            laid += done;
            waiting = 0;
            return answer;
        }

        int take() {
            if (!mayTake(mode)) {
                return turned(ILLEGAL);
            }
            int answer = flush();
            if (answer != DONE) {
                return answer;
            }
            int v = nextByte();
            return v == NONE ? turned(END) : v;
        }

        /** The next byte of the FILE, or NONE. */
        int nextByte() {
            int v = disk.byteAt(file, place);
            if (v != NONE) {
                place++;
                taken++;
            }
            return v;
        }

        /** APPEND is refused behind the FLUSH, too: the document tells it together with the wrong places. */
        int seek(int wanted) {
            int answer = flush();
            if (answer != DONE) {
                return answer;
            }
            if (mode == APPEND_MODE || wanted < 0 || wanted > disk.lengthOf(file)) {
                return turned(ILLEGAL);
            }
            place = wanted;
            return DONE;
        }

        int tellPlace() {
            return state == IS_OPEN ? place + waiting : turned(ILLEGAL);
        }

        int measure() {
            int answer = flush();
            return answer == DONE ? disk.lengthOf(file) : answer;
        }

        int changeBuffer(int wanted) {
            int answer = flush();
            if (answer == DONE) {
                buffering = wanted;
            }
            return answer;
        }

        int fact(int what) {
            switch (what) {
                case 0:
                    return file;
                case 1:
                    return mode;
                case 2:
                    return state;
                case 3:
                    return given;
                case 4:
                    return taken;
                default:
                    return laid;
            }
        }
    }

    /** The HANDLES of the latest run, and what may be done with FILES as long as they hold them. */
    private static final class Handles {
        private final Disk disk;
        private final Handle[] all = new Handle[MAX_HANDLES];
        private int count = 0;

        Handles(Disk disk) {
            this.disk = disk;
            for (int i = 0; i < MAX_HANDLES; i++) {
                all[i] = new Handle(disk);
            }
        }

        int count() {
            return count;
        }

        void forget() {
            count = 0;
        }

        Handle pick(int h) {
            return within(h, count) ? all[h] : null;
        }

        int open(int file, int mode) {
            int refusal = refusalToOpen(file, mode);
            if (refusal != DONE) {
                return refusal;
            }
            disk.create(file);
            if (mode == WRITE_MODE) {
                disk.makeEmpty(file);
            }
            all[count].begin(file, mode);
            count++;
            return count - 1;
        }

        private int refusalToOpen(int file, int mode) {
            boolean writes = mode != READ_MODE;
            if (!writes && !disk.isThere(file)) {
                return turned(ABSENT);
            }
            if (mayTake(mode) && !disk.grants(file, MAY_READ) || writes && !disk.grants(file, MAY_WRITE)) {
                return turned(DENIED);
            }
            if (isHeld(file, !writes)) {
                return turned(BUSY);
            }
            return count >= MAX_HANDLES ? turned(FULL) : DONE;
        }

        private boolean isHeld(int file, boolean byWriterOnly) {
            for (int i = 0; i < count; i++) {
                if (all[i].holds(file) && (all[i].writes() || !byWriterOnly)) {
                    return true;
                }
            }
            return false;
        }

        int removeFile(int file) {
            int refusal = refusalToMove(file, file);
            if (refusal == DONE) {
                disk.remove(file);
            }
            return refusal;
        }

        int renameFile(int from, int to) {
            int refusal = refusalToMove(from, to);
            if (refusal == DONE && from != to) {
                disk.move(from, to);
            }
            return refusal;
        }

        private int refusalToMove(int from, int to) {
            if (!disk.isThere(from)) {
                return turned(ABSENT);
            }
            if (!disk.grants(from, MAY_WRITE) || !disk.grants(to, MAY_WRITE)) {
                return turned(DENIED);
            }
            return isHeld(from, false) || isHeld(to, false) ? turned(BUSY) : DONE;
        }

        /** The states stay, since handle() tells how they were ahead of this closing. */
        void closeBehindRun() {
            for (int i = 0; i < count; i++) {
                if (all[i].isOpen()) {
                    all[i].flush();
                }
            }
        }
    }

    /** One LIST: the items that its HANDLE has read so far. */
    private static final class LazyList {
        private final int[] items = new int[FILE_ROOM];
        private Handle source = null;
        private int length = 0;

        void begin(Handle h) {
            source = h;
            length = 0;
        }

        int length() {
            return length;
        }

        int item(int i) {
            return within(i, length) ? items[i] : NONE;
        }

        /** Asks for items up to this one, which none has at FILE_ROOM: how many bytes that took. */
        int reach(int i) {
            int before = length;
            int last = Math.min(i, FILE_ROOM);
            boolean more = true;
            for (int next = before; more && next <= last; next++) {
                more = grow();
            }
            return length - before;
        }

        /** Takes one byte more; false where the LIST ends. */
        private boolean grow() {
            if (source == null || !source.isHalf()) {
                return false;
            }
            int v = source.nextByte();
            if (v == NONE || length >= FILE_ROOM) {
                source.endReading();
                return false;
            }
            items[length] = v;
            length++;
            return true;
        }
    }

    /** The LISTS of the latest run: one for each HANDLE at most. */
    private static final class Lists {
        private final LazyList[] all = new LazyList[MAX_HANDLES];
        private int count = 0;

        Lists() {
            for (int i = 0; i < MAX_HANDLES; i++) {
                all[i] = new LazyList();
            }
        }

        int count() {
            return count;
        }

        void forget() {
            count = 0;
        }

        LazyList pick(int list) {
            return within(list, count) ? all[list] : null;
        }

        int begin(Handle h) {
            if (count >= MAX_HANDLES || !h.becomeHalf()) {
                return turned(ILLEGAL);
            }
            all[count].begin(h);
            count++;
            return count - 1;
        }
    }

    /** THE ORDER of the latest run. */
    private static final class Journal {
        private final int[] entries = new int[ORDER_KEPT];
        private int count = 0;

        int count() {
            return count;
        }

        void forget() {
            count = 0;
        }

        void note(int node) {
            if (count < ORDER_KEPT) {
                entries[count] = node;
            }
            count++;
        }

        int entry(int i) {
            return within(i, Math.min(count, ORDER_KEPT)) ? entries[i] : NONE;
        }
    }

    /**
     * Works NODES. What the latest one came to stands in ending and number; the
     * methods that work a NODE answer whether that is a VALUE.
     */
    private static final class Worker {
        private final Script script;
        private final Console console;
        private final Handles handles;
        private final Lists lists;
        private final Journal journal;
        private final int[] variableSorts = new int[VARIABLES];
        private final int[] variableNumbers = new int[VARIABLES];
        private int ending = A_NUMBER;
        private int number = 0;
        private int culprit = NONE;
        private int steps = 0;

        Worker(Script script, Console console, Handles handles, Lists lists, Journal journal) {
            this.script = script;
            this.console = console;
            this.handles = handles;
            this.lists = lists;
            this.journal = journal;
        }

        int outcome() {
            return number;
        }

        int failedNode() {
            return ending == FAILED ? culprit : NONE;
        }

        int steps() {
            return steps;
        }

        int perform(int node) {
            Arrays.fill(variableSorts, A_NUMBER);
            Arrays.fill(variableNumbers, 0);
            handles.forget();
            lists.forget();
            journal.forget();
            steps = 0;
            work(node, 1);
            handles.closeBehindRun();
            return ending;
        }

        /** Parts have lesser numbers, so no depth is above the number of NODES. */
        private boolean work(int node, int depth) {
            if (steps >= MAX_WORKED || depth > MAX_NODES) {
                return stop();
            }
            steps++;
            switch (script.code(node)) {
                case NUMBER:
                    return give(A_NUMBER, script.first(node));
                case GET:
                    return give(variableSorts[script.first(node)], variableNumbers[script.first(node)]);
                case SET:
                    return workSet(node, depth);
                case PUT:
                case SEEK:
                    return workHandleAndNumber(node, depth);
                case ITEM:
                    return workItem(node, depth);
                case LENGTH:
                    return workLength(node, depth);
                case OPEN:
                case REMOVE:
                case RENAME:
                case READ:
                    return actAlone(node);
                case PRINT:
                case EXIT:
                case IF:
                case TIMES:
                    return workNumberFirst(node, depth);
                case THEN:
                    return work(script.first(node), depth + 1) && work(script.second(node), depth + 1);
                case LESS:
                case PLUS:
                    return workTwoNumbers(node, depth);
                case FAIL:
                    return fail(script.first(node), node);
                case CATCH:
                    return workCatch(node, depth);
                case FINALLY:
                    work(script.first(node), depth + 1);
                    return workEnd(script.second(node), depth);
                case BRACKET:
                    return workBracket(node, depth);
                default:
                    return workHandle(node, depth);
            }
        }

        private boolean give(int sort, int v) {
            ending = sort;
            number = v;
            return true;
        }

        private boolean fail(int kind, int node) {
            ending = FAILED;
            number = kind;
            culprit = node;
            return false;
        }

        private boolean stop() {
            ending = STOPPED;
            number = 0;
            return false;
        }

        private boolean settle(int node, int sort, int answer) {
            return answer < 0 ? fail(turned(answer), node) : give(sort, answer);
        }

        /** As settle, for a doing outside. */
        private boolean act(int node, int sort, int answer) {
            if (answer >= 0) {
                journal.note(node);
            }
            return settle(node, sort, answer);
        }

        private boolean workToNumber(int part, int node, int depth) {
            return work(part, depth + 1) && (ending == A_NUMBER || fail(ILLEGAL, node));
        }

        /** Null where it did not come to a HANDLE. */
        private Handle workToHandle(int part, int node, int depth) {
            if (!work(part, depth + 1)) {
                return null;
            }
            Handle h = ending == A_HANDLE ? handles.pick(number) : null;
            if (h == null) {
                fail(ILLEGAL, node);
            }
            return h;
        }

        /** Null where it did not come to a LIST. */
        private LazyList workToList(int part, int node, int depth) {
            if (!work(part, depth + 1)) {
                return null;
            }
            LazyList list = ending == A_LIST ? lists.pick(number) : null;
            if (list == null) {
                fail(ILLEGAL, node);
            }
            return list;
        }

        private void assign(int variable, int sort, int v) {
            variableSorts[variable] = sort;
            variableNumbers[variable] = v;
        }

        private boolean workSet(int node, int depth) {
            if (!work(script.second(node), depth + 1)) {
                return false;
            }
            assign(script.first(node), ending, number);
            return true;
        }

        private boolean workHandle(int node, int depth) {
            Handle h = workToHandle(script.first(node), node, depth);
            if (h == null) {
                return false;
            }
            switch (script.code(node)) {
                case CLOSE:
                    noteClosing(node, h);
                    return settle(node, A_NUMBER, h.close());
                case TAKE:
                    return act(node, A_NUMBER, h.take());
                case LAZY:
                    return settle(node, A_LIST, lists.begin(h));
                case WHERE:
                    return settle(node, A_NUMBER, h.tellPlace());
                case SIZE:
                    return settle(node, A_NUMBER, h.measure());
                case BUFFER:
                    return act(node, A_NUMBER, h.changeBuffer(script.second(node)));
                case FLUSH:
                default:
                    return act(node, A_NUMBER, h.flush());
            }
        }

        /** A closing is an act even where its FLUSH FAILS, but not where there is nothing to close. */
        private void noteClosing(int node, Handle h) {
            if (!h.isClosed()) {
                journal.note(node);
            }
        }

        private boolean workHandleAndNumber(int node, int depth) {
            Handle h = workToHandle(script.first(node), node, depth);
            if (h == null || !workToNumber(script.second(node), node, depth)) {
                return false;
            }
            int answer = script.code(node) == PUT ? h.put(number) : h.seek(number);
            return act(node, A_NUMBER, answer);
        }

        private boolean workItem(int node, int depth) {
            LazyList list = workToList(script.first(node), node, depth);
            if (list == null || !workToNumber(script.second(node), node, depth)) {
                return false;
            }
            int i = number;
            if (i < 0) {
                return fail(ILLEGAL, node);
            }
            noteTimes(node, list.reach(i));
            return give(A_NUMBER, list.item(i));
        }

        private boolean workLength(int node, int depth) {
            LazyList list = workToList(script.first(node), node, depth);
            if (list == null) {
                return false;
            }
            noteTimes(node, list.reach(FILE_ROOM));
            return give(A_NUMBER, list.length());
        }

        private void noteTimes(int node, int times) {
            for (int i = 0; i < times; i++) {
                journal.note(node);
            }
        }

        private boolean actAlone(int node) {
            int a = script.first(node);
            int b = script.second(node);
            switch (script.code(node)) {
                case OPEN:
                    return act(node, A_HANDLE, handles.open(a, b));
                case REMOVE:
                    return act(node, A_NUMBER, handles.removeFile(a));
                case RENAME:
                    int answer = handles.renameFile(a, b);
                    return a == b ? settle(node, A_NUMBER, answer) : act(node, A_NUMBER, answer);
                case READ:
                default:
                    return act(node, A_NUMBER, console.readByte());
            }
        }

        private boolean workNumberFirst(int node, int depth) {
            if (!workToNumber(script.first(node), node, depth)) {
                return false;
            }
            switch (script.code(node)) {
                case PRINT:
                    return act(node, A_NUMBER, console.print(number));
                case EXIT:
                    ending = EXITED;
                    return false;
                case IF:
                    return work(number != 0 ? script.second(node) : script.third(node), depth + 1);
                case TIMES:
                default:
                    return workTimes(script.second(node), number, depth);
            }
        }

        /** No more rounds than NODES can be worked are needed: the next one stops the run. */
        private boolean workTimes(int part, int times, int depth) {
            int rounds = Math.min(times, MAX_WORKED);
            for (int i = 0; i < rounds; i++) {
                if (!work(part, depth + 1)) {
                    return false;
                }
            }
            return give(A_NUMBER, 0);
        }

        private boolean workTwoNumbers(int node, int depth) {
            if (!workToNumber(script.first(node), node, depth)) {
                return false;
            }
            int x = number;
            if (!workToNumber(script.second(node), node, depth)) {
                return false;
            }
            int y = number;
            if (script.code(node) == LESS) {
                return give(A_NUMBER, x < y ? 1 : 0);
            }
            return give(A_NUMBER, x + y);
        }

        private boolean workCatch(int node, int depth) {
            if (work(script.first(node), depth + 1)) {
                return true;
            }
            if (ending != FAILED || (script.third(node) >> number & 1) == 0) {
                return false;
            }
            assign(CAUGHT_VARIABLE, A_NUMBER, number);
            return work(script.second(node), depth + 1);
        }

        private boolean workBracket(int node, int depth) {
            if (!work(script.first(node), depth + 1)) {
                return false;
            }
            int sort = ending;
            int v = number;
            assign(BRACKET_VARIABLE, sort, v);
            work(script.third(node), depth + 1);
            assign(BRACKET_VARIABLE, sort, v);
            return workEnd(script.second(node), depth);
        }

        /** Works an end behind whatever came, which goes on unless the end comes to no VALUE. */
        private boolean workEnd(int end, int depth) {
            if (ending == STOPPED) {
                return false;
            }
            int keptEnding = ending;
            int keptNumber = number;
            int keptCulprit = culprit;
            if (!work(end, depth + 1)) {
                return false;
            }
            ending = keptEnding;
            number = keptNumber;
            culprit = keptCulprit;
            return ending <= A_LIST;
        }
    }
}
