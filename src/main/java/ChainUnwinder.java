/**
 * Finds out what each place of a small machine's functions does to the stack, packs that into a
 * section of bytes, and unwinds from it the calls that are under way at any step of a run.
 */
public final class ChainUnwinder {
    public static final int NONE = -1;

    private static final int MOST_CODE = 96;
    private static final int MOST_FUNCTIONS = 5;
    private static final int MOST_HEIGHT = 30;
    private static final int MOST_PILE = 4;
    private static final int MOST_CALLS = 40;
    private static final int MOST_FRAMES = 20;
    private static final int WORDS = 40;
    private static final int REGISTERS = 3;
    private static final int OVER = 255;

    private static final int PUSH = 1;
    private static final int POP = 2;
    private static final int RESERVE = 3;
    private static final int RELEASE = 4;
    private static final int FP_FROM_SP = 5;
    private static final int SP_FROM_FP = 6;
    private static final int CALL = 7;
    private static final int RETURN = 8;
    private static final int JUMP = 9;
    private static final int BRANCH = 10;
    private static final int SET = 11;
    private static final int SET_A = 12;
    private static final int LESSEN_A = 13;
    private static final int STORE = 14;
    private static final int LOAD = 15;

    private static final int FP = 0;
    private static final int LINK_SP = 0;
    private static final int LINK_FP = 1;

    private static final int TELL_NOTHING = 0;
    private static final int TELL_FAR_ADVANCE = 2;
    private static final int TELL_PILE = 10;
    private static final int TELL_UNPILE = 11;
    private static final int TELL_LINK_AND_NUMBER = 12;
    private static final int TELL_LINK = 13;
    private static final int TELL_NUMBER = 14;
    private static final int TELL_ADVANCE = 64;
    private static final int TELL_SAVED = 128;
    private static final int TELL_NOT_SAVED = 192;

    private static final int FOUND = 0;
    private static final int MALFORMED = -2;

    private static final int DONE = 0;
    private static final int NOT_POSSIBLE = 1;
    private static final int OUT_OF_STACK = 2;

    private final Program program;
    private final Packer packer;
    private final Section packed;
    private final Reader reader;
    private final Machine runner;
    private final Chain chain;

    public ChainUnwinder() {
        program = new Program();
        packed = new Section();
        packer = new Packer(program, packed);
        reader = new Reader(packed);
        runner = new Machine(program);
        chain = new Chain(runner, reader);
    }

    public int code(long bytes, int n) {
        int length = program.append(bytes, n);
        if (length != NONE) {
            runner.end();
        }
        return length;
    }

    public int function(int from, int end) {
        int functions = program.addFunction(from, end);
        if (functions != NONE) {
            runner.end();
        }
        return functions;
    }

    public int clear() {
        runner.end();
        return program.empty();
    }

    public int pack() {
        return packer.packAll();
    }

    public int section(int i) {
        return packed.byteAt(i);
    }

    public boolean poke(int i, int b) {
        return packed.change(i, b);
    }

    public int row(int place, int what) throws IllegalArgumentException {
        int outcome = reader.lookUp(place);
        if (outcome == MALFORMED) {
            throw new IllegalArgumentException();
        }
        return outcome == FOUND ? reader.found.part(what) : NONE;
    }

    public boolean begin(int fp, int b, int c, int a) {
        return runner.start(fp, b, c, a);
    }

    public int step() throws IllegalStateException, IndexOutOfBoundsException {
        int outcome = runner.advance();
        if (outcome == NOT_POSSIBLE) {
            throw new IllegalStateException();
        }
        if (outcome == OUT_OF_STACK) {
            throw new IndexOutOfBoundsException();
        }
        return runner.place;
    }

    public int machine(int what) {
        return runner.part(what);
    }

    public int call(int i) {
        return runner.returnOf(i);
    }

    public int unwind() {
        return chain.findFrames();
    }

    public int frame(int i, int what) {
        return chain.part(i, what);
    }

    /** The code, and the functions in it in the order of their places. */
    private static final class Program {
        private static final int[] SIZES = {1, 2, 2, 2, 2, 1, 1, 2, 1, 2, 2, 3, 2, 1, 3, 3};

        private final int[] code = new int[MOST_CODE];
        private final int[] firsts = new int[MOST_FUNCTIONS];
        private final int[] ends = new int[MOST_FUNCTIONS];
        private int length;
        private int functions;

        int append(long word, int n) {
            if (n < 1 || n > 8 || length + n > MOST_CODE) {
                return NONE;
            }
            for (int i = n - 1; i >= 0; i--) {
                code[length] = (int) (word >>> (8 * i)) & 255;
                length++;
            }
            return length;
        }

        int addFunction(int first, int end) {
            if (functions >= MOST_FUNCTIONS || first < 0 || first >= end || end > length) {
                return NONE;
            }
            for (int i = 0; i < functions; i++) {
                if (first < ends[i] && firsts[i] < end) {
                    return NONE;
                }
            }
            insertFunction(first, end);
            return functions;
        }

        private void insertFunction(int first, int end) {
            int at = functions;
            while (at > 0 && firsts[at - 1] > first) {
                firsts[at] = firsts[at - 1];
                ends[at] = ends[at - 1];
                at--;
            }
            firsts[at] = first;
            ends[at] = end;
            functions++;
        }

        int empty() {
            int were = functions;
            length = 0;
            functions = 0;
            return were;
        }

        int codeAt(int place) {
            return place >= 0 && place < length ? code[place] : NONE;
        }

        boolean startsFunction(int place) {
            for (int i = 0; i < functions; i++) {
                if (firsts[i] == place) {
                    return true;
                }
            }
            return false;
        }

        /** How many bytes the instruction at a place has; 0 when it is not whole before the end. */
        int wholeSize(int place, int end) {
            int number = codeAt(place);
            if (number < 0 || number >= SIZES.length) {
                return 0;
            }
            int size = SIZES[number];
            if (size > end - place) {
                return 0;
            }
            return namesRegister(number) && codeAt(place + 1) >= REGISTERS ? 0 : size;
        }

        private static boolean namesRegister(int number) {
            return number == PUSH || number == POP || number == SET || number == STORE || number == LOAD;
        }
    }

    /** Finds out what is known at each place of each function. */
    private static final class Finder {
        private static final int UNKNOWN = 0;
        private static final int KNOWN = 1;
        private static final int LOOKED_AT = 2;
        private static final int FACTS = 2 + REGISTERS;

        private final Program program;
        // A function's end can become known too, so there is one place more than the code has.
        private final int[] marks = new int[MOST_CODE + 1];
        private final boolean[] begins = new boolean[MOST_CODE + 1];
        private final int[] facts = new int[(MOST_CODE + 1) * FACTS];
        private final int[] saved = new int[REGISTERS];
        private int height;
        private int frame;
        private int first;
        private int end;

        Finder(Program program) {
            this.program = program;
        }

        /** Finds out about one function: 0, or 100 * fault and the place. */
        int findOut(int from, int to) {
            first = from;
            end = to;
            forget();
            markBegins();
            height = 1;
            frame = 0;
            for (int r = 0; r < REGISTERS; r++) {
                saved[r] = 0;
            }
            int report = learn(first);
            int place = lowestToLookAt();
            for (int i = 0; i <= MOST_CODE && report == 0 && place != NONE; i++) {
                report = lookAt(place);
                place = lowestToLookAt();
            }
            return report;
        }

        private void forget() {
            for (int place = first; place <= end; place++) {
                marks[place] = UNKNOWN;
                begins[place] = false;
            }
        }

        private void markBegins() {
            int place = first;
            int size = 1;
            while (place < end && size > 0) {
                begins[place] = true;
                size = program.wholeSize(place, end);
                place += size;
            }
        }

        private int lowestToLookAt() {
            for (int place = first; place <= end; place++) {
                if (marks[place] == KNOWN) {
                    return place;
                }
            }
            return NONE;
        }

        private int lookAt(int place) {
            marks[place] = LOOKED_AT;
            if (place == end) {
                return 200 + place;
            }
            int size = program.wholeSize(place, end);
            if (size == 0) {
                return 100 + place;
            }
            recall(place);
            int number = program.codeAt(place);
            int operand = program.codeAt(place + 1);
            int fault = effect(number, operand, program.codeAt(place + 2));
            if (fault != 0) {
                return 100 * fault + place;
            }
            int report = number == RETURN || number == JUMP ? 0 : learn(place + size);
            boolean goes = (number == JUMP || number == BRANCH) && inFunction(operand);
            return report == 0 && goes ? learn(operand) : report;
        }

        private boolean inFunction(int place) {
            return place >= first && place < end;
        }

        private void recall(int place) {
            int at = place * FACTS;
            height = facts[at];
            frame = facts[at + 1];
            for (int r = 0; r < REGISTERS; r++) {
                saved[r] = facts[at + 2 + r];
            }
        }

        /** 0, or fault 7 and the place, when something else is known there already. */
        private int learn(int place) {
            if (marks[place] != UNKNOWN) {
                return isKnown(place) ? 0 : 700 + place;
            }
            int at = place * FACTS;
            marks[place] = KNOWN;
            facts[at] = height;
            facts[at + 1] = frame;
            for (int r = 0; r < REGISTERS; r++) {
                facts[at + 2 + r] = saved[r];
            }
            return 0;
        }

        private boolean isKnown(int place) {
            int at = place * FACTS;
            boolean same = facts[at] == height && facts[at + 1] == frame;
            for (int r = 0; r < REGISTERS; r++) {
                same = same && facts[at + 2 + r] == saved[r];
            }
            return same;
        }

        /** What the instruction does to what is known: its fault, or 0. */
        private int effect(int number, int operand, int second) {
            switch (number) {
                case PUSH:
                    return pushRegister(operand);
                case POP:
                    return popRegister(operand);
                case RESERVE:
                    return gain(operand);
                case RELEASE:
                    return lose(operand);
                case FP_FROM_SP:
                    return setFrame();
                case SP_FROM_FP:
                    return dropToFrame();
                case CALL:
                    return program.startsFunction(operand) ? 0 : 3;
                case RETURN:
                    return isAsBeforeCall() ? 0 : 6;
                case JUMP:
                    return jumpTo(operand);
                case BRANCH:
                    return inFunction(operand) && begins[operand] ? 0 : 3;
                case SET:
                    return spoil(operand);
                case STORE:
                    return store(operand, height - second);
                case LOAD:
                    return second < height - 1 ? give(operand, height - second) : 8;
                default:
                    return 0;
            }
        }

        private int pushRegister(int r) {
            int fault = gain(1);
            if (fault == 0) {
                save(r, height);
            }
            return fault;
        }

        private int popRegister(int r) {
            if (height == 1) {
                return 5;
            }
            int fault = give(r, height);
            return fault == 0 ? lose(1) : fault;
        }

        private int setFrame() {
            int fault = spoil(FP);
            if (fault == 0) {
                frame = height;
            }
            return fault;
        }

        private int dropToFrame() {
            return frame == 0 || frame > height ? 5 : lose(height - frame);
        }

        private int jumpTo(int place) {
            if (inFunction(place)) {
                return begins[place] ? 0 : 3;
            }
            if (!program.startsFunction(place)) {
                return 3;
            }
            return isAsBeforeCall() ? 0 : 6;
        }

        private int store(int r, int s) {
            if (s < 2 || s > height || holdsSaved(s)) {
                return 8;
            }
            save(r, s);
            return 0;
        }

        private int gain(int words) {
            height += words;
            return height > MOST_HEIGHT ? 9 : 0;
        }

        private int lose(int words) {
            height -= words;
            boolean lost = height < 1;
            for (int r = 0; r < REGISTERS; r++) {
                lost = lost || saved[r] > height;
            }
            return lost ? 5 : 0;
        }

        private void save(int r, int s) {
            if (saved[r] == 0) {
                saved[r] = s;
            }
        }

        private int spoil(int r) {
            if (saved[r] == 0) {
                return 4;
            }
            if (r == FP) {
                frame = 0;
            }
            return 0;
        }

        private int give(int r, int s) {
            if (saved[r] == 0) {
                return 4;
            }
            if (saved[r] == s) {
                saved[r] = 0;
            }
            if (r == FP) {
                frame = 0;
            }
            return 0;
        }

        private boolean holdsSaved(int s) {
            for (int r = 0; r < REGISTERS; r++) {
                if (saved[r] == s) {
                    return true;
                }
            }
            return false;
        }

        private boolean isAsBeforeCall() {
            boolean same = height == 1;
            for (int r = 0; r < REGISTERS; r++) {
                same = same && saved[r] == 0;
            }
            return same;
        }

        /** Puts the row of a place into another one; false when nothing is known there. */
        boolean fillRow(int place, Row row) {
            if (marks[place] == UNKNOWN) {
                return false;
            }
            recall(place);
            row.link = frame != 0 ? LINK_FP : LINK_SP;
            row.number = frame != 0 ? frame : height;
            for (int r = 0; r < REGISTERS; r++) {
                row.saved[r] = saved[r];
            }
            return true;
        }
    }

    /** By what BASE is found at a place, and where each register is saved. */
    private static final class Row {
        private int link;
        private int number;
        private final int[] saved = new int[REGISTERS];

        void setToFirst() {
            link = LINK_SP;
            number = 1;
            for (int r = 0; r < REGISTERS; r++) {
                saved[r] = 0;
            }
        }

        void copyFrom(Row other) {
            link = other.link;
            number = other.number;
            for (int r = 0; r < REGISTERS; r++) {
                saved[r] = other.saved[r];
            }
        }

        boolean isSameAs(Row other) {
            boolean same = link == other.link && number == other.number;
            for (int r = 0; r < REGISTERS; r++) {
                same = same && saved[r] == other.saved[r];
            }
            return same;
        }

        int part(int what) {
            if (what < 0 || what >= 2 + REGISTERS) {
                return NONE;
            }
            if (what == 0) {
                return link;
            }
            return what == 1 ? number : saved[what - 2];
        }
    }

    /** The packed bytes. */
    private static final class Section {
        // A place needs 11 bytes at most: an advance, the link and the number, three registers.
        private static final int MOST_BYTES = 11 * MOST_CODE + 4 * MOST_FUNCTIONS;

        private final int[] bytes = new int[MOST_BYTES];
        private int length;

        void empty() {
            length = 0;
        }

        void append(int b) {
            if (length < MOST_BYTES) {
                bytes[length] = b;
                length++;
            }
        }

        int byteAt(int i) {
            return i >= 0 && i < length ? bytes[i] : NONE;
        }

        boolean change(int i, int b) {
            if (i < 0 || i >= length || b < 0 || b > 255) {
                return false;
            }
            bytes[i] = b;
            return true;
        }
    }

    /** Writes the section from what is found out. */
    private static final class Packer {
        private static final int NEAR = 63;

        private final Program program;
        private final Section section;
        private final Finder finder;
        private final Row before = new Row();
        private final Row now = new Row();

        Packer(Program program, Section section) {
            this.program = program;
            this.section = section;
            finder = new Finder(program);
        }

        int packAll() {
            for (int i = 0; i < program.functions; i++) {
                int report = finder.findOut(program.firsts[i], program.ends[i]);
                if (report != 0) {
                    return -report;
                }
            }
            section.empty();
            for (int i = 0; i < program.functions; i++) {
                writeFunction(program.firsts[i], program.ends[i]);
            }
            return section.length;
        }

        private void writeFunction(int first, int end) {
            int start = section.length;
            section.append(0);
            section.append(0);
            section.append(first);
            section.append(end - first);
            writeProgram(first, end);
            int count = section.length - start - 2;
            section.change(start, count >> 8);
            section.change(start + 1, count & 255);
        }

        private void writeProgram(int first, int end) {
            before.setToFirst();
            int told = first;
            for (int place = first; place < end; place++) {
                if (finder.fillRow(place, now) && !now.isSameAs(before)) {
                    writeAdvance(place - told);
                    writeBase();
                    writeSaved();
                    before.copyFrom(now);
                    told = place;
                }
            }
        }

        private void writeAdvance(int distance) {
            if (distance <= NEAR) {
                section.append(TELL_ADVANCE + distance);
            } else {
                section.append(TELL_FAR_ADVANCE);
                section.append(distance);
            }
        }

        private void writeBase() {
            boolean otherLink = now.link != before.link;
            boolean otherNumber = now.number != before.number;
            if (otherLink && otherNumber) {
                section.append(TELL_LINK_AND_NUMBER);
            } else if (otherLink) {
                section.append(TELL_LINK);
            } else if (otherNumber) {
                section.append(TELL_NUMBER);
            }
            if (otherLink) {
                section.append(now.link);
            }
            if (otherNumber) {
                section.append(now.number);
            }
        }

        private void writeSaved() {
            for (int r = 0; r < REGISTERS; r++) {
                int s = now.saved[r];
                if (s != before.saved[r]) {
                    section.append((s == 0 ? TELL_NOT_SAVED : TELL_SAVED) + r);
                    if (s != 0) {
                        section.append(s);
                    }
                }
            }
        }
    }

    /** Finds the row of a place in the section, which may have been changed to anything. */
    private static final class Reader {
        private final Section section;
        private final Row found = new Row();
        private final Row now = new Row();
        private final Row[] pile = new Row[MOST_PILE];
        private int piled;
        private int place;
        private int end;

        Reader(Section section) {
            this.section = section;
            for (int i = 0; i < MOST_PILE; i++) {
                pile[i] = new Row();
            }
        }

        /** FOUND (then the row is in found), NONE when no function has the place, or MALFORMED. */
        int lookUp(int wanted) {
            int count = 2;
            for (int at = 0; at < section.length; at += 2 + count) {
                count = countAt(at);
                if (count < 2 || count > section.length - at - 2) {
                    return MALFORMED;
                }
                place = section.byteAt(at + 2);
                end = place + section.byteAt(at + 3);
                if (wanted >= place && wanted < end) {
                    return readProgram(at + 4, at + 2 + count, wanted) ? FOUND : MALFORMED;
                }
            }
            return NONE;
        }

        private int countAt(int at) {
            int high = section.byteAt(at);
            int low = section.byteAt(at + 1);
            return low == NONE ? NONE : 256 * high + low;
        }

        private boolean readProgram(int from, int to, int wanted) {
            now.setToFirst();
            found.copyFrom(now);
            piled = 0;
            int size = 1;
            for (int at = from; at < to; at += size) {
                size = sizeOf(section.byteAt(at));
                if (size == 0 || size > to - at || !follow(at)) {
                    return false;
                }
                if (place <= wanted) {
                    found.copyFrom(now);
                }
            }
            return true;
        }

        /** How many bytes a part of a program has that begins with this one; 0 if none does. */
        private static int sizeOf(int b) {
            if (b >= TELL_ADVANCE && b < TELL_SAVED) {
                return 1;
            }
            if (b >= TELL_SAVED && b < TELL_SAVED + REGISTERS) {
                return 2;
            }
            if (b >= TELL_NOT_SAVED && b < TELL_NOT_SAVED + REGISTERS) {
                return 1;
            }
            switch (b) {
                case TELL_NOTHING:
                case TELL_PILE:
                case TELL_UNPILE:
                    return 1;
                case TELL_FAR_ADVANCE:
                case TELL_LINK:
                case TELL_NUMBER:
                    return 2;
                case TELL_LINK_AND_NUMBER:
                    return 3;
                default:
                    return 0;
            }
        }

        /** Does what the program tells here, of which no byte is missing; false if it may not. */
        private boolean follow(int at) {
            int b = section.byteAt(at);
            int operand = section.byteAt(at + 1);
            switch (b) {
                case TELL_NOTHING:
                    return true;
                case TELL_FAR_ADVANCE:
                    return moveBy(operand);
                case TELL_PILE:
                    return putOnPile();
                case TELL_UNPILE:
                    return takeOffPile();
                case TELL_LINK_AND_NUMBER:
                    now.number = section.byteAt(at + 2);
                    return setLink(operand);
                case TELL_LINK:
                    return setLink(operand);
                case TELL_NUMBER:
                    now.number = operand;
                    return true;
                default:
                    return followRange(b, operand);
            }
        }

        private boolean followRange(int b, int operand) {
            if (b < TELL_SAVED) {
                return moveBy(b - TELL_ADVANCE);
            }
            if (b < TELL_NOT_SAVED) {
                now.saved[b - TELL_SAVED] = operand;
            } else {
                now.saved[b - TELL_NOT_SAVED] = 0;
            }
            return true;
        }

        private boolean moveBy(int distance) {
            place += distance;
            return place < end;
        }

        private boolean setLink(int link) {
            now.link = link;
            return link <= LINK_FP;
        }

        private boolean putOnPile() {
            if (piled >= MOST_PILE) {
                return false;
            }
            pile[piled].copyFrom(now);
            piled++;
            return true;
        }

        private boolean takeOffPile() {
            if (piled <= 0) {
                return false;
            }
            piled--;
            now.copyFrom(pile[piled]);
            return true;
        }
    }

    /** The machine with its latest run. */
    private static final class Machine {
        private final Program program;
        private final int[] words = new int[WORDS];
        private final int[] registers = new int[REGISTERS];
        private final int[] returns = new int[MOST_CALLS];
        private boolean begun;
        private boolean underWay;
        private int place;
        private int pointer;
        private int a;
        private int calls;

        Machine(Program program) {
            this.program = program;
        }

        boolean start(int fp, int b, int c, int number) {
            if (program.functions == 0) {
                return false;
            }
            for (int i = 0; i < WORDS; i++) {
                words[i] = 0;
            }
            pointer = WORDS - 1;
            words[pointer] = OVER;
            registers[0] = fp;
            registers[1] = b;
            registers[2] = c;
            a = number;
            returns[0] = OVER;
            calls = 1;
            place = program.firsts[0];
            begun = true;
            underWay = true;
            return true;
        }

        void end() {
            underWay = false;
            place = OVER;
        }

        /** DONE; or NOT_POSSIBLE or OUT_OF_STACK, and then nothing has changed. */
        int advance() {
            int size = underWay ? program.wholeSize(place, program.length) : 0;
            if (size == 0) {
                return NOT_POSSIBLE;
            }
            int number = program.codeAt(place);
            int operand = program.codeAt(place + 1);
            int next = place + size;
            boolean done;
            switch (number) {
                case CALL:
                    done = callPlace(operand, next);
                    break;
                case RETURN:
                    done = returnToCaller();
                    break;
                case JUMP:
                    done = goTo(operand);
                    break;
                case BRANCH:
                    done = goTo(a != 0 ? operand : next);
                    break;
                default:
                    done = carryOut(number, operand, program.codeAt(place + 2)) && goTo(next);
                    break;
            }
            return done ? DONE : OUT_OF_STACK;
        }

        private boolean carryOut(int number, int operand, int second) {
            switch (number) {
                case PUSH:
                    return pushWord(registers[operand]);
                case POP:
                    return loadRegister(operand, pointer) && setPointer(pointer + 1);
                case RESERVE:
                    return setPointer(pointer - operand);
                case RELEASE:
                    return setPointer(pointer + operand);
                case FP_FROM_SP:
                    registers[FP] = pointer;
                    return true;
                case SP_FROM_FP:
                    return setPointer(registers[FP]);
                case SET:
                    registers[operand] = second;
                    return true;
                case SET_A:
                    a = operand;
                    return true;
                case LESSEN_A:
                    a--;
                    return true;
                case STORE:
                    return storeWord(pointer + second, registers[operand]);
                case LOAD:
                    return loadRegister(operand, pointer + second);
                default:
                    return true;
            }
        }

        private boolean callPlace(int to, int back) {
            if (calls >= MOST_CALLS || !pushWord(back)) {
                return false;
            }
            returns[calls] = back;
            calls++;
            return goTo(to);
        }

        private boolean returnToCaller() {
            if (!isWord(pointer)) {
                return false;
            }
            place = words[pointer];
            pointer++;
            if (calls > 0) {
                calls--;
            }
            if (place == OVER) {
                end();
            }
            return true;
        }

        private boolean goTo(int to) {
            place = to;
            return true;
        }

        private boolean setPointer(int to) {
            if (to < 0 || to > WORDS) {
                return false;
            }
            pointer = to;
            return true;
        }

        private boolean pushWord(int value) {
            return storeWord(pointer - 1, value) && setPointer(pointer - 1);
        }

        private boolean storeWord(int at, int value) {
            if (!isWord(at)) {
                return false;
            }
            words[at] = value;
            return true;
        }

        private boolean loadRegister(int r, int at) {
            if (!isWord(at)) {
                return false;
            }
            registers[r] = words[at];
            return true;
        }

        boolean isWord(int at) {
            return at >= 0 && at < WORDS;
        }

        int wordAt(int at) {
            return isWord(at) ? words[at] : 0;
        }

        int part(int what) {
            if (!begun) {
                return NONE;
            }
            switch (what) {
                case 0:
                    return place;
                case 1:
                    return pointer;
                case 2:
                case 3:
                case 4:
                    return registers[what - 2];
                case 5:
                    return a;
                case 6:
                    return calls;
                default:
                    return NONE;
            }
        }

        int returnOf(int i) {
            return i >= 0 && i < calls ? returns[calls - 1 - i] : NONE;
        }
    }

    /** The frames of the latest unwinding, each its place, SP and registers. */
    private static final class Chain {
        private static final int PARTS = 2 + REGISTERS;

        private final Machine machine;
        private final Reader reader;
        private final int[] parts = new int[MOST_FRAMES * PARTS];
        private int frames;

        Chain(Machine machine, Reader reader) {
            this.machine = machine;
            this.reader = reader;
        }

        int findFrames() {
            frames = 0;
            if (!machine.underWay) {
                return NONE;
            }
            for (int what = 0; what < PARTS; what++) {
                parts[what] = machine.part(what);
            }
            int last = 0;
            while (last < MOST_FRAMES - 1 && parts[last * PARTS] != OVER) {
                boolean found = reader.lookUp(parts[last * PARTS]) == FOUND;
                if (!found || !addBehind(last, reader.found)) {
                    return NONE;
                }
                last++;
            }
            if (parts[last * PARTS] != OVER) {
                return NONE;
            }
            frames = last + 1;
            return frames;
        }

        private boolean addBehind(int last, Row row) {
            int from = last * PARTS;
            int to = from + PARTS;
            int base = row.number + (row.link == LINK_FP ? parts[from + 2 + FP] : parts[from + 1]);
            if (!machine.isWord(base - 1)) {
                return false;
            }
            parts[to] = machine.wordAt(base - 1);
            parts[to + 1] = base;
            for (int r = 0; r < REGISTERS; r++) {
                int s = row.saved[r];
                if (s != 0 && !machine.isWord(base - s)) {
                    return false;
                }
                parts[to + 2 + r] = s != 0 ? machine.wordAt(base - s) : parts[from + 2 + r];
            }
            return true;
        }

        int part(int i, int what) {
            if (i < 0 || i >= frames || what < 0 || what >= PARTS) {
                return NONE;
            }
            return parts[i * PARTS + what];
        }
    }
}
