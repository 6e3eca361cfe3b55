/**
 * Deltas of bytes: a second row made out of a first one by copies and added bytes, written as a
 * patch, applied with checks, or done in place over the first row itself.
 */
public final class DeltaMaker {
    public static final int NONE = -1;

    private static final int FIRST = 0;
    private static final int SECOND = 1;
    private static final int PATCH = 2;
    private static final int OUTPUT = 3;
    private static final int MEMORY = 4;

    private static final int ROW_MOST = 300;
    private static final int PATCH_MOST = 900;
    private static final int TAPE_MOST = 900;
    private static final int FED_MOST = 8;

    private static final int COPY_LEAST = 4;
    private static final int ADD_MOST = 40;
    /** No STEP has fewer bytes than one, so there are never more STEPS than bytes in SECOND. */
    private static final int STEPS_MOST = ROW_MOST;

    private static final int VARINT_MOST = 4;
    private static final int CHECK_BYTES = 4;
    private static final int CHECK_FACTOR = 0x85EBCA77;

    private static final int FINE = 0;
    private static final int BAD_FORM = -1;
    private static final int OTHER_SIZE = -2;
    private static final int OTHER_CHECK = -3;
    private static final int TOO_LARGE = -4;
    private static final int COPY_OUTSIDE = -5;
    private static final int TOO_MANY = -6;
    private static final int TOO_FEW = -7;
    private static final int WRONG_RESULT = -8;

    private final Row tape;
    private final Row first;
    private final Row second;
    private final Row patch;
    private final Row output;
    private final Row memory;
    private final Plan plan;
    private final Applier applier;
    private final Placer placer;

    public DeltaMaker() {
        tape = new Row(TAPE_MOST);
        first = new Row(ROW_MOST);
        second = new Row(ROW_MOST);
        patch = new Row(PATCH_MOST);
        output = new Row(ROW_MOST);
        memory = new Row(ROW_MOST);
        plan = new Plan();
        applier = new Applier(patch, first, output);
        placer = new Placer(plan, memory);
    }

    public boolean feed(long w, int n) {
        if (n < 1 || n > FED_MOST || n > tape.most() - tape.count()) {
            return false;
        }
        for (int k = n - 1; k >= 0; k--) {
            tape.add((int) (w >>> (8 * k)) & 255);
        }
        return true;
    }

    public boolean take(int what) {
        Row row = what <= PATCH ? rowNamed(what) : null;
        if (row == null || tape.count() > row.most()) {
            return false;
        }
        row.become(tape);
        tape.clear();
        return true;
    }

    public int make() {
        plan.layOut(first, second);
        placer.forget();
        plan.writeTo(patch);
        return patch.count();
    }

    public int byteAt(int what, int i) {
        Row row = rowNamed(what);
        return row == null ? NONE : row.at(i);
    }

    public int size(int what) {
        Row row = rowNamed(what);
        return row == null ? NONE : row.count();
    }

    public int steps() {
        return plan.count();
    }

    public int step(int i, int what) {
        if (!plan.has(i)) {
            return NONE;
        }
        switch (what) {
            case 0:
                return plan.isCopy(i) ? 1 : 0;
            case 1:
                return plan.place(i);
            case 2:
                return plan.length(i);
            case 3:
                return plan.source(i);
            case 4:
                return placer.wasPutAside(i) ? 1 : 0;
            case 5:
                return placer.turnOf(i);
            default:
                return NONE;
        }
    }

    public int apply() {
        return applier.run();
    }

    public int inPlace() {
        return placer.run();
    }

    public int check(int what) {
        Row row = rowNamed(what);
        return row == null ? 0 : row.digest();
    }

    private Row rowNamed(int what) {
        switch (what) {
            case FIRST:
                return first;
            case SECOND:
                return second;
            case PATCH:
                return patch;
            case OUTPUT:
                return output;
            case MEMORY:
                return memory;
            default:
                return null;
        }
    }

    /** Bytes (0 .. 255), as many as there is room for; its cells are made once and used again. */
    private static final class Row {
        private final int[] cells;
        private int count;

        Row(int most) {
            cells = new int[Math.max(most, 0)];
            count = 0;
        }

        int most() {
            return cells.length;
        }

        int count() {
            return count;
        }

        int at(int i) {
            return i >= 0 && i < count ? cells[i] : NONE;
        }

        void put(int i, int b) {
            if (i >= 0 && i < count) {
                cells[i] = b;
            }
        }

        void clear() {
            count = 0;
        }

        /** The bytes that a longer row gains are whatever lay there: its user writes them all. */
        void setCount(int n) {
            count = Math.max(0, Math.min(n, cells.length));
        }

        void add(int b) {
            if (count < cells.length) {
                cells[count] = b;
                count++;
            }
        }

        void addFrom(Row other, int start, int n) {
            int end = Math.min(n, other.count() - start);
            for (int k = 0; k < end; k++) {
                add(other.at(start + k));
            }
        }

        void become(Row other) {
            clear();
            addFrom(other, 0, other.count());
        }

        /** How many bytes from i on are the same as those of another row from j on. */
        int sameFrom(int i, Row other, int j) {
            if (i < 0 || j < 0) {
                return 0;
            }
            int most = Math.min(count - i, other.count - j);
            int same = 0;
            while (same < most && cells[i + same] == other.cells[j + same]) {
                same++;
            }
            return same;
        }

        void addVarint(int v) {
            int rest = v;
            for (int k = 1; k < VARINT_MOST && rest > 127; k++) {
                add((rest & 127) | 128);
                rest >>>= 7;
            }
            add(rest & 127);
        }

        void addWord(int word) {
            for (int k = CHECK_BYTES - 1; k >= 0; k--) {
                add((word >>> (8 * k)) & 255);
            }
        }

        int digest() {
            int s = 0;
            for (int i = 0; i < count && i < cells.length; i++) {
                int v = s ^ cells[i];
                s = ((v << 5) | (v >>> 27)) * CHECK_FACTOR;
            }
            return s;
        }
    }

    /**
     * The STEPS, with FIRST and SECOND as they were when these were made: take may change the
     * rows, and the STEPS must still be done as they were made.
     */
    private static final class Plan {
        private final Row base;
        private final Row goal;
        private final int[] places;
        private final int[] lengths;
        private final int[] sources;
        private int count;

        Plan() {
            base = new Row(ROW_MOST);
            goal = new Row(ROW_MOST);
            places = new int[STEPS_MOST];
            lengths = new int[STEPS_MOST];
            sources = new int[STEPS_MOST];
            count = 0;
        }

        Row base() {
            return base;
        }

        Row goal() {
            return goal;
        }

        int count() {
            return count;
        }

        boolean has(int i) {
            return i >= 0 && i < count;
        }

        boolean isCopy(int i) {
            return source(i) != NONE;
        }

        int place(int i) {
            return has(i) ? places[i] : NONE;
        }

        int length(int i) {
            return has(i) ? lengths[i] : NONE;
        }

        int source(int i) {
            return has(i) ? sources[i] : NONE;
        }

        /** Whether STEP i writes any byte that the COPY takes. */
        boolean writesWhereTakes(int i, int copy) {
            return has(i) && has(copy)
                && places[i] < sources[copy] + lengths[copy]
                && sources[copy] < places[i] + lengths[i];
        }

        void layOut(Row first, Row second) {
            base.become(first);
            goal.become(second);
            count = 0;
            int p = 0;
            for (int turn = 0; turn < STEPS_MOST && p < goal.count(); turn++) {
                int q = placeOfLongestRun(p);
                int run = goal.sameFrom(p, base, q);
                if (run >= COPY_LEAST) {
                    append(p, run, q);
                    p += run;
                } else {
                    addByte(p);
                    p++;
                }
            }
        }

        private int placeOfLongestRun(int p) {
            int longest = 0;
            int best = 0;
            // Nearer to the end than this no longer run has room.
            for (int q = 0; q < base.count() - longest; q++) {
                int run = goal.sameFrom(p, base, q);
                if (run > longest) {
                    longest = run;
                    best = q;
                }
            }
            return best;
        }

        private void addByte(int p) {
            int last = count - 1;
            if (has(last) && !isCopy(last) && length(last) < ADD_MOST) {
                lengths[last]++;
            } else {
                append(p, 1, NONE);
            }
        }

        private void append(int place, int length, int source) {
            if (count < STEPS_MOST) {
                places[count] = place;
                lengths[count] = length;
                sources[count] = source;
                count++;
            }
        }

        void writeTo(Row patch) {
            patch.clear();
            patch.addVarint(base.count());
            patch.addVarint(goal.count());
            patch.addWord(base.digest());
            patch.addWord(goal.digest());
            int behind = 0;
            for (int i = 0; i < count; i++) {
                if (isCopy(i)) {
                    patch.addVarint(2 * length(i) + 1);
                    patch.addVarint(withoutSign(source(i) - behind));
                    behind = source(i) + length(i);
                } else {
                    patch.addVarint(2 * length(i));
                    patch.addFrom(goal, place(i), length(i));
                }
            }
        }

        private static int withoutSign(int v) {
            return v < 0 ? -2 * v - 1 : 2 * v;
        }
    }

    /** Reads PATCH and makes OUTPUT out of FIRST; tells the first thing that is wrong. */
    private static final class Applier {
        private final Row patch;
        private final Row first;
        private final Row output;
        /** How far PATCH has been read. */
        private int at;
        /** The place in FIRST behind the COPY before. */
        private int behind;
        private int dueSize;
        private int dueCheck;

        Applier(Row patch, Row first, Row output) {
            this.patch = patch;
            this.first = first;
            this.output = output;
            at = 0;
            behind = 0;
            dueSize = 0;
            dueCheck = 0;
        }

        int run() {
            output.clear();
            at = 0;
            behind = 0;
            int told = readHead();
            if (told == FINE) {
                told = doAll();
            }
            if (told == FINE) {
                told = judgeResult();
            }
            if (told != FINE) {
                output.clear();
                return told;
            }
            return output.count();
        }

        private int readHead() {
            int baseSize = readVarint();
            if (baseSize == NONE) {
                return BAD_FORM;
            }
            dueSize = readVarint();
            if (dueSize == NONE || unread() < 2 * CHECK_BYTES) {
                return BAD_FORM;
            }
            int baseCheck = readWord();
            dueCheck = readWord();
            if (baseSize != first.count()) {
                return OTHER_SIZE;
            }
            if (baseCheck != first.digest()) {
                return OTHER_CHECK;
            }
            return dueSize > ROW_MOST ? TOO_LARGE : FINE;
        }

        private int doAll() {
            int told = FINE;
            // A STEP takes at least one byte of PATCH, so this many turns are enough.
            for (int turn = 0; turn < PATCH_MOST && told == FINE && unread() > 0; turn++) {
                told = doNext();
            }
            return told;
        }

        private int doNext() {
            int head = readVarint();
            if (head == NONE) {
                return BAD_FORM;
            }
            int length = head >>> 1;
            if (length == 0) {
                return BAD_FORM;
            }
            return (head & 1) == 0 ? doAdd(length) : doCopy(length);
        }

        private int doAdd(int length) {
            if (unread() < length) {
                return BAD_FORM;
            }
            if (length > dueSize - output.count()) {
                return TOO_MANY;
            }
            output.addFrom(patch, at, length);
            at += length;
            return FINE;
        }

        private int doCopy(int length) {
            int z = readVarint();
            if (z == NONE) {
                return BAD_FORM;
            }
            int q = behind + withSign(z);
            if (q < 0 || length > first.count() - q) {
                return COPY_OUTSIDE;
            }
            if (length > dueSize - output.count()) {
                return TOO_MANY;
            }
            output.addFrom(first, q, length);
            behind = q + length;
            return FINE;
        }

        private int judgeResult() {
            if (output.count() < dueSize) {
                return TOO_FEW;
            }
            return output.digest() == dueCheck ? FINE : WRONG_RESULT;
        }

        private int unread() {
            return patch.count() - at;
        }

        /** NONE if bytes are lacking, or there are more than four or more than are needed. */
        private int readVarint() {
            int value = 0;
            for (int k = 0; k < VARINT_MOST; k++) {
                int b = patch.at(at);
                if (b == NONE) {
                    return NONE;
                }
                at++;
                value |= (b & 127) << (7 * k);
                if (b < 128) {
                    return b == 0 && k > 0 ? NONE : value;
                }
            }
            return NONE;
        }

        private int readWord() {
            int word = 0;
            for (int k = 0; k < CHECK_BYTES; k++) {
                word = (word << 8) | (patch.at(at) & 255);
                at++;
            }
            return word;
        }

        private static int withSign(int z) {
            return (z & 1) == 0 ? z >>> 1 : -(z >>> 1) - 1;
        }
    }

    /** Does the STEPS in place, in MEMORY. */
    private static final class Placer {
        private final Plan plan;
        private final Row memory;
        /** Bytes taken and not yet written, each where it will lie in SECOND: STEPS never meet there. */
        private final Row hand;
        private final boolean[] aside;
        private final int[] turns;
        /** How many other COPIES still want bytes out of MEMORY that a STEP would write over. */
        private final int[] blockers;
        private int done;

        Placer(Plan plan, Row memory) {
            this.plan = plan;
            this.memory = memory;
            hand = new Row(ROW_MOST);
            aside = new boolean[STEPS_MOST];
            turns = new int[STEPS_MOST];
            blockers = new int[STEPS_MOST];
            done = 0;
        }

        boolean wasPutAside(int i) {
            return i >= 0 && i < STEPS_MOST && aside[i];
        }

        /** At which place of the ORDER a STEP was done; NONE while it is left. */
        int turnOf(int i) {
            return i >= 0 && i < STEPS_MOST ? turns[i] : NONE;
        }

        void forget() {
            done = 0;
            for (int i = 0; i < STEPS_MOST; i++) {
                aside[i] = false;
                turns[i] = NONE;
                blockers[i] = 0;
            }
        }

        int run() {
            forget();
            memory.become(plan.base());
            memory.setCount(Math.max(plan.base().count(), plan.goal().count()));
            hand.setCount(plan.goal().count());
            countBlockers();
            int bytesAside = 0;
            // A STEP is put aside at most once and done once.
            for (int turn = 0; turn < 2 * STEPS_MOST && done < plan.count(); turn++) {
                int next = nextFree();
                if (next != NONE) {
                    carryOut(next);
                } else {
                    bytesAside += putAside(fewestBytes());
                }
            }
            memory.setCount(plan.goal().count());
            return bytesAside;
        }

        private void countBlockers() {
            for (int i = 0; i < plan.count(); i++) {
                if (plan.isCopy(i)) {
                    changeBlockers(i, 1);
                }
            }
        }

        private void changeBlockers(int copy, int change) {
            for (int i = 0; i < plan.count() && i < STEPS_MOST; i++) {
                if (i != copy && plan.writesWhereTakes(i, copy)) {
                    blockers[i] += change;
                }
            }
        }

        private int nextFree() {
            for (int i = 0; i < plan.count() && i < STEPS_MOST; i++) {
                if (turns[i] == NONE && blockers[i] == 0) {
                    return i;
                }
            }
            return NONE;
        }

        private boolean wantsMemory(int i) {
            return plan.isCopy(i) && turnOf(i) == NONE && !wasPutAside(i);
        }

        private int fewestBytes() {
            int best = NONE;
            for (int i = 0; i < plan.count(); i++) {
                if (wantsMemory(i) && (best == NONE || plan.length(i) < plan.length(best))) {
                    best = i;
                }
            }
            return best;
        }

        private int putAside(int i) {
            if (i < 0 || i >= STEPS_MOST) {
                return 0;
            }
            takeOutOfMemory(i);
            aside[i] = true;
            return plan.length(i);
        }

        private void carryOut(int i) {
            if (i < 0 || i >= STEPS_MOST) {
                return;
            }
            if (wantsMemory(i)) {
                takeOutOfMemory(i);
            } else if (!plan.isCopy(i)) {
                move(plan.goal(), plan.place(i), hand, i);
            }
            move(hand, plan.place(i), memory, i);
            turns[i] = done;
            done++;
        }

        private void takeOutOfMemory(int i) {
            move(memory, plan.source(i), hand, i);
            changeBlockers(i, -1);
        }

        /** Brings the bytes of STEP i to its place, from a row in which they lie at start. */
        private void move(Row from, int start, Row to, int i) {
            int place = plan.place(i);
            int length = plan.length(i);
            for (int k = 0; k < length; k++) {
                to.put(place + k, from.at(start + k));
            }
        }
    }
}
