import java.util.Arrays;

/**
 * Looks, before a small program runs, whether it uses its objects as their
 * protocols say, along all ways through branches and loops; and runs it.
 */
public final class StateTypes {
    private static final int PROTOCOLS = 3;
    private static final int STATES = 5;
    private static final int EVENTS = 4;
    private static final int VARIABLES = 4;
    private static final int MOST_STATEMENTS = 40;
    private static final int MOST_OPEN = 6;
    private static final int MOST_BITS = 32;

    // An object's number is 8 * protocol + state; these are all below OBJECTS.
    private static final int OBJECTS = 8 * PROTOCOLS;

    private static final int REFUSED = -1;
    private static final int NOWHERE = -1;
    private static final int NO_PLACE = -1;
    private static final int NOTHING = -1;
    private static final int NOT_TOLD = -2;

    private static final int NO_FAULT = 0;
    private static final int HOLDS_SOMETHING = 1;
    private static final int HOLDS_NOTHING = 2;
    private static final int LEADS_NOWHERE = 3;
    private static final int DROPPED_UNFINISHED = 4;
    private static final int BRANCHES_DIFFER = 5;
    private static final int LOOP_CHANGES = 6;
    private static final int LEFT_UNFINISHED = 7;
    private static final int OPEN_BLOCKS = 8;

    private static final int MAKE = 0;
    private static final int CALL = 1;
    private static final int MOVE = 2;
    private static final int DROP = 3;
    private static final int IF = 4;
    private static final int ELSE = 5;
    private static final int END_IF = 6;
    private static final int WHILE = 7;
    private static final int END_WHILE = 8;

    // An IF is followed by two marks (ELSE, END_IF), a WHILE by one.
    private static final int MOST_ENTRIES = 3 * MOST_STATEMENTS;
    // At most 32 bits are 1, so the program's entries are gone through at
    // most 33 times; this bound is far above that.
    private static final int MOST_TURNS = 1_000_000;

    // What all variables hold is one number, so that it is kept, set back and
    // compared at once: 5 bits a variable, the object's number (or NOTHING)
    // and 1. It is never negative.
    private static final int BITS_OF_VARIABLE = 5;
    private static final int MASK_OF_VARIABLE = 31;
    private static final int ALL_EMPTY = 0;
    private static final int NOT_COME = -1;

    private final Protocols protocols;
    private final Program program;
    private final Checking checking;
    private final Running running;

    public StateTypes() {
        protocols = new Protocols();
        program = new Program();
        checking = new Checking(program, protocols);
        running = new Running(program, protocols);
    }

    public boolean lead(int p, int s, int e, int t) {
        boolean there = isState(p, s) && isBelow(e, EVENTS)
                && (t == NOWHERE || isBelow(t, STATES));
        return there && protocols.setTarget(objectOf(p, s), e, t);
    }

    public boolean mark(int p, int s, boolean last) {
        return isState(p, s) && protocols.setFinal(objectOf(p, s), last);
    }

    public int make(int v, int p) {
        return isVariable(v) && isBelow(p, PROTOCOLS) ? program.addSimple(MAKE, v, p) : REFUSED;
    }

    public int call(int v, int e) {
        return isVariable(v) && isBelow(e, EVENTS) ? program.addSimple(CALL, v, e) : REFUSED;
    }

    public int move(int v, int w) {
        return isVariable(v) && isVariable(w) ? program.addSimple(MOVE, v, w) : REFUSED;
    }

    public int drop(int v) {
        return isVariable(v) ? program.addSimple(DROP, v, 0) : REFUSED;
    }

    public int choose() {
        return program.addOpening(IF);
    }

    public boolean otherwise() {
        return program.beginElse();
    }

    public int repeat() {
        return program.addOpening(WHILE);
    }

    public boolean end() {
        return program.endBlock();
    }

    public void clear() {
        program.removeAll();
    }

    public int size() {
        return program.statements;
    }

    public int check() {
        return checking.checkProgram();
    }

    public int faultAt() {
        return checking.place;
    }

    public int held(int i, int v) {
        int all = checking.heldBefore(i);
        return all == NOT_COME || !isVariable(v) ? NOT_TOLD : heldBy(all, v);
    }

    public int run(int bits, int n) throws IllegalArgumentException, IllegalStateException {
        if (n < 0 || n > MOST_BITS) {
            throw new IllegalArgumentException("the number of bits is not 0 to 32");
        }
        if (program.hasOpenBlocks()) {
            throw new IllegalArgumentException("the program has open blocks");
        }
        running.runProgram(bits, n);
        if (running.fault != NO_FAULT) {
            throw new IllegalStateException("the run has a fault");
        }
        return running.stepsDone;
    }

    public int runFault() {
        return running.fault;
    }

    public int runAt() {
        return running.place;
    }

    public int steps() {
        return running.stepsDone;
    }

    public int left(int v) {
        return isVariable(v) ? heldBy(running.all, v) : NOT_TOLD;
    }

    private static boolean isBelow(int x, int bound) {
        return x >= 0 && x < bound;
    }

    private static boolean isVariable(int v) {
        return isBelow(v, VARIABLES);
    }

    private static boolean isState(int p, int s) {
        return isBelow(p, PROTOCOLS) && isBelow(s, STATES);
    }

    private static int heldBy(int all, int v) {
        return ((all >>> (BITS_OF_VARIABLE * v)) & MASK_OF_VARIABLE) - 1;
    }

    private static int withHeld(int all, int v, int object) {
        int shift = BITS_OF_VARIABLE * v;
        return (all & ~(MASK_OF_VARIABLE << shift)) | ((object + 1) << shift);
    }

    private static int objectOf(int protocol, int state) {
        return 8 * protocol + state;
    }

    private static int protocolOf(int object) {
        return object >> 3;
    }

    /** Where the events lead, and which states are final; by the object's number. */
    private static final class Protocols {
        private final int[] targets;
        private final boolean[] finals;

        Protocols() {
            targets = new int[OBJECTS * EVENTS];
            finals = new boolean[OBJECTS];
            Arrays.fill(targets, NOWHERE);
        }

        boolean setTarget(int object, int e, int t) {
            boolean there = isBelow(object, OBJECTS) && isBelow(e, EVENTS);
            if (there) {
                targets[object * EVENTS + e] = t;
            }
            return there;
        }

        boolean setFinal(int object, boolean last) {
            boolean there = isBelow(object, OBJECTS);
            if (there) {
                finals[object] = last;
            }
            return there;
        }

        int targetOf(int object, int e) {
            return isBelow(object, OBJECTS) && isBelow(e, EVENTS)
                    ? targets[object * EVENTS + e] : NOWHERE;
        }

        boolean mayBeLeft(int object) {
            return isBelow(object, OBJECTS) && finals[object];
        }

        int faultOfLeaving(int all) {
            for (int v = 0; v < VARIABLES; v++) {
                int object = heldBy(all, v);
                if (object != NOTHING && !mayBeLeft(object)) {
                    return LEFT_UNFINISHED;
                }
            }
            return NO_FAULT;
        }
    }

    /**
     * The statements as a flat row of entries, in which marks tell where an
     * else block begins and where a block ends; a mark bears the number of
     * its IF or WHILE. The row is gone through without recursion.
     */
    private static final class Program {
        private final int[] kinds;
        private final int[] numbers;
        private final int[] firsts;
        private final int[] seconds;
        // Where a run goes on that does not go on at the next entry.
        private final int[] jumps;
        // The entries that began the open blocks: IF (its then block), ELSE or WHILE.
        private final int[] open;
        private int entries;
        private int statements;
        private int openBlocks;

        Program() {
            kinds = new int[MOST_ENTRIES];
            numbers = new int[MOST_ENTRIES];
            firsts = new int[MOST_ENTRIES];
            seconds = new int[MOST_ENTRIES];
            jumps = new int[MOST_ENTRIES];
            open = new int[MOST_OPEN];
        }

        void removeAll() {
            entries = 0;
            statements = 0;
            openBlocks = 0;
        }

        boolean hasOpenBlocks() {
            return openBlocks > 0;
        }

        boolean hasEntry(int at) {
            return isBelow(at, entries);
        }

        int addSimple(int kind, int first, int second) {
            if (statements >= MOST_STATEMENTS) {
                return REFUSED;
            }
            addEntry(kind, statements, first, second);
            return statements++;
        }

        int addOpening(int kind) {
            if (statements >= MOST_STATEMENTS || openBlocks >= MOST_OPEN) {
                return REFUSED;
            }
            open[openBlocks] = entries;
            openBlocks++;
            addEntry(kind, statements, 0, 0);
            return statements++;
        }

        boolean beginElse() {
            int begin = lastOpened();
            if (!hasEntry(begin) || kinds[begin] != IF) {
                return false;
            }
            open[openBlocks - 1] = entries;
            addEntry(ELSE, numbers[begin], 0, 0);
            jumps[begin] = entries;
            return true;
        }

        boolean endBlock() {
            // A then block that is ended at once leaves an empty else block.
            beginElse();
            int begin = lastOpened();
            if (!hasEntry(begin)) {
                return false;
            }
            int endMark = entries;
            addEntry(kinds[begin] == WHILE ? END_WHILE : END_IF, numbers[begin], 0, 0);
            jumps[begin] = entries;
            if (kinds[begin] == WHILE && hasEntry(endMark)) {
                jumps[endMark] = begin;
            }
            openBlocks--;
            return true;
        }

        /** The entry that began the last of the open blocks; -1 if none is open. */
        private int lastOpened() {
            return openBlocks > 0 ? open[openBlocks - 1] : -1;
        }

        private void addEntry(int kind, int number, int first, int second) {
            if (entries < MOST_ENTRIES) {
                kinds[entries] = kind;
                numbers[entries] = number;
                firsts[entries] = first;
                seconds[entries] = second;
                entries++;
            }
        }

        /**
         * What all variables hold after the MAKE, CALL, MOVE or DROP at this
         * entry; with a fault, the fault below zero.
         */
        int afterSimple(int at, int all, Protocols protocols) {
            if (!hasEntry(at)) {
                return all;
            }
            int v = firsts[at];
            int x = seconds[at];
            int object = heldBy(all, v);
            if (kinds[at] == MAKE) {
                return object != NOTHING ? -HOLDS_SOMETHING : withHeld(all, v, objectOf(x, 0));
            }
            if (object == NOTHING) {
                return -HOLDS_NOTHING;
            }
            if (kinds[at] == CALL) {
                int state = protocols.targetOf(object, x);
                return state == NOWHERE ? -LEADS_NOWHERE
                        : withHeld(all, v, objectOf(protocolOf(object), state));
            }
            if (kinds[at] == MOVE) {
                return heldBy(all, x) != NOTHING ? -HOLDS_SOMETHING
                        : withHeld(withHeld(all, v, NOTHING), x, object);
            }
            return protocols.mayBeLeft(object) ? withHeld(all, v, NOTHING) : -DROPPED_UNFINISHED;
        }
    }

    /** The latest checking: its fault's place, and what was held on the way. */
    private static final class Checking {
        private final Program program;
        private final Protocols protocols;
        private final int[] before;
        private final int[] afterThen;
        private int place;

        Checking(Program program, Protocols protocols) {
            this.program = program;
            this.protocols = protocols;
            before = new int[MOST_STATEMENTS];
            afterThen = new int[MOST_STATEMENTS];
            place = NO_PLACE;
            Arrays.fill(before, NOT_COME);
        }

        int heldBefore(int number) {
            return isBelow(number, MOST_STATEMENTS) ? before[number] : NOT_COME;
        }

        int checkProgram() {
            Arrays.fill(before, NOT_COME);
            place = program.statements;
            if (program.hasOpenBlocks()) {
                return OPEN_BLOCKS;
            }
            int all = ALL_EMPTY;
            for (int at = 0; at < program.entries; at++) {
                int next = afterEntry(at, all);
                if (next < 0) {
                    place = program.numbers[at];
                    return -next;
                }
                all = next;
            }
            int fault = protocols.faultOfLeaving(all);
            if (fault == NO_FAULT) {
                place = NO_PLACE;
            }
            return fault;
        }

        /** As afterSimple, for an entry of any kind. */
        private int afterEntry(int at, int all) {
            int number = program.hasEntry(at) ? program.numbers[at] : NO_PLACE;
            if (!isBelow(number, MOST_STATEMENTS)) {
                return all;
            }
            switch (program.kinds[at]) {
                case ELSE:
                    afterThen[number] = all;
                    return before[number];
                case END_IF:
                    return all == afterThen[number] ? all : -BRANCHES_DIFFER;
                case END_WHILE:
                    return all == before[number] ? all : -LOOP_CHANGES;
                case IF:
                case WHILE:
                    before[number] = all;
                    return all;
                default:
                    before[number] = all;
                    return program.afterSimple(at, all, protocols);
            }
        }
    }

    /** The latest run that was not refused for its bits or for open blocks. */
    private static final class Running {
        private final Program program;
        private final Protocols protocols;
        private int fault;
        private int place;
        private int stepsDone;
        private int all;
        private int bits;
        private int bitsLeft;

        Running(Program program, Protocols protocols) {
            this.program = program;
            this.protocols = protocols;
            fault = NO_FAULT;
            place = NO_PLACE;
            all = ALL_EMPTY;
        }

        void runProgram(int givenBits, int n) {
            fault = NO_FAULT;
            place = NO_PLACE;
            stepsDone = 0;
            all = ALL_EMPTY;
            bits = givenBits;
            bitsLeft = n;
            int at = 0;
            for (int turn = 0; turn < MOST_TURNS && program.hasEntry(at); turn++) {
                at = doEntry(at);
                if (fault != NO_FAULT) {
                    return;
                }
            }
            fault = protocols.faultOfLeaving(all);
            if (fault != NO_FAULT) {
                place = program.statements;
            }
        }

        /** Does the entry, and tells the one at which the run goes on. */
        private int doEntry(int at) {
            switch (program.kinds[at]) {
                case IF:
                case WHILE:
                    return takeBit() ? at + 1 : program.jumps[at];
                case ELSE:
                case END_WHILE:
                    return program.jumps[at];
                case END_IF:
                    return at + 1;
                default:
                    doSimple(at);
                    return at + 1;
            }
        }

        private void doSimple(int at) {
            int next = program.afterSimple(at, all, protocols);
            if (next < 0) {
                fault = -next;
                place = program.numbers[at];
            } else {
                all = next;
                stepsDone++;
            }
        }

        private boolean takeBit() {
            stepsDone++;
            if (bitsLeft <= 0) {
                return false;
            }
            boolean one = (bits & 1) == 1;
            bits >>>= 1;
            bitsLeft--;
            return one;
        }
    }
}
