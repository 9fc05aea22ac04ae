/** The rows of statements and their blocks, and what each single statement does. */
public final class StatementsTest extends Due {
    private static final String[] KINDS = {"make 3 2", "call 3 3", "move 3 0", "drop 3", "if", "while"};

    /** A call that gives the statement; its answer. */
    private static int given(StateTypes x, String kind) {
        switch (kind) {
            case "make 3 2":
                return x.make(3, 2);
            case "call 3 3":
                return x.call(3, 3);
            case "move 3 0":
                return x.move(3, 0);
            case "drop 3":
                return x.drop(3);
            case "if":
                return x.choose();
            default:
                return x.repeat();
        }
    }

    /** Without branches and loops a checking and a run meet the same. */
    private static void dueStraight(StateTypes x, String program, int fault, int place, int steps, String left) {
        giveAlone(x, program);
        dueChecked(program, x, fault, place);
        due(program + ": run", run(x, 0, 0), fault == 0 ? steps : STATE);
        dueRun(program, x, fault, place, steps);
        dueLeft(program, x, left);
    }

    private static void numbers() {
        sentence("STATEMENTS, numbered from 0 in the order in which they were given");
        StateTypes x = new StateTypes();
        for (int i = 0; i < 12; i++) {
            due(KINDS[i % 6], given(x, KINDS[i % 6]), i);
            due("size", x.size(), i + 1);
        }
        sentence("size: The number of statements.");
        x = new StateTypes();
        due("empty", x.size(), 0);
        give(x, "if");
        due("an IF", x.size(), 1);
        give(x, "else");
        due("an else block is no statement", x.size(), 1);
        give(x, "end");
        due("nor is an end", x.size(), 1);
        give(x, "while, end");
        due("a WHILE", x.size(), 2);
        x.check();
        run(x, 0, 0);
        due("checked and run", x.size(), 2);
        x.clear();
        due("cleared", x.size(), 0);
    }

    private static void atMostForty() {
        sentence("A PROGRAM is a row of at most 40 STATEMENTS");
        for (String kind : KINDS) {
            StateTypes x = new StateTypes();
            fill(x, 39);
            due("size before", x.size(), 39);
            due(kind + " as the 40th", given(x, kind), 39);
            due("size", x.size(), 40);
            for (String refused : KINDS) {
                due(refused + " as the 41st", given(x, refused), -1);
                due("size after it", x.size(), 40);
            }
            boolean opening = kind.equals("if") || kind.equals("while");
            due("end of the 40th", x.end(), opening);
            due("end again", x.end(), false);
            due("ended, the 41st", given(x, kind), -1);
            x.clear();
            due(kind + " as the first of a new row", given(x, kind), 0);
        }
    }

    private static void fortyOfOneKind() {
        sentence("A PROGRAM is a row of at most 40 STATEMENTS");
        for (String kind : KINDS) {
            StateTypes x = new StateTypes();
            for (int i = 0; i < 40; i++) {
                due(kind, given(x, kind), i);
                x.end();
            }
            due(kind + " as the 41st", given(x, kind), -1);
            due("nothing is open", x.end(), false);
        }
        StateTypes x = new StateTypes();
        for (int i = 0; i < 40; i++) {
            give(x, "if, else, end");
        }
        due("40 IFs with else blocks", x.choose(), -1);
        due("check", x.check(), 0);
        due("run of zeros", run(x, 0, 32), 40);
        due("run of ones", run(x, -1, 32), 40);
    }

    private static void fullWithOpenBlocks() {
        sentence("-1 if there are 40 statements or 6 open blocks");
        StateTypes x = new StateTypes();
        fill(x, 34);
        give(x, "if, while, if, while, if, while");
        due("both, choose", x.choose(), -1);
        due("both, repeat", x.repeat(), -1);
        give(x, "end");
        due("40 statements, 5 open, choose", x.choose(), -1);
        due("40 statements, 5 open, repeat", x.repeat(), -1);
        due("40 statements, otherwise", x.otherwise(), true);
        give(x, "end, end, end, end, end");
        due("none is open", x.end(), false);
        due("size", x.size(), 40);
    }

    private static void make() {
        sentence("MAKE v p: 1 if v holds something; v holds a new object of protocol p in state 0.");
        for (int p = 0; p < 3; p++) {
            for (int v = 0; v < 4; v++) {
                StateTypes x = withFinalStart();
                giveAlone(x, "make " + v + " " + p);
                due("run", run(x, 0, 0), 1);
                for (int other = 0; other < 4; other++) {
                    due("left " + other, x.left(other), other == v ? 8 * p : -1);
                }
            }
        }
        StateTypes x = withFinalStart();
        x.lead(1, 0, 0, 4);
        x.mark(1, 4, true);
        dueStraight(x, "make 2 1, make 2 1", 1, 1, 1, "-1 -1 8 -1");
        dueStraight(x, "make 2 1, make 2 0", 1, 1, 1, "-1 -1 8 -1");
        dueStraight(x, "make 2 1, make 1 1, make 3 1", 0, -1, 3, "-1 8 8 8");
        dueStraight(x, "make 2 1, call 2 0, drop 2, make 2 1", 0, -1, 4, "-1 -1 8 -1");
        dueStraight(x, "make 2 1, call 2 0, move 2 0, make 2 1", 0, -1, 4, "12 -1 8 -1");
    }

    private static void call() {
        sentence("CALL v e: 2 if v holds nothing; 3 if event e leads nowhere; else it has the state to which it leads.");
        StateTypes x = withFinalStart();
        x.lead(2, 0, 0, 0);
        x.lead(2, 0, 1, 4);
        x.lead(2, 4, 3, 1);
        x.mark(2, 4, true);
        x.mark(2, 1, true);
        dueStraight(x, "call 0 0", 2, 0, 0, "-1 -1 -1 -1");
        dueStraight(x, "call 3 3", 2, 0, 0, "-1 -1 -1 -1");
        dueStraight(x, "make 0 2, call 1 0", 2, 1, 1, "16 -1 -1 -1");
        dueStraight(x, "make 0 2, drop 0, call 0 0", 2, 2, 2, "-1 -1 -1 -1");
        dueStraight(x, "make 0 2, call 0 2", 3, 1, 1, "16 -1 -1 -1");
        dueStraight(x, "make 0 2, call 0 3", 3, 1, 1, "16 -1 -1 -1");
        dueStraight(x, "make 0 1, call 0 0", 3, 1, 1, "8 -1 -1 -1");
        dueStraight(x, "make 0 2, call 0 0", 0, -1, 2, "16 -1 -1 -1");
        dueStraight(x, "make 0 2, make 1 2, call 1 1", 0, -1, 3, "16 20 -1 -1");
        dueStraight(x, "make 3 2, call 3 1, call 3 3", 0, -1, 3, "-1 -1 -1 17");
        dueStraight(x, "make 3 2, call 3 1, call 3 1", 3, 2, 2, "-1 -1 -1 20");
    }

    private static void move() {
        sentence("MOVE v w: 2 if v holds nothing; 1 if w holds something; else w holds the object, and v nothing.");
        StateTypes x = withFinalStart();
        x.lead(1, 0, 2, 3);
        x.mark(1, 3, true);
        dueStraight(x, "move 0 1", 2, 0, 0, "-1 -1 -1 -1");
        dueStraight(x, "make 1 0, move 0 1", 2, 1, 1, "-1 0 -1 -1");
        dueStraight(x, "make 0 0, make 1 1, move 0 1", 1, 2, 2, "0 8 -1 -1");
        dueStraight(x, "make 0 1, call 0 2, move 0 3", 0, -1, 3, "-1 -1 -1 11");
        dueStraight(x, "make 0 1, call 0 2, move 0 3, move 3 0", 0, -1, 4, "11 -1 -1 -1");
        dueStraight(x, "make 0 1, move 0 3, move 0 2", 2, 2, 2, "-1 -1 -1 8");
        dueStraight(x, "make 0 1, move 0 3, make 0 2, move 0 3", 1, 3, 3, "16 -1 -1 8");
        sentence("1 if w holds something (so too if w is v)");
        for (int v = 0; v < 4; v++) {
            giveAlone(x, "make " + v + " 2, move " + v + " " + v);
            dueChecked("onto itself " + v, x, 1, 1);
            due("run", run(x, 0, 0), STATE);
            dueRun("onto itself " + v, x, 1, 1, 1);
            due("left", x.left(v), 16);
            giveAlone(x, "move " + v + " " + v);
            dueChecked("nothing onto itself " + v, x, 2, 0);
        }
    }

    private static void drop() {
        sentence("DROP v: 2 if v holds nothing; 4 if the object's state is not final; else v holds nothing.");
        StateTypes x = new StateTypes();
        x.lead(1, 0, 0, 4);
        x.mark(1, 4, true);
        x.mark(0, 0, true);
        dueStraight(x, "drop 3", 2, 0, 0, "-1 -1 -1 -1");
        dueStraight(x, "make 0 0, drop 1", 2, 1, 1, "0 -1 -1 -1");
        dueStraight(x, "make 3 1, drop 3", 4, 1, 1, "-1 -1 -1 8");
        dueStraight(x, "make 3 1, call 3 0, drop 3", 0, -1, 3, "-1 -1 -1 -1");
        dueStraight(x, "make 3 0, drop 3", 0, -1, 2, "-1 -1 -1 -1");
        dueStraight(x, "make 3 0, drop 3, drop 3", 2, 2, 2, "-1 -1 -1 -1");
        dueStraight(x, "make 2 0, make 3 0, drop 3", 0, -1, 3, "-1 -1 0 -1");
    }

    private static void emptyBlocks() {
        sentence("blocks are rows of statements, perhaps empty");
        StateTypes x = withFinalStart();
        giveAlone(x, "while, end");
        dueChecked("empty while", x, 0, -1);
        dueRan(x, 0, 1, 0, -1, 1);
        dueRan(x, 1, 1, 0, -1, 2);
        giveAlone(x, "if, else, end");
        dueChecked("both empty", x, 0, -1);
        dueRan(x, 0, 1, 0, -1, 1);
        dueRan(x, 1, 1, 0, -1, 1);
        giveAlone(x, "if, else, make 0 0, end");
        dueChecked("empty then", x, 5, 0);
        dueRan(x, 0, 1, 0, -1, 2);
        dueRan(x, 1, 1, 0, -1, 1);
        giveAlone(x, "if, make 0 0, else, end");
        dueChecked("empty else", x, 5, 0);
        dueRan(x, 0, 1, 0, -1, 1);
        dueRan(x, 1, 1, 0, -1, 2);
        giveAlone(x, "if, while, if, while, if, while, end, end, end, end, end, end");
        dueChecked("six in one another", x, 0, -1);
        dueRan(x, -1, 6, 0, -1, 9);
    }

    private static void inBlockOrInNone() {
        sentence("A statement stands in a block, or in none.");
        StateTypes x = withFinalStart();
        give(x, "make 0 0, if, make 1 1, if, make 2 2, else, make 3 2, end, drop 1, else, make 3 0, end, drop 0");
        dueRan(x, 0, 2, 0, -1, 4);
        dueLeft("outer else", x, "-1 -1 -1 0");
        dueRan(x, 1, 2, 0, -1, 7);
        dueLeft("inner else", x, "-1 -1 -1 16");
        dueRan(x, 3, 2, 0, -1, 7);
        dueLeft("inner then", x, "-1 -1 16 -1");
        giveAlone(x, "while, make 0 0, drop 0, end, make 0 1");
        dueRan(x, 0, 1, 0, -1, 2);
        dueLeft("behind the while", x, "8 -1 -1 -1");
        dueRan(x, 3, 2, 0, -1, 8);
    }

    private static void atMostSixOpen() {
        sentence("At most 6 blocks are OPEN at a time: those that were begun and not ended.");
        for (int mix = 0; mix < 64; mix++) {
            StateTypes x = new StateTypes();
            for (int i = 0; i < 6; i++) {
                boolean branch = (mix >> i & 1) == 1;
                due("the " + i + "th", branch ? x.choose() : x.repeat(), i);
            }
            due("choose as the 7th", x.choose(), -1);
            due("repeat as the 7th", x.repeat(), -1);
            due("size", x.size(), 6);
            due("a simple one is not refused", x.drop(0), 6);
            due("check", x.check(), 8);
            due("end", x.end(), true);
            due("the 6th again", x.choose(), 7);
            due("the 7th again", x.choose(), -1);
            for (int i = 5; i >= 0; i--) {
                due("end of " + i, x.end(), true);
            }
            due("none is open", x.end(), false);
        }
        StateTypes x = new StateTypes();
        give(x, "if, if, if, if, if, if, else");
        due("an else block is open in the then block's place", x.choose(), -1);
        give(x, "end, if, end, end, if");
        due("five open", x.repeat(), 8);
        due("six open", x.repeat(), -1);
        x.clear();
        give(x, "while, while, while, while, while, while");
        due("cleared, six open", x.repeat(), -1);
    }

    private static void otherwise() {
        sentence("otherwise: False if the block begun last of all open ones is no then block, or none is open.");
        StateTypes x = new StateTypes();
        due("none is open", x.otherwise(), false);
        give(x, "drop 0");
        due("none is open, one statement", x.otherwise(), false);
        give(x, "if");
        due("then", x.otherwise(), true);
        due("else", x.otherwise(), false);
        give(x, "end");
        due("ended", x.otherwise(), false);
        give(x, "while");
        due("while", x.otherwise(), false);
        give(x, "end, if, while");
        due("while in then", x.otherwise(), false);
        give(x, "end");
        due("then behind the while", x.otherwise(), true);
        give(x, "if");
        due("then in else", x.otherwise(), true);
        due("else in else", x.otherwise(), false);
        give(x, "end");
        due("outer else", x.otherwise(), false);
        give(x, "end, if, end");
        due("an IF that was ended without else", x.otherwise(), false);
        give(x, "if");
        x.clear();
        due("cleared", x.otherwise(), false);
    }

    private static void otherwiseBeginsElse() {
        sentence("The then block that was begun last of all open blocks is ended, and its IF's else block is begun.");
        StateTypes x = withFinalStart();
        give(x, "if, if, make 0 0, else, make 1 1, end, else, make 2 2, end");
        dueRan(x, 3, 2, 0, -1, 3);
        dueLeft("then, then", x, "0 -1 -1 -1");
        dueRan(x, 1, 2, 0, -1, 3);
        dueLeft("then, else", x, "-1 8 -1 -1");
        dueRan(x, 2, 2, 0, -1, 2);
        dueLeft("else", x, "-1 -1 16 -1");
        giveAlone(x, "if, make 0 0, else, if, make 1 1, else, make 2 2, end, end");
        dueRan(x, 1, 2, 0, -1, 2);
        dueLeft("then", x, "0 -1 -1 -1");
        dueRan(x, 2, 2, 0, -1, 3);
        dueLeft("else, then", x, "-1 8 -1 -1");
        dueRan(x, 0, 2, 0, -1, 3);
        dueLeft("else, else", x, "-1 -1 16 -1");
    }

    private static void end() {
        sentence("end: False if none is open.");
        StateTypes x = new StateTypes();
        due("new", x.end(), false);
        give(x, "drop 0");
        due("none is open, one statement", x.end(), false);
        give(x, "while, end");
        due("ended", x.end(), false);
        give(x, "if, end");
        due("an IF is ended once", x.end(), false);
        give(x, "if, else, end");
        due("an IF with else is ended once", x.end(), false);
        give(x, "if, while");
        x.clear();
        due("cleared", x.end(), false);
        sentence("Ends the block begun last of the open ones (an IF that has no else block then has an empty one).");
        x = withFinalStart();
        give(x, "if, while, end, make 0 0, end, make 1 0");
        dueRan(x, 0, 1, 0, -1, 2);
        dueLeft("the empty else block", x, "-1 0 -1 -1");
        dueRan(x, 1, 1, 0, -1, 4);
        dueLeft("the then block", x, "0 0 -1 -1");
        dueChecked("empty else", x, 5, 0);
        giveAlone(x, "make 0 0, if, drop 0, make 0 0, end, drop 0");
        dueChecked("the same as an empty else block", x, 0, -1);
    }

    private static void clear() {
        sentence("clear: The program is empty");
        StateTypes x = withFile();
        x.clear();
        due("an empty one", x.size(), 0);
        fill(x, 40);
        x.clear();
        due("a full one", x.size(), 0);
        dueChecked("it", x, 0, -1);
        due("run", run(x, -1, 32), 0);
        give(x, "if, while, if, else, while, if, while");
        x.clear();
        dueChecked("one with open blocks", x, 0, -1);
        due("run", run(x, -1, 32), 0);
        give(x, "if, if, if, if, if, if, end, end, end, end, end, end");
        due("40 are free again", x.size(), 6);
        fill(x, 40);
        due("the 41st", x.drop(0), -1);
        sentence("clear: protocols stay");
        x = withFile();
        StateTypes y = withFile();
        give(x, "make 0 0, call 0 0");
        x.clear();
        due("protocols", protocolsOf(x), protocolsOf(y));
        sentence("clear: what was told of the latest checking and run, stay");
        x = withFile();
        give(x, "make 3 0, call 3 0, call 3 1, call 3 3, drop 0");
        x.check();
        run(x, 0, 0);
        String checking = toldOfChecking(x);
        String ran = toldOfRun(x);
        x.clear();
        due("checking", toldOfChecking(x), checking);
        due("run", toldOfRun(x), ran);
        due("faultAt", x.faultAt(), 3);
        due("runAt", x.runAt(), 3);
        due("held", x.held(3, 3), 1);
        due("left", x.left(3), 1);
    }

    private static void at512Calls() {
        sentence("An object is used for at most 512 calls after it has been made");
        StateTypes x = withFinalStart();
        for (int round = 0; round < 12; round++) {
            x.clear();
            for (int i = 0; i < 40; i++) {
                due("round " + round, x.make(3, 2), i);
            }
        }
        for (int calls = 3 + 12 * 41; calls < 507; calls++) {
            due("full", x.choose(), -1);
        }
        due("call 508", x.check(), 1);
        due("call 509", x.faultAt(), 1);
        due("call 510", run(x, -1, 32), STATE);
        due("call 511", x.runAt(), 1);
        due("call 512", x.left(3), 16);
    }

    public static void main(String[] args) {
        numbers();
        atMostForty();
        fortyOfOneKind();
        fullWithOpenBlocks();
        make();
        call();
        move();
        drop();
        emptyBlocks();
        inBlockOrInNone();
        atMostSixOpen();
        otherwise();
        otherwiseBeginsElse();
        end();
        clear();
        at512Calls();
        report();
    }
}
