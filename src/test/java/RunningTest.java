/** Running: which bits are taken, what is a step, how a fault ends it, and what is told of the latest run. */
public final class RunningTest extends Due {
    private static final String ALL_NOTHING = "-1 -1 -1 -1";

    private static StateTypes with(String program) {
        StateTypes x = withFinalStart();
        give(x, program);
        return x;
    }

    private static void neverRun() {
        sentence("runFault: 0 if there was none; runAt: -1; steps: 0; left: -1 also if there was none");
        String none = "runFault 0 runAt -1 steps 0 left " + ALL_NOTHING;
        StateTypes x = new StateTypes();
        due("new", toldOfRun(x), none);
        give(x, "make 0 0, drop 0");
        due("given", toldOfRun(x), none);
        x.check();
        due("checked, with a fault", toldOfRun(x), none);
        run(x, 0, 33);
        due("refused for its bits", toldOfRun(x), none);
        give(x, "if");
        run(x, 0, 0);
        due("refused for an open block", toldOfRun(x), none);
        x.clear();
        due("cleared", toldOfRun(x), none);
    }

    private static void bitsOfIf() {
        sentence("IF does its then block for 1, else its else block");
        StateTypes x = with("if, make 0 0, else, make 1 1, end");
        dueRan(x, 1, 1, 0, -1, 2);
        dueLeft("then", x, "0 -1 -1 -1");
        dueRan(x, 0, 1, 0, -1, 2);
        dueLeft("else", x, "-1 8 -1 -1");
        sentence("IF takes the next one, once");
        x = with("if, make 0 0, end, if, make 1 1, end, if, make 2 2, end");
        for (int bits = 0; bits < 8; bits++) {
            dueRan(x, bits, 3, 0, -1, 3 + Integer.bitCount(bits));
            String want = ((bits & 1) == 1 ? "0 " : "-1 ") + ((bits & 2) == 2 ? "8 " : "-1 ")
                    + ((bits & 4) == 4 ? "16 -1" : "-1 -1");
            dueLeft("bits " + bits, x, want);
        }
    }

    private static void bitsOfWhile() {
        sentence("WHILE does its block for 1 and takes the next bit, till it is 0.");
        StateTypes x = with("while, make 0 0, drop 0, end");
        for (int turns = 0; turns < 32; turns++) {
            dueRan(x, (1 << turns) - 1, 32, 0, -1, 3 * turns + 1);
            dueRan(x, (1 << turns) - 1, turns, 0, -1, 3 * turns + 1);
        }
        dueRan(x, -1, 32, 0, -1, 97);
        dueRan(x, 0b10, 32, 0, -1, 1);
        x = with("while, end, if, make 0 0, end");
        dueRan(x, 0b101, 3, 0, -1, 4);
        dueLeft("the IF takes the bit behind the WHILE's 0", x, "0 -1 -1 -1");
        dueRan(x, 0b011, 3, 0, -1, 4);
        dueLeft("used up for the IF", x, ALL_NOTHING);
        x = with("while, while, make 0 0, drop 0, end, end");
        dueRan(x, 0, 32, 0, -1, 1);
        dueRan(x, 0b1, 32, 0, -1, 3);
        dueRan(x, 0b11, 32, 0, -1, 6);
        dueRan(x, 0b1011, 32, 0, -1, 8);
        dueRan(x, 0b1101, 32, 0, -1, 8);
        dueRan(x, 0b11111, 32, 0, -1, 15);
        dueRan(x, 0b01010101, 32, 0, -1, 9);
        dueRan(x, -1, 32, 0, -1, 1 + 31 * 3 + 2);
    }

    private static void bitsInOneAnother() {
        sentence("IF and, each time, WHILE take the next one");
        StateTypes x = with("while, if, make 0 0, drop 0, else, while, make 1 1, drop 1, end, end, end, if, make 2 2, end");
        dueRan(x, 0, 32, 0, -1, 2);
        dueRan(x, 0b11, 32, 0, -1, 6);
        dueRan(x, 0b1001, 32, 0, -1, 8);
        dueLeft("while 1, if 0, while 0, while 1, if 0, while 0, while 0, if 0", x, ALL_NOTHING);
        dueRan(x, 0b10001, 32, 0, -1, 6);
        dueLeft("while 1, if 0, while 0, while 0, if 1", x, "-1 -1 16 -1");
        dueRan(x, 0b1011, 32, 0, -1, 7);
        dueLeft("while 1, if 1, while 0, if 1", x, "-1 -1 16 -1");
        dueRan(x, 0b10101, 32, 0, -1, 11);
        dueLeft("while 1, if 0, while 1, while 0, while 1, if 0, while 0, while 0, if 0", x, ALL_NOTHING);
    }

    private static void bitsThatAreUsedUp() {
        sentence("0 when they are used up");
        StateTypes x = with("if, make 0 0, else, make 1 1, end, if, make 2 2, end");
        dueRan(x, -1, 0, 0, -1, 3);
        dueLeft("no bits", x, "-1 8 -1 -1");
        dueRan(x, -1, 1, 0, -1, 3);
        dueLeft("one bit", x, "0 -1 -1 -1");
        dueRan(x, -1, 2, 0, -1, 4);
        dueLeft("two bits", x, "0 -1 16 -1");
        dueRan(x, -1, 3, 0, -1, 4);
        dueRan(x, -2, 1, 0, -1, 3);
        dueLeft("one bit, 0", x, "-1 8 -1 -1");
        dueRan(x, Integer.MIN_VALUE, 2, 0, -1, 3);
        dueLeft("two bits, 0", x, "-1 8 -1 -1");
        x = new StateTypes();
        for (int i = 0; i < 40; i++) {
            give(x, "while, end");
        }
        for (int n = 0; n <= 32; n++) {
            dueRan(x, -1, n, 0, -1, 40 + n);
        }
    }

    private static void lowestFirst() {
        sentence("Runs the program with the n bits of bits, the lowest first");
        StringBuilder ifs = new StringBuilder();
        for (int i = 0; i < 33; i++) {
            ifs.append("if, ").append(i == 31 ? "make 0 0, " : i == 32 ? "make 1 1, " : i == 0 ? "make 2 2, " : "").append("end, ");
        }
        StateTypes x = with(ifs.toString());
        dueRan(x, 1, 32, 0, -1, 34);
        dueLeft("bit 0", x, "-1 -1 16 -1");
        dueRan(x, Integer.MIN_VALUE, 32, 0, -1, 34);
        dueLeft("bit 31", x, "0 -1 -1 -1");
        dueRan(x, Integer.MIN_VALUE, 31, 0, -1, 33);
        dueLeft("bit 31 is none of 31", x, ALL_NOTHING);
        dueRan(x, Integer.MAX_VALUE, 32, 0, -1, 34);
        dueLeft("all but bit 31", x, "-1 -1 16 -1");
        dueRan(x, -1, 32, 0, -1, 35);
        dueLeft("all 32, and no 33rd", x, "0 -1 16 -1");
        dueRan(x, -2, 32, 0, -1, 34);
        dueLeft("all but bit 0", x, "0 -1 -1 -1");
    }

    private static void variablesHoldNothingAtFirst() {
        sentence("All variables hold nothing at first.");
        StateTypes x = with("make 0 0, make 1 1, make 2 2, make 3 0");
        dueRan(x, 0, 0, 0, -1, 4);
        dueRan(x, 0, 0, 0, -1, 4);
        dueLeft("again", x, "0 8 16 0");
        x.clear();
        dueRan(x, 0, 0, 0, -1, 0);
        dueLeft("an empty program", x, ALL_NOTHING);
        for (int v = 0; v < 4; v++) {
            giveAlone(x, "make 0 0, make 1 1, make 2 2, make 3 0");
            run(x, 0, 0);
            giveAlone(x, "drop " + v);
            dueRan(x, 0, 0, 2, 0, 0);
            dueLeft("nothing of the run before", x, ALL_NOTHING);
        }
    }

    private static void faultsEndIt() {
        sentence("Faults are 1 to 4, and 7 at the end, and end the run.");
        StateTypes x = withFinalStart();
        x.lead(0, 0, 0, 1);
        giveAlone(x, "make 0 0, make 0 1, make 1 0");
        dueRan(x, 0, 0, 1, 1, 1);
        dueLeft("1 of MAKE", x, "0 -1 -1 -1");
        giveAlone(x, "make 0 0, make 1 1, move 0 1, make 2 0");
        dueRan(x, 0, 0, 1, 2, 2);
        dueLeft("1 of MOVE", x, "0 8 -1 -1");
        giveAlone(x, "make 0 0, call 1 0, make 2 0");
        dueRan(x, 0, 0, 2, 1, 1);
        dueLeft("2 of CALL", x, "0 -1 -1 -1");
        giveAlone(x, "make 0 0, move 2 1, make 2 0");
        dueRan(x, 0, 0, 2, 1, 1);
        giveAlone(x, "make 0 0, drop 1, make 2 0");
        dueRan(x, 0, 0, 2, 1, 1);
        giveAlone(x, "make 0 0, call 0 0, call 0 0, make 2 0");
        dueRan(x, 0, 0, 3, 2, 2);
        dueLeft("3", x, "1 -1 -1 -1");
        giveAlone(x, "make 0 0, call 0 0, drop 0, make 2 0");
        dueRan(x, 0, 0, 4, 2, 2);
        dueLeft("4", x, "1 -1 -1 -1");
        giveAlone(x, "make 0 0, call 0 0, make 2 0");
        dueRan(x, 0, 0, 7, 3, 3);
        dueLeft("7", x, "1 -1 0 -1");
        sentence("7 at the end: its place is the number of statements");
        for (int v = 0; v < 4; v++) {
            giveAlone(x, "make " + v + " 0, call " + v + " 0, if, drop 3, end, while, drop 3, end");
            dueRan(x, 0, 0, 7, 6, 4);
        }
    }

    private static void noFaultsOfCheckingAlone() {
        sentence("Faults are 1 to 4, and 7: a run has not 5, 6 or 8");
        StateTypes x = with("if, make 0 0, end");
        due("check", x.check(), 5);
        dueRan(x, 0, 1, 0, -1, 1);
        dueRan(x, 1, 1, 0, -1, 2);
        x = with("while, make 0 0, end");
        due("check", x.check(), 6);
        dueRan(x, 0, 1, 0, -1, 1);
        dueRan(x, 1, 1, 0, -1, 3);
        dueRan(x, 3, 2, 1, 1, 3);
        sentence("a fault on a way that is not gone is none of the run");
        x = with("if, drop 0, else, make 0 0, end, while, make 0 0, end");
        due("check", x.check(), 2);
        dueRan(x, 0, 1, 0, -1, 3);
        dueRan(x, 1, 1, 2, 1, 1);
        dueRan(x, 2, 2, 1, 4, 3);
    }

    private static void faultsInBlocks() {
        sentence("its place, as told for checking: the statement's number");
        StateTypes x = with("make 0 0, while, if, move 0 1, else, move 1 0, end, end");
        dueRan(x, 0b0, 1, 0, -1, 2);
        dueRan(x, 0b11, 2, 0, -1, 5);
        dueLeft("moved", x, "-1 0 -1 -1");
        dueRan(x, 0b111, 4, 0, -1, 8);
        dueLeft("and back", x, "0 -1 -1 -1");
        dueRan(x, 0b1111, 4, 2, 3, 6);
        dueLeft("moved again, from nothing", x, "-1 0 -1 -1");
        dueRan(x, 0b1, 2, 2, 4, 3);
        dueLeft("back, from nothing", x, "0 -1 -1 -1");
    }

    private static void steps() {
        sentence("A STEP is each MAKE, CALL, MOVE and DROP that was done");
        StateTypes x = withFinalStart();
        x.lead(0, 0, 0, 0);
        String[] row = {"make 0 0", "call 0 0", "move 0 1", "drop 1"};
        for (int i = 0; i < 4; i++) {
            give(x, row[i]);
            dueRan(x, 0, 0, 0, -1, i + 1);
        }
        sentence("A STEP is .. that was done: with a fault the statement does nothing");
        giveAlone(x, "drop 0");
        dueRan(x, 0, 0, 2, 0, 0);
        giveAlone(x, "make 0 0, make 0 0");
        dueRan(x, 0, 0, 1, 1, 1);
        sentence("A STEP is .. each bit taken, also those that are used up");
        giveAlone(x, "if, end");
        dueRan(x, 0, 1, 0, -1, 1);
        dueRan(x, 1, 1, 0, -1, 1);
        dueRan(x, 0, 0, 0, -1, 1);
        giveAlone(x, "while, end");
        dueRan(x, 0, 1, 0, -1, 1);
        dueRan(x, 1, 1, 0, -1, 2);
        dueRan(x, 1, 2, 0, -1, 2);
        dueRan(x, 0, 0, 0, -1, 1);
        sentence("bits that are not taken are no steps");
        x.clear();
        dueRan(x, -1, 32, 0, -1, 0);
        giveAlone(x, "drop 0, if, end");
        dueRan(x, -1, 32, 2, 0, 0);
        giveAlone(x, "if, drop 0, end, if, end");
        dueRan(x, -1, 32, 2, 1, 1);
    }

    private static void mostSteps() {
        sentence("run: how many steps, in the largest programs");
        StateTypes x = withFinalStart();
        give(x, "while");
        for (int i = 1; i < 39; i += 2) {
            give(x, "make 0 0, drop 0");
        }
        give(x, "make 0 0, end");
        dueRan(x, 1, 1, 0, -1, 41);
        dueRan(x, 3, 2, 1, 1, 41);
        giveAlone(x, "make 0 0, while");
        x.lead(0, 0, 0, 0);
        for (int i = 2; i < 40; i++) {
            give(x, "call 0 0");
        }
        give(x, "end");
        dueRan(x, -1, 32, 0, -1, 1 + 32 * 39 + 1);
        giveAlone(x, "make 0 0, while, while, while, while, while, while");
        for (int i = 7; i < 40; i++) {
            give(x, "call 0 0");
        }
        give(x, "end, end, end, end, end, end");
        dueRan(x, -1, 32, 0, -1, 1 + 5 + 27 * 34 + 6);
    }

    private static void latestRun() {
        sentence("The fault of the latest run that was not refused by IllegalArgumentException");
        StateTypes x = withFinalStart();
        give(x, "make 3 2, drop 0");
        dueRan(x, 0, 0, 2, 1, 1);
        String told = toldOfRun(x);
        due("told", told, "runFault 2 runAt 1 steps 1 left -1 -1 -1 16");
        for (int n : new int[] {-1, 33, Integer.MIN_VALUE, Integer.MAX_VALUE}) {
            due("n " + n, run(x, 0, n), ARGUMENT);
            due("after n " + n, toldOfRun(x), told);
        }
        giveAlone(x, "make 0 0, while");
        due("open", run(x, 0, 0), ARGUMENT);
        due("after it", toldOfRun(x), told);
        x.check();
        due("after a checking", toldOfRun(x), told);
        give(x, "end");
        x.check();
        due("after a checking that accepts", toldOfRun(x), told);
        due("ended", run(x, 0, 0), 2);
        due("a later run", toldOfRun(x), "runFault 0 runAt -1 steps 2 left 0 -1 -1 -1");
        giveAlone(x, "drop 1");
        due("a fault again", run(x, 0, 0), STATE);
        due("the latest", toldOfRun(x), "runFault 2 runAt 0 steps 0 left " + ALL_NOTHING);
    }

    private static void refusedOrNot() {
        sentence("IllegalArgumentException if n is not 0 .. 32 or blocks are open; IllegalStateException if it has a fault.");
        StateTypes x = with("drop 0");
        due("a fault and n -1", run(x, 0, -1), ARGUMENT);
        due("a fault and n 33", run(x, 0, 33), ARGUMENT);
        due("a fault", run(x, 0, 32), STATE);
        for (String open : new String[] {"if", "while", "if, else", "while, if, end"}) {
            giveAlone(x, open);
            due(open, run(x, 0, 0), ARGUMENT);
            due(open + ", n 33", run(x, 0, 33), ARGUMENT);
            give(x, "drop 0");
            due(open + ", drop 0", run(x, 0, 32), ARGUMENT);
            give(x, "end");
            due(open + ", ended", run(x, 0, 32), open.equals("if, else") ? STATE : 1);
        }
        sentence("IllegalStateException if it (the run) has a fault, not if a checking has one");
        x = with("if, drop 0, end");
        due("check", x.check(), 2);
        due("a way without a fault", run(x, 0, 1), 1);
        due("a way with a fault", run(x, 1, 1), STATE);
        due("again the way without", run(x, 0, 1), 1);
        x = with("make 0 0");
        due("check", x.check(), 0);
        x.mark(0, 0, false);
        due("accepted before, not final now", run(x, 0, 0), STATE);
    }

    private static void leftAfterIt() {
        sentence("What variable v holds after that run, as in held: 8 * protocol + state, -1 nothing");
        for (int p = 0; p < 3; p++) {
            for (int s = 0; s < 5; s++) {
                for (int v = 0; v < 4; v++) {
                    StateTypes x = new StateTypes();
                    x.lead(p, 0, 1, s);
                    x.mark(p, s, s % 2 == 0);
                    give(x, "make " + v + " " + p + ", call " + v + " 1");
                    dueRan(x, 0, 0, s % 2 == 0 ? 0 : 7, s % 2 == 0 ? -1 : 2, 2);
                    for (int other = 0; other < 4; other++) {
                        due("left", x.left(other), other == v ? 8 * p + s : -1);
                    }
                    x.lead(p, 0, 1, -1);
                    x.mark(p, s, s % 2 == 1);
                    due("protocols changed, as it was", x.left(v), 8 * p + s);
                }
            }
        }
    }

    public static void main(String[] args) {
        neverRun();
        bitsOfIf();
        bitsOfWhile();
        bitsInOneAnother();
        bitsThatAreUsedUp();
        lowestFirst();
        variablesHoldNothingAtFirst();
        faultsEndIt();
        noFaultsOfCheckingAlone();
        faultsInBlocks();
        steps();
        mostSteps();
        latestRun();
        refusedOrNot();
        leftAfterIt();
        report();
    }
}
