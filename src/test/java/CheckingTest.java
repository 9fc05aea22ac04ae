/** Checking: what is the same, which fault is first, where its place is, and what held tells. */
public final class CheckingTest extends Due {
    private static final String ALL_NOTHING = "-1 -1 -1 -1";
    private static final String NOT_COME = "-2 -2 -2 -2";

    /** Of each protocol events 0 and 1 lead from 0 to 1, 2 from 0 to 2, 3 from all states to 0; 0 and 1 are final. */
    private static StateTypes withStates() {
        StateTypes x = new StateTypes();
        for (int p = 0; p < 3; p++) {
            x.lead(p, 0, 0, 1);
            x.lead(p, 0, 1, 1);
            x.lead(p, 0, 2, 2);
            for (int s = 0; s < 5; s++) {
                x.lead(p, s, 3, 0);
            }
            x.mark(p, 0, true);
            x.mark(p, 1, true);
        }
        return x;
    }

    private static void dueFor(String program, int fault, int place) {
        StateTypes x = withStates();
        give(x, program);
        dueChecked(program, x, fault, place);
    }

    private static void neverChecked() {
        sentence("faultAt: -1 if there was none; held: -2 if there was no checking");
        StateTypes x = new StateTypes();
        due("new", toldOfChecking(x), toldOfNone(-1));
        give(x, "make 0 0, drop 1");
        due("given", toldOfChecking(x), toldOfNone(-1));
        run(x, 0, 0);
        due("run", toldOfChecking(x), toldOfNone(-1));
    }

    private static String toldOfNone(int place) {
        StringBuilder all = new StringBuilder("faultAt " + place);
        for (int i = 0; i < 40; i++) {
            all.append(" / ").append(NOT_COME);
        }
        return all.toString();
    }

    private static void accepted() {
        sentence("Without a fault it is ACCEPTED.");
        dueFor("", 0, -1);
        dueFor("make 0 0", 0, -1);
        dueFor("make 0 0, make 1 1, make 2 2, make 3 0", 0, -1);
        dueFor("make 0 0, call 0 0, move 0 1, drop 1", 0, -1);
        dueFor("if, end", 0, -1);
        dueFor("while, end", 0, -1);
        StateTypes x = withStates();
        give(x, "drop 0");
        dueChecked("a fault", x, 2, 0);
        x.clear();
        dueChecked("none after a fault", x, 0, -1);
    }

    private static void variablesHoldNothingAtFirst() {
        sentence("with what the variables hold (at first nothing)");
        for (int v = 0; v < 4; v++) {
            dueFor("call " + v + " 0", 2, 0);
            dueFor("drop " + v, 2, 0);
            dueFor("move " + v + " " + (v + 1) % 4, 2, 0);
            dueFor("make " + v + " 0", 0, -1);
        }
        StateTypes x = withStates();
        give(x, "make 0 0");
        dueChecked("first", x, 0, -1);
        dueHeld("first", x, 0, ALL_NOTHING);
        dueChecked("again", x, 0, -1);
        dueHeld("again", x, 0, ALL_NOTHING);
        run(x, 0, 0);
        dueChecked("after a run", x, 0, -1);
        dueHeld("after a run", x, 0, ALL_NOTHING);
    }

    private static void elseBlockFromTheSame() {
        sentence("IF: the then block is gone through from what is held before it, then the else block from the same");
        StateTypes x = withStates();
        give(x, "make 0 0, make 1 1, if, call 0 0, drop 1, make 2 2, else, drop 1, call 0 1, make 2 2, end, drop 2");
        dueChecked("it", x, 0, -1);
        dueHeld("then", x, 3, "0 8 -1 -1");
        dueHeld("else", x, 6, "0 8 -1 -1");
        dueHeld("behind", x, 9, "1 -1 16 -1");
        giveAlone(x, "make 0 0, if, drop 0, else, drop 0, end, make 0 1");
        dueChecked("dropped in both", x, 0, -1);
        giveAlone(x, "if, if, make 0 0, else, make 0 0, end, else, if, make 0 0, else, make 0 0, end, end, drop 0");
        dueChecked("in one another", x, 0, -1);
        dueHeld("outer else", x, 4, ALL_NOTHING);
        dueHeld("inner else of the outer else", x, 6, ALL_NOTHING);
        dueHeld("behind both", x, 7, "0 -1 -1 -1");
    }

    private static void blocksDiffer() {
        sentence("5 if the variables do not hold the same after both (nothing, or the same protocol and state)");
        dueFor("if, make 0 0, end", 5, 0);
        dueFor("if, else, make 0 0, end", 5, 0);
        dueFor("if, make 0 0, else, make 1 0, end", 5, 0);
        dueFor("if, make 0 0, else, make 0 1, end", 5, 0);
        dueFor("if, make 0 2, else, make 0 1, end", 5, 0);
        dueFor("make 0 0, if, call 0 0, end", 5, 1);
        dueFor("make 0 0, if, call 0 0, else, call 0 2, end", 5, 1);
        dueFor("make 0 0, if, drop 0, end", 5, 1);
        dueFor("make 0 0, if, move 0 3, end", 5, 1);
        for (int v = 0; v < 4; v++) {
            dueFor("if, else, make " + v + " 2, end", 5, 0);
            dueFor("if, make " + v + " 0, else, make " + v + " 0, end", 0, -1);
            dueFor("make " + v + " 2, if, call " + v + " 0, else, call " + v + " 1, end", 0, -1);
            dueFor("make " + v + " 2, if, call " + v + " 2, else, call " + v + " 1, end", 5, 1);
        }
        sentence("the same protocol and state, be it another object");
        dueFor("make 0 0, if, drop 0, make 0 0, end", 0, -1);
        dueFor("make 0 0, make 1 0, if, drop 0, move 1 0, make 1 0, end", 0, -1);
    }

    private static void loopChanges() {
        sentence("WHILE: the block is gone through; 6 if the variables do not hold the same after it as before it.");
        for (int v = 0; v < 4; v++) {
            dueFor("while, make " + v + " 0, end", 6, 0);
            dueFor("make " + v + " 2, while, drop " + v + ", end", 6, 1);
            dueFor("make " + v + " 2, while, call " + v + " 0, end", 6, 1);
            dueFor("make " + v + " 2, while, drop " + v + ", make " + v + " 1, end", 6, 1);
            dueFor("make " + v + " 2, while, move " + v + " " + (v + 3) % 4 + ", end", 6, 1);
            dueFor("make " + v + " 2, while, drop " + v + ", make " + v + " 2, end", 0, -1);
            dueFor("make " + v + " 2, while, call " + v + " 0, call " + v + " 3, end", 0, -1);
        }
        sentence("the block is gone through (once): a fault of a second time is 6");
        dueFor("make 0 0, while, call 0 0, end, drop 0", 6, 1);
        dueFor("make 0 0, while, drop 0, end", 6, 1);
        sentence("the block is gone through, though a run may do it never");
        dueFor("while, drop 0, end", 2, 1);
        dueFor("while, while, while, drop 0, end, end, end", 2, 3);
    }

    private static void whatGoesOn() {
        sentence("what is held before a WHILE, and after both blocks of an IF, goes on");
        StateTypes x = withStates();
        give(x, "make 0 0, while, call 0 0, call 0 3, end, call 0 2, if, call 0 3, else, call 0 3, end, drop 0");
        dueChecked("it", x, 0, -1);
        dueHeld("behind the WHILE", x, 4, "0 -1 -1 -1");
        dueHeld("behind the IF", x, 8, "0 -1 -1 -1");
        giveAlone(x, "if, make 1 2, else, make 1 2, end, while, drop 1, make 1 2, end, move 1 3");
        dueChecked("it", x, 0, -1);
        dueHeld("before the WHILE", x, 3, "-1 16 -1 -1");
        dueHeld("behind the WHILE", x, 6, "-1 16 -1 -1");
    }

    private static void atTheEnd() {
        sentence("At the end: 7 if a variable holds an object whose state is not final.");
        for (int v = 0; v < 4; v++) {
            for (int p = 0; p < 3; p++) {
                dueFor("make " + v + " " + p + ", call " + v + " 2", 7, 2);
                dueFor("make " + v + " " + p + ", call " + v + " 0", 0, -1);
            }
            dueFor("make 0 0, make 1 0, make 2 0, make 3 0, call " + v + " 2", 7, 5);
        }
        dueFor("if, make 0 0, call 0 2, else, make 0 0, call 0 2, end", 7, 5);
        sentence("7, at the end alone: not at the end of a block");
        dueFor("make 0 0, while, call 0 2, call 0 3, end, if, call 0 2, call 0 3, else, end", 0, -1);
        dueFor("make 0 0, call 0 2, while, end, if, end, call 0 3", 0, -1);
        sentence("for 7 the number of statements");
        StateTypes x = withStates();
        give(x, "make 0 0, call 0 2");
        for (int i = 2; i < 40; i++) {
            give(x, "while, end");
        }
        dueChecked("a full program", x, 7, 40);
        dueHeld("it came to the last", x, 39, "2 -1 -1 -1");
    }

    private static void firstFault() {
        sentence("The first fault that is met, in this order, ends the checking");
        dueFor("drop 0, drop 1", 2, 0);
        dueFor("make 0 0, make 0 0, call 1 0", 1, 1);
        dueFor("if, drop 0, else, call 0 1, end", 2, 1);
        dueFor("make 0 0, if, call 0 0, else, make 0 0, end", 1, 3);
        dueFor("if, make 0 0, make 0 0, end", 1, 2);
        dueFor("while, make 0 0, make 0 0, end", 1, 2);
        dueFor("while, make 0 0, end, drop 1", 6, 0);
        dueFor("if, make 0 0, end, drop 1", 5, 0);
        dueFor("while, if, make 0 0, end, end", 5, 1);
        dueFor("if, while, make 0 0, end, end", 6, 1);
        dueFor("if, if, make 0 0, end, end", 5, 1);
        dueFor("while, while, make 0 0, end, end", 6, 1);
        dueFor("if, make 0 0, else, while, make 0 0, end, end", 6, 2);
        dueFor("if, make 0 0, else, if, make 0 0, end, end", 5, 2);
        dueFor("make 0 0, call 0 2, if, make 1 0, end", 5, 2);
        dueFor("make 0 0, call 0 2, while, make 1 0, end", 6, 2);
        dueFor("make 0 0, call 0 2, drop 0", 4, 2);
        dueFor("make 0 0, call 0 2, call 0 2", 3, 2);
        sentence("its place is the statement's number, that of the IF or WHILE for 5 and 6");
        dueFor("while, end, if, end, if, make 0 0, else, while, end, end", 5, 2);
        dueFor("while, end, while, if, end, make 0 0, while, end, end", 6, 1);
        dueFor("if, while, if, end, end, else, make 0 0, end", 5, 0);
    }

    private static void placesAtTheLastStatement() {
        sentence("its place is the statement's number");
        String[] last = {"make 0 0", "call 1 0", "call 0 2", "move 1 2", "move 0 0", "drop 1"};
        int[] faults = {1, 2, 3, 2, 1, 2};
        for (int kind = 0; kind < last.length; kind++) {
            StateTypes x = withStates();
            give(x, "make 0 0, call 0 0");
            for (int i = 2; i < 39; i++) {
                give(x, "if, end");
            }
            give(x, last[kind]);
            dueChecked(last[kind] + " as the 40th", x, faults[kind], 39);
            dueHeld(last[kind], x, 39, "1 -1 -1 -1");
        }
    }

    private static void openBlocks() {
        sentence("A program with open blocks has fault 8, at the number of statements, and is not gone through.");
        for (String opened : new String[] {"if", "while", "if, else", "if, if, end", "while, drop 0, if, end, drop 0",
                "drop 0, if, make 0 0, else, make 0 0"}) {
            StateTypes x = withStates();
            give(x, "make 0 0, while, end");
            due("before", x.check(), 0);
            give(x, opened);
            int size = x.size();
            due(opened, x.check(), 8);
            due(opened, toldOfChecking(x), toldOfNone(size));
        }
        StateTypes x = withStates();
        give(x, "if, while, if, while, if, while");
        for (int open = 6; open > 0; open--) {
            dueChecked(open + " are open", x, 8, 6);
            give(x, "end");
        }
        dueChecked("all are ended", x, 0, -1);
        giveAlone(x, "while");
        dueChecked("one statement", x, 8, 1);
        fill(x, 40);
        dueChecked("a full program", x, 8, 40);
    }

    private static void heldWhereItCame() {
        sentence("What variable v held before statement i when the latest checking came to it");
        StateTypes x = withStates();
        give(x, "make 0 2, make 3 1, call 0 2, move 0 1, drop 3");
        dueChecked("straight", x, 7, 5);
        dueHeld("first", x, 0, ALL_NOTHING);
        dueHeld("second", x, 1, "16 -1 -1 -1");
        dueHeld("third", x, 2, "16 -1 -1 8");
        dueHeld("fourth", x, 3, "18 -1 -1 8");
        dueHeld("last", x, 4, "-1 18 -1 8");
        dueHeld("behind the last", x, 5, NOT_COME);
        x.lead(2, 0, 2, 4);
        dueHeld("protocols changed, as it was", x, 3, "18 -1 -1 8");
        due("a later checking", x.check(), 7);
        dueHeld("the latest", x, 3, "20 -1 -1 8");
        sentence("8 * protocol + state");
        for (int p = 0; p < 3; p++) {
            for (int s = 0; s < 5; s++) {
                StateTypes y = new StateTypes();
                y.lead(p, 0, 0, s);
                give(y, "make 2 " + p + ", call 2 0, drop 0");
                due("check", y.check(), 2);
                due("held", y.held(2, 2), 8 * p + s);
            }
        }
    }

    private static void heldWhereItDidNotCome() {
        sentence("-2 if it did not come to it");
        StateTypes x = withStates();
        give(x, "make 0 0, drop 1, drop 0");
        dueChecked("it", x, 2, 1);
        dueHeld("at the fault", x, 1, "0 -1 -1 -1");
        dueHeld("behind the fault", x, 2, NOT_COME);
        giveAlone(x, "if, drop 0, drop 1, else, make 0 0, end, make 1 1");
        dueChecked("a fault in then", x, 2, 1);
        dueHeld("rest of then", x, 2, NOT_COME);
        dueHeld("else", x, 3, NOT_COME);
        dueHeld("behind", x, 4, NOT_COME);
        giveAlone(x, "if, make 0 0, else, make 1 0, end, make 1 1");
        dueChecked("5", x, 5, 0);
        dueHeld("else", x, 2, ALL_NOTHING);
        dueHeld("behind the IF", x, 3, NOT_COME);
        giveAlone(x, "while, make 0 0, end, make 1 1");
        dueChecked("6", x, 6, 0);
        dueHeld("in the block", x, 1, ALL_NOTHING);
        dueHeld("behind the WHILE", x, 2, NOT_COME);
        sentence("-2 if it did not come to it: statements given later");
        giveAlone(x, "make 0 0");
        due("check", x.check(), 0);
        give(x, "drop 0");
        dueHeld("not there at the checking", x, 1, NOT_COME);
        sentence("-2 if the latest checking did not come to it, be it that an earlier one did");
        giveAlone(x, "make 0 0, make 1 1, make 2 2");
        due("check", x.check(), 0);
        dueHeld("then", x, 2, "0 8 -1 -1");
        giveAlone(x, "make 3 0");
        due("check", x.check(), 0);
        dueHeld("now", x, 0, ALL_NOTHING);
        dueHeld("now", x, 1, NOT_COME);
        dueHeld("now", x, 2, NOT_COME);
        x.clear();
        due("check", x.check(), 0);
        due("an empty program", toldOfChecking(x), toldOfNone(-1));
    }

    private static void acceptedNeverHasAFault() {
        sentence("A program that is accepted never makes a call that the object's protocol does not allow at that "
                + "moment, and leaves every object in a state in which it may be left.");
        for (String program : new String[] {"", "while, end, if, end",
                "make 0 0, while, call 0 0, if, call 0 3, else, drop 0, make 0 0, end, end, drop 0",
                "if, make 0 0, call 0 0, else, make 0 0, call 0 1, end, while, call 0 3, call 0 2, call 0 3, call 0 1, end",
                "make 3 2, while, while, move 3 0, if, call 0 2, call 0 3, end, move 0 3, end, if, drop 3, make 3 2, end, end",
                "if, while, make 0 0, drop 0, end, else, if, make 1 1, drop 1, else, while, end, end, end"}) {
            StateTypes x = withStates();
            give(x, program);
            dueChecked(program, x, 0, -1);
            for (int bits = 0; bits < 128; bits++) {
                due(program + ": run " + bits, run(x, bits, 7) >= 0, true);
                due(program + ": runFault", x.runFault(), 0);
            }
        }
    }

    private static void aRunIsNoChecking() {
        sentence("faultAt and held tell of the latest checking, not of a run");
        for (String later : new String[] {"make 2 2, drop 2, make 3 0, make 1 1", "make 3 2, if, else, drop 0, end"}) {
            StateTypes x = withStates();
            give(x, "make 0 0, drop 1");
            x.check();
            String told = toldOfChecking(x);
            giveAlone(x, later);
            run(x, 0, 0);
            due("after a run", toldOfChecking(x), told);
            x.check();
            due("after a checking", x.faultAt(), later.contains("if") ? 2 : -1);
        }
    }

    public static void main(String[] args) {
        neverChecked();
        accepted();
        variablesHoldNothingAtFirst();
        elseBlockFromTheSame();
        blocksDiffer();
        loopChanges();
        whatGoesOn();
        atTheEnd();
        firstFault();
        placesAtTheLastStatement();
        openBlocks();
        heldWhereItCame();
        heldWhereItDidNotCome();
        acceptedNeverHasAFault();
        aRunIsNoChecking();
        report();
    }
}
