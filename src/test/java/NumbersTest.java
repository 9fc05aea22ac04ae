/** Which protocols, states, events, variables and statements are there: the last that is, the first that is not. */
public final class NumbersTest extends Due {
    private static final String NOTHING_LED = "---- n, ";

    /** What protocolsOf answers if all is as at first but for the words at one place of the row of states. */
    private static String allButOne(int p, int s, String words) {
        StringBuilder all = new StringBuilder();
        for (int at = 0; at < 15; at++) {
            all.append(at == 5 * p + s ? words : NOTHING_LED);
        }
        return all.toString();
    }

    private static void atFirst() {
        sentence("At first all events lead nowhere, and no state is final.");
        due("protocols", protocolsOf(new StateTypes()), allButOne(-1, -1, ""));
        for (int p = 0; p < 3; p++) {
            for (int e = 0; e < 4; e++) {
                StateTypes x = new StateTypes();
                give(x, "make 0 " + p + ", call 0 " + e);
                dueChecked("event " + e + " of " + p, x, 3, 1);
                dueRan(x, 0, 0, 3, 1, 1);
            }
            StateTypes x = new StateTypes();
            give(x, "make 0 " + p + ", drop 0");
            dueChecked("drop of " + p, x, 4, 1);
            giveAlone(x, "make 0 " + p);
            dueChecked("left of " + p, x, 7, 1);
        }
    }

    private static void leadSetsThatOneAlone() {
        sentence("Event e of protocol p leads from state s to state t");
        for (int p = 0; p < 3; p++) {
            for (int s = 0; s < 5; s++) {
                for (int e = 0; e < 4; e++) {
                    for (int t = 0; t < 5; t++) {
                        StateTypes x = new StateTypes();
                        due("lead", x.lead(p, s, e, t), true);
                        String want = "---".substring(0, e) + t + "---".substring(e) + " n, ";
                        due("protocols", protocolsOf(x), allButOne(p, s, want));
                    }
                }
            }
        }
    }

    private static void leadAgain() {
        sentence("Event e of protocol p leads from state s to state t, or nowhere for t = -1.");
        StateTypes x = new StateTypes();
        due("first", x.lead(2, 4, 3, 0), true);
        due("again", x.lead(2, 4, 3, 4), true);
        due("protocols", protocolsOf(x), allButOne(2, 4, "---4 n, "));
        x = new StateTypes();
        due("led", x.lead(0, 1, 0, 2), true);
        due("to nowhere", x.lead(0, 1, 0, -1), true);
        due("protocols", protocolsOf(x), allButOne(-1, -1, ""));
        due("to nowhere from what leads nowhere", new StateTypes().lead(2, 4, 3, -1), true);
    }

    private static void markSetsThatOneAlone() {
        sentence("State s of protocol p is final or not.");
        for (int p = 0; p < 3; p++) {
            for (int s = 0; s < 5; s++) {
                StateTypes x = new StateTypes();
                due("mark", x.mark(p, s, true), true);
                due("protocols", protocolsOf(x), allButOne(p, s, "---- f, "));
                x = new StateTypes();
                due("mark", x.mark(p, s, true), true);
                due("mark again", x.mark(p, s, true), true);
                due("unmark", x.mark(p, s, false), true);
                due("protocols", protocolsOf(x), allButOne(-1, -1, ""));
                due("unmark again", x.mark(p, s, false), true);
            }
        }
    }

    private static void notThereForLead() {
        sentence("lead: False if one of them is not there.");
        StateTypes ofP = new StateTypes();
        StateTypes ofE = new StateTypes();
        for (int w : notBelow(3)) {
            due("lead p " + w, ofP.lead(w, 0, 0, 0), false);
        }
        for (int w : notBelow(4)) {
            due("lead e " + w, ofE.lead(0, 0, w, 0), false);
        }
        StateTypes ofS = new StateTypes();
        StateTypes ofT = new StateTypes();
        for (int w : notBelow(5)) {
            due("lead s " + w, ofS.lead(0, w, 0, 0), false);
            if (w != -1) {
                due("lead t " + w, ofT.lead(0, 0, 0, w), false);
            }
        }
        StateTypes x = new StateTypes();
        due("lead p, to nowhere", x.lead(3, 0, 0, -1), false);
        due("lead s, to nowhere", x.lead(0, 5, 0, -1), false);
        due("lead e, to nowhere", x.lead(0, 0, 4, -1), false);
        due("lead, from -1", x.lead(0, -1, 0, 0), false);
        due("lead, none is there", x.lead(3, 5, 4, 5), false);
        for (StateTypes any : new StateTypes[] {ofP, ofS, ofE, ofT, x}) {
            due("protocols", protocolsOf(any), allButOne(-1, -1, ""));
        }
    }

    private static void notThereForMark() {
        sentence("mark: False if there is no such protocol or state.");
        StateTypes ofP = new StateTypes();
        for (int w : notBelow(3)) {
            due("mark p " + w, ofP.mark(w, 0, true), false);
        }
        StateTypes ofS = new StateTypes();
        for (int w : notBelow(5)) {
            due("mark s " + w, ofS.mark(0, w, true), false);
        }
        for (StateTypes any : new StateTypes[] {ofP, ofS}) {
            due("protocols", protocolsOf(any), allButOne(-1, -1, ""));
        }
        StateTypes x = withFinalStart();
        due("unmark p 3", x.mark(3, 0, false), false);
        due("unmark s -1", x.mark(0, -1, false), false);
        due("unmark s 5", x.mark(0, 5, false), false);
        due("unmark s 8", x.mark(0, 8, false), false);
        give(x, "make 0 0, make 1 1, make 2 2");
        dueChecked("still final", x, 0, -1);
    }

    private static void thereForStatements() {
        sentence("VARIABLES are 0 .. 3");
        for (int v = 0; v < 4; v++) {
            for (int w = 0; w < 4; w++) {
                StateTypes x = withFinalStart();
                x.lead(2, 0, 3, 4);
                due("make", x.make(v, 2), 0);
                due("call", x.call(v, 3), 1);
                due("move", x.move(v, w), 2);
                due("drop", x.drop(w), 3);
                dueChecked("of " + v + " to " + w, x, v == w ? 1 : 4, v == w ? 2 : 3);
                due("held before", x.held(2, v), 20);
                due("held after", x.held(3, w), v == w ? -2 : 20);
            }
        }
    }

    private static void notThereForMake() {
        sentence("make: -1 if there is no such variable or protocol");
        StateTypes x = new StateTypes();
        for (int w : notBelow(4)) {
            due("make v " + w, x.make(w, 0), -1);
        }
        for (int w : notBelow(3)) {
            due("make p " + w, x.make(0, w), -1);
        }
        due("make, none is there", x.make(4, 3), -1);
        due("size", x.size(), 0);
        due("make 0 0", x.make(0, 0), 0);
        due("make 3 2", x.make(3, 2), 1);
    }

    private static void notThereForCall() {
        sentence("call: -1 if there is no such variable or event");
        StateTypes x = new StateTypes();
        for (int w : notBelow(4)) {
            due("call v " + w, x.call(w, 0), -1);
            due("call e " + w, x.call(0, w), -1);
        }
        due("call, none is there", x.call(-1, 4), -1);
        due("size", x.size(), 0);
        due("call 0 0", x.call(0, 0), 0);
        due("call 3 3", x.call(3, 3), 1);
    }

    private static void notThereForMove() {
        sentence("move: -1 if there is no such variable");
        StateTypes x = new StateTypes();
        for (int w : notBelow(4)) {
            due("move v " + w, x.move(w, 0), -1);
            due("move w " + w, x.move(0, w), -1);
        }
        due("move, none is there", x.move(4, 4), -1);
        due("size", x.size(), 0);
        due("move 0 3", x.move(0, 3), 0);
        due("move 3 0", x.move(3, 0), 1);
    }

    private static void notThereForDrop() {
        sentence("drop: -1 if there is no such variable");
        StateTypes x = new StateTypes();
        for (int w : notBelow(4)) {
            due("drop v " + w, x.drop(w), -1);
        }
        due("size", x.size(), 0);
        due("drop 0", x.drop(0), 0);
        due("drop 3", x.drop(3), 1);
    }

    private static StateTypes checkedWithForty() {
        StateTypes x = withFinalStart();
        for (int i = 0; i < 40; i += 2) {
            give(x, "make 3 1, drop 3");
        }
        due("check", x.check(), 0);
        return x;
    }

    private static void notThereForHeld() {
        sentence("held: -2 if there is no such variable or i is not 0 .. 39");
        StateTypes x = checkedWithForty();
        dueHeld("the first", x, 0, "-1 -1 -1 -1");
        dueHeld("the last", x, 39, "-1 -1 -1 8");
        for (int w : notBelow(4)) {
            due("held v " + w, x.held(39, w), -2);
        }
        for (int w : notBelow(40)) {
            due("held i " + w, x.held(w, 3), -2);
        }
        due("held, none is there", x.held(40, 4), -2);
    }

    private static void notThereForLeft() {
        sentence("left: -2 if there is no such variable");
        StateTypes x = withFinalStart();
        give(x, "make 0 0, make 3 1");
        due("run", run(x, 0, 0), 2);
        dueLeft("those that are there", x, "0 -1 -1 8");
        for (int w : notBelow(4)) {
            due("left v " + w, x.left(w), -2);
        }
        StateTypes never = new StateTypes();
        due("left 4, never run", never.left(4), -2);
        due("left -1, never run", never.left(-1), -2);
        due("left 3, never run", never.left(3), -1);
    }

    private static void notThereForRun() {
        sentence("run: IllegalArgumentException if n is not 0 .. 32");
        StateTypes x = new StateTypes();
        for (int w : notBelow(33)) {
            due("run n " + w, run(x, -1, w), ARGUMENT);
        }
        due("run n 0", run(x, -1, 0), 0);
        due("run n 32", run(x, -1, 32), 0);
    }

    public static void main(String[] args) {
        atFirst();
        leadSetsThatOneAlone();
        leadAgain();
        markSetsThatOneAlone();
        notThereForLead();
        notThereForMark();
        thereForStatements();
        notThereForMake();
        notThereForCall();
        notThereForMove();
        notThereForDrop();
        notThereForHeld();
        notThereForLeft();
        notThereForRun();
        report();
    }
}
