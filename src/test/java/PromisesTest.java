/** One method a promise of the document: ordinary inputs, its edges, wrong inputs. */
public final class PromisesTest extends Due {
    private static final int[] WRONG = {-1, Integer.MIN_VALUE, Integer.MAX_VALUE};

    private static void promise1NewObject() {
        StateTypes x = new StateTypes();
        due("1 size", x.size(), 0);
        due("1 faultAt", x.faultAt(), -1);
        due("1 held", x.held(0, 0), -2);
        dueRun("1", x, 0, -1, 0);
        for (int v = 0; v < 4; v++) {
            due("1 left " + v, x.left(v), -1);
        }
        due("1 end", x.end(), false);
        due("1 otherwise", x.otherwise(), false);
        for (int p = 0; p < 3; p++) {
            for (int e = 0; e < 4; e++) {
                x.clear();
                x.make(0, p);
                x.call(0, e);
                dueChecked("1 nowhere " + p + " " + e, x, 3, 1);
            }
            x.clear();
            x.make(0, p);
            x.drop(0);
            dueChecked("1 not final " + p, x, 4, 1);
        }
        x.clear();
        dueChecked("1 empty", x, 0, -1);
        due("1 run", run(x, -1, 32), 0);
        StateTypes y = withFile();
        y.make(0, 0);
        due("1 objects are apart", x.size(), 0);
    }

    private static void promise2Lead() {
        for (int p = 0; p < 3; p++) {
            for (int e = 0; e < 4; e++) {
                for (int t = 0; t < 5; t++) {
                    StateTypes x = new StateTypes();
                    due("2 lead", x.lead(p, 0, e, t), true);
                    x.make(1, p);
                    x.call(1, e);
                    x.drop(0);
                    dueChecked("2 led", x, 2, 2);
                    due("2 held", x.held(2, 1), 8 * p + t);
                }
            }
        }
        StateTypes x = withFile();
        for (int w : WRONG) {
            due("2 p", x.lead(w, 0, 0, 0), false);
            due("2 s", x.lead(0, w, 0, 0), false);
            due("2 e", x.lead(0, 0, w, 0), false);
            due("2 t", x.lead(0, 0, 0, w == -1 ? -2 : w), false);
        }
        due("2 p 3", x.lead(3, 0, 0, 0), false);
        due("2 s 5", x.lead(0, 5, 0, 0), false);
        due("2 e 4", x.lead(0, 0, 4, 0), false);
        due("2 t 5", x.lead(0, 0, 0, 5), false);
        due("2 s 8", x.lead(0, 8, 0, 0), false);
        due("2 nowhere from nowhere", x.lead(5, 0, 0, -1), false);
        x.make(0, 0);
        x.call(0, 0);
        x.call(0, 2);
        dueChecked("2 refused changes nothing", x, 0, -1);
        due("2 to nowhere", x.lead(0, 1, 2, -1), true);
        dueChecked("2 nowhere again", x, 3, 2);
        due("2 again", x.lead(0, 1, 2, 4), true);
        dueChecked("2 other state", x, 7, 3);
        due("2 last corner", x.lead(2, 4, 3, 4), true);
    }

    private static void promise3Mark() {
        for (int p = 0; p < 3; p++) {
            for (int s = 0; s < 5; s++) {
                StateTypes x = new StateTypes();
                x.lead(p, 0, 0, s);
                due("3 mark", x.mark(p, s, true), true);
                x.make(3, p);
                x.call(3, 0);
                dueChecked("3 final " + p + " " + s, x, 0, -1);
                due("3 unmark", x.mark(p, s, false), true);
                dueChecked("3 not final " + p + " " + s, x, 7, 2);
                x.mark(p, (s + 1) % 5, true);
                x.mark((p + 1) % 3, s, true);
                dueChecked("3 others final " + p + " " + s, x, 7, 2);
            }
        }
        StateTypes x = withFile();
        for (int w : WRONG) {
            due("3 p", x.mark(w, 0, true), false);
            due("3 s", x.mark(0, w, true), false);
        }
        due("3 p 3", x.mark(3, 0, true), false);
        due("3 s 5", x.mark(0, 5, true), false);
        due("3 s 8", x.mark(0, 8, false), false);
    }

    private static void promise4Make() {
        StateTypes x = new StateTypes();
        due("4 first", x.make(0, 0), 0);
        due("4 last", x.make(3, 2), 1);
        for (int w : WRONG) {
            due("4 v", x.make(w, 0), -1);
            due("4 p", x.make(0, w), -1);
        }
        due("4 v 4", x.make(4, 0), -1);
        due("4 p 3", x.make(0, 3), -1);
        due("4 size", x.size(), 2);
        x.make(3, 0);
        dueChecked("4 holds something", x, 1, 2);
        due("4 held 0", x.held(2, 0), 0);
        due("4 held 3", x.held(2, 3), 16);
        fill(x, 39);
        due("4 the 40th", x.make(1, 1), 39);
        due("4 the 41st", x.make(1, 1), -1);
        due("4 full", x.size(), 40);
    }

    private static void promise5Call() {
        StateTypes x = withFile();
        x.make(3, 0);
        due("5 first", x.call(3, 0), 1);
        due("5 second", x.call(3, 3), 2);
        for (int w : WRONG) {
            due("5 v", x.call(w, 0), -1);
            due("5 e", x.call(0, w), -1);
        }
        due("5 v 4", x.call(4, 0), -1);
        due("5 e 4", x.call(0, 4), -1);
        due("5 size", x.size(), 3);
        dueChecked("5 nowhere", x, 3, 2);
        due("5 state", x.held(2, 3), 1);
        fill(x, 39);
        due("5 the 40th", x.call(0, 3), 39);
        due("5 the 41st", x.call(0, 3), -1);
        x.clear();
        x.make(0, 0);
        x.call(1, 0);
        dueChecked("5 nothing", x, 2, 1);
    }

    private static void promise6Move() {
        StateTypes x = withFile();
        x.make(0, 0);
        due("6 move", x.move(0, 3), 1);
        for (int w : WRONG) {
            due("6 v", x.move(w, 0), -1);
            due("6 w", x.move(0, w), -1);
        }
        due("6 v 4", x.move(4, 0), -1);
        due("6 w 4", x.move(0, 4), -1);
        due("6 size", x.size(), 2);
        due("6 from nothing", x.move(0, 1), 2);
        dueChecked("6 nothing", x, 2, 2);
        due("6 held 0", x.held(2, 0), -1);
        due("6 held 3", x.held(2, 3), 0);
        fill(x, 39);
        due("6 the 40th", x.move(1, 2), 39);
        due("6 the 41st", x.move(1, 2), -1);
        x.clear();
        x.make(0, 0);
        x.make(1, 1);
        x.move(0, 1);
        dueChecked("6 onto something", x, 1, 2);
        x.clear();
        x.move(2, 2);
        dueChecked("6 nothing onto itself", x, 2, 0);
        x.clear();
        x.make(2, 0);
        x.move(2, 2);
        dueChecked("6 onto itself", x, 1, 1);
        x.clear();
        x.make(1, 0);
        x.move(0, 1);
        dueChecked("6 nothing onto something", x, 2, 1);
    }

    private static void promise7Drop() {
        StateTypes x = withFile();
        x.make(3, 0);
        due("7 drop", x.drop(3), 1);
        for (int w : WRONG) {
            due("7 v", x.drop(w), -1);
        }
        due("7 v 4", x.drop(4), -1);
        due("7 size", x.size(), 2);
        dueChecked("7 not final", x, 4, 1);
        x.mark(0, 0, true);
        dueChecked("7 final", x, 0, -1);
        x.drop(3);
        dueChecked("7 nothing", x, 2, 2);
        due("7 held", x.held(2, 3), -1);
        fill(x, 39);
        due("7 the 40th", x.drop(0), 39);
        due("7 the 41st", x.drop(0), -1);
    }

    private static void openings(String what, boolean branch) {
        StateTypes x = new StateTypes();
        for (int i = 0; i < 6; i++) {
            due(what + " open " + i, branch ? x.choose() : x.repeat(), i);
        }
        due(what + " seventh", branch ? x.choose() : x.repeat(), -1);
        due(what + " size", x.size(), 6);
        due(what + " end", x.end(), true);
        due(what + " again", branch ? x.choose() : x.repeat(), 6);
        x.clear();
        for (int i = 0; i < 40; i++) {
            due(what + " row " + i, branch ? x.choose() : x.repeat(), i);
            due(what + " row end " + i, x.end(), true);
        }
        due(what + " the 41st", branch ? x.choose() : x.repeat(), -1);
        due(what + " the 41st begins no block", x.end(), false);
        dueChecked(what + " row", x, 0, -1);
        due(what + " row run", run(x, 0, 0), 40);
        due(what + " row run of ones", run(x, -1, 32), branch ? 40 : 72);
    }

    private static void promise8Choose() {
        openings("8", true);
        StateTypes x = withFile();
        x.choose();
        x.make(0, 0);
        x.otherwise();
        x.make(1, 0);
        x.end();
        dueChecked("8 in other variables", x, 5, 0);
        x.clear();
        x.choose();
        x.make(0, 0);
        x.otherwise();
        x.make(0, 1);
        x.end();
        dueChecked("8 other protocols", x, 5, 0);
        x.clear();
        x.make(0, 0);
        x.choose();
        x.call(0, 0);
        x.otherwise();
        x.call(0, 0);
        x.call(0, 2);
        x.end();
        dueChecked("8 other states", x, 5, 1);
        due("8 held in else", x.held(3, 0), 0);
        x.clear();
        x.choose();
        x.make(0, 0);
        x.otherwise();
        x.make(0, 0);
        x.end();
        x.call(0, 0);
        x.call(0, 2);
        dueChecked("8 same", x, 0, -1);
        due("8 held after", x.held(3, 0), 0);
    }

    private static void promise9Otherwise() {
        StateTypes x = withFile();
        due("9 none", x.otherwise(), false);
        x.choose();
        due("9 then", x.otherwise(), true);
        due("9 else", x.otherwise(), false);
        x.repeat();
        due("9 while", x.otherwise(), false);
        x.choose();
        due("9 inner", x.otherwise(), true);
        x.end();
        due("9 while again", x.otherwise(), false);
        x.end();
        due("9 outer else", x.otherwise(), false);
        x.end();
        due("9 ended", x.otherwise(), false);
        due("9 size", x.size(), 3);
        x.clear();
        for (int i = 0; i < 6; i++) {
            x.choose();
        }
        due("9 with six open", x.otherwise(), true);
        due("9 still six", x.choose(), -1);
        x.end();
        due("9 five", x.choose(), 6);
        x.clear();
        fill(x, 39);
        x.choose();
        due("9 with 40 statements", x.otherwise(), true);
        due("9 end with 40", x.end(), true);
    }

    private static void promise10Repeat() {
        openings("10", false);
        StateTypes x = withFile();
        x.repeat();
        x.make(0, 0);
        x.end();
        dueChecked("10 makes", x, 6, 0);
        x.clear();
        x.make(0, 0);
        x.repeat();
        x.call(0, 0);
        x.end();
        dueChecked("10 changes the state", x, 6, 1);
        x.clear();
        x.make(0, 0);
        x.call(0, 0);
        x.repeat();
        x.move(0, 1);
        x.move(1, 0);
        x.call(0, 1);
        x.end();
        x.call(0, 2);
        dueChecked("10 same", x, 0, -1);
        due("10 run", run(x, 7, 4), 16);
    }

    private static void promise11End() {
        StateTypes x = withFile();
        due("11 none", x.end(), false);
        x.choose();
        x.repeat();
        due("11 while", x.end(), true);
        due("11 then is the last", x.otherwise(), true);
        due("11 else", x.end(), true);
        due("11 none again", x.end(), false);
        x.clear();
        x.choose();
        due("11 then", x.end(), true);
        due("11 else is there", x.otherwise(), false);
        dueChecked("11 both empty", x, 0, -1);
        x.clear();
        x.choose();
        x.make(0, 0);
        x.end();
        dueChecked("11 empty else", x, 5, 0);
        x.drop(3);
        due("11 run past the empty else", run(x, 0, 1), STATE);
        dueRun("11", x, 2, 2, 1);
    }

    private static void promise12Clear() {
        StateTypes x = withFile();
        x.make(0, 0);
        x.call(0, 0);
        x.call(0, 0);
        x.check();
        run(x, 0, 0);
        x.choose();
        x.clear();
        due("12 size", x.size(), 0);
        due("12 nothing open", x.end(), false);
        due("12 faultAt", x.faultAt(), 2);
        due("12 held", x.held(2, 0), 1);
        dueRun("12", x, 3, 2, 2);
        due("12 left", x.left(0), 1);
        dueChecked("12 empty", x, 0, -1);
        due("12 held after another checking", x.held(0, 0), -2);
        due("12 number", x.make(0, 0), 0);
        x.call(0, 0);
        x.call(0, 2);
        x.drop(0);
        dueChecked("12 protocols stay", x, 0, -1);
    }

    private static void promise13Size() {
        StateTypes x = new StateTypes();
        x.make(0, 0);
        x.call(0, 0);
        x.move(0, 1);
        x.drop(0);
        x.choose();
        due("13 open", x.size(), 5);
        x.otherwise();
        x.end();
        x.repeat();
        x.end();
        due("13 marks are no statements", x.size(), 6);
        x.make(9, 9);
        due("13 refused", x.size(), 6);
    }

    private static void promise14Check() {
        StateTypes x = withFile();
        x.make(0, 0);
        x.choose();
        x.drop(1);
        x.otherwise();
        x.call(0, 3);
        x.end();
        dueChecked("14 the then block first", x, 2, 2);
        x.clear();
        x.make(0, 0);
        x.choose();
        x.call(0, 0);
        x.otherwise();
        x.call(0, 3);
        x.end();
        dueChecked("14 the else block before 5", x, 3, 3);
        x.clear();
        x.repeat();
        x.make(0, 0);
        x.choose();
        x.call(0, 0);
        x.end();
        x.end();
        dueChecked("14 the inner 5 before the outer 6", x, 5, 2);
        x.clear();
        x.make(0, 0);
        x.make(0, 0);
        x.repeat();
        dueChecked("14 open blocks before all", x, 8, 3);
        due("14 not gone through", x.held(0, 0), -2);
        x.end();
        dueChecked("14 ended", x, 1, 1);
        x.clear();
        x.make(3, 0);
        x.choose();
        x.end();
        dueChecked("14 at the end", x, 7, 2);
        checkingIsNoRun();
    }

    private static void checkingIsNoRun() {
        StateTypes x = withFile();
        x.make(0, 0);
        run(x, 0, 0);
        x.clear();
        x.drop(0);
        x.check();
        dueRun("14 a checking is no run", x, 7, 1, 1);
        due("14 left", x.left(0), 0);
    }

    private static void promise15FaultAt() {
        StateTypes x = withFile();
        x.drop(0);
        due("15 not checked", x.faultAt(), -1);
        x.check();
        due("15 checked", x.faultAt(), 0);
        x.clear();
        x.make(0, 0);
        due("15 stays", x.faultAt(), 0);
        x.check();
        due("15 latest", x.faultAt(), 1);
        run(x, 0, 0);
        due("15 a run is no checking", x.faultAt(), 1);
        x.clear();
        x.check();
        due("15 none", x.faultAt(), -1);
        fill(x, 39);
        x.repeat();
        x.check();
        due("15 at the number of statements", x.faultAt(), 40);
    }

    private static void promise16Held() {
        StateTypes x = withFile();
        x.lead(2, 0, 3, 4);
        x.make(0, 2);
        due("16 not checked", x.held(0, 0), -2);
        x.call(0, 3);
        x.choose();
        x.move(0, 1);
        x.otherwise();
        x.move(0, 2);
        x.drop(0);
        x.end();
        x.drop(3);
        dueChecked("16", x, 2, 5);
        due("16 before the first", x.held(0, 0), -1);
        due("16 made", x.held(1, 0), 16);
        due("16 called", x.held(2, 0), 20);
        due("16 in then", x.held(3, 0), 20);
        due("16 in else", x.held(4, 0), 20);
        due("16 in else 1", x.held(4, 1), -1);
        due("16 at the fault", x.held(5, 0), -1);
        due("16 at the fault 2", x.held(5, 2), 20);
        due("16 behind the fault", x.held(6, 0), -2);
        for (int w : WRONG) {
            due("16 i", x.held(w, 0), -2);
            due("16 v", x.held(0, w), -2);
        }
        due("16 v 4", x.held(0, 4), -2);
        due("16 v 6", x.held(0, 6), -2);
        due("16 i 40", x.held(40, 0), -2);
        run(x, 1, 1);
        due("16 a run is no checking", x.held(4, 0), 20);
        x.clear();
        fill(x, 40);
        x.check();
        due("16 latest", x.held(1, 0), -2);
        heldAtTheLastStatement();
    }

    private static void heldAtTheLastStatement() {
        StateTypes x = withFile();
        x.mark(1, 0, true);
        for (int i = 0; i < 20; i++) {
            x.make(3, 1);
            x.drop(3);
        }
        due("16 check", x.check(), 0);
        due("16 i 39", x.held(39, 3), 8);
        due("16 i 38", x.held(38, 3), -1);
    }

    private static void promise17Run() {
        StateTypes x = new StateTypes();
        x.mark(0, 0, true);
        x.repeat();
        x.make(0, 0);
        x.drop(0);
        x.end();
        due("17 no bits", run(x, -1, 0), 1);
        due("17 one of the bits", run(x, -1, 1), 4);
        due("17 all bits", run(x, -1, 32), 97);
        due("17 31 bits", run(x, -1, 31), 94);
        due("17 the lowest first", run(x, 0b1011, 4), 7);
        due("17 the lowest is 0", run(x, -2, 32), 1);
        for (int w : WRONG) {
            due("17 n", run(x, 0, w), ARGUMENT);
        }
        due("17 n 33", run(x, 0, 33), ARGUMENT);
        x.choose();
        due("17 open", run(x, 0, 0), ARGUMENT);
        x.make(1, 1);
        due("17 open still", run(x, 0, 1), ARGUMENT);
        x.end();
        due("17 the highest bit", run(x, 1 << 31, 32), 2);
        due("17 fault", run(x, 2, 2), STATE);
        runBranchesAndLoops();
        runFaults();
    }

    private static void runBranchesAndLoops() {
        StateTypes x = new StateTypes();
        x.mark(0, 0, true);
        x.mark(1, 0, true);
        x.choose();
        x.repeat();
        x.choose();
        x.make(0, 0);
        x.drop(0);
        x.otherwise();
        x.make(1, 1);
        x.end();
        x.end();
        x.otherwise();
        x.make(2, 0);
        x.end();
        due("17 else", run(x, 0, 5), 2);
        due("17 else left", x.left(2), 0);
        due("17 then, no turn", run(x, 1, 5), 2);
        due("17 then, one turn", run(x, 0b0111, 4), 6);
        due("17 one turn with else", run(x, 0b0011, 4), 5);
        due("17 left by it", x.left(1), 8);
        due("17 then and else", run(x, 0b001111, 6), 9);
        due("17 two turns", run(x, 0b011111, 6), 10);
        due("17 twice else", run(x, 0b01011, 5), STATE);
        dueRun("17 twice else", x, 1, 5, 6);
    }

    private static void runFaults() {
        StateTypes x = withFile();
        x.choose();
        x.make(0, 0);
        x.end();
        x.call(0, 0);
        x.choose();
        x.call(0, 2);
        x.end();
        x.drop(0);
        due("17 good", run(x, 3, 2), 6);
        due("17 nothing", run(x, 0, 0), STATE);
        dueRun("17 nothing", x, 2, 2, 1);
        due("17 not final", run(x, 1, 2), STATE);
        dueRun("17 not final", x, 4, 5, 4);
        due("17 left by the fault", x.left(0), 1);
        due("17 good again", run(x, 3, 2), 6);
        dueRun("17 good again", x, 0, -1, 6);
        x.lead(0, 0, 0, -1);
        due("17 nowhere", run(x, 3, 2), STATE);
        dueRun("17 nowhere", x, 3, 2, 2);
        due("17 does nothing", x.left(0), 0);
    }

    private static StateTypes withUnfinishedRun() {
        StateTypes x = withFile();
        x.make(3, 0);
        x.call(3, 0);
        due("18 run", run(x, 0, 0), STATE);
        return x;
    }

    private static void promise18RunFault() {
        StateTypes x = withUnfinishedRun();
        due("18 at the end", x.runFault(), 7);
        run(x, 0, 33);
        due("18 refused", x.runFault(), 7);
        x.repeat();
        run(x, 0, 0);
        due("18 refused for open blocks", x.runFault(), 7);
        x.clear();
        due("18 cleared", x.runFault(), 7);
        run(x, 0, 0);
        due("18 none", x.runFault(), 0);
    }

    private static void promise19RunAt() {
        StateTypes x = withUnfinishedRun();
        due("19 at the end", x.runAt(), 2);
        run(x, 0, -1);
        due("19 refused", x.runAt(), 2);
        x.clear();
        x.check();
        due("19 a checking is no run", x.runAt(), 2);
        run(x, 0, 0);
        due("19 none", x.runAt(), -1);
        x.drop(0);
        run(x, 0, 0);
        due("19 the first", x.runAt(), 0);
    }

    private static void promise20Steps() {
        StateTypes x = withUnfinishedRun();
        due("20 at the end", x.steps(), 2);
        run(x, 0, -1);
        due("20 refused", x.steps(), 2);
        x.call(3, 0);
        run(x, 0, 0);
        due("20 a fault is no step", x.steps(), 2);
        x.clear();
        x.repeat();
        x.end();
        x.choose();
        x.end();
        due("20 bits", run(x, 0b11, 3), 4);
        due("20 bits", x.steps(), 4);
        due("20 bits that are used up", run(x, 0b11, 2), 4);
    }

    private static void promise21Left() {
        StateTypes x = new StateTypes();
        due("21 v 4, no run", x.left(4), -2);
        x = withUnfinishedRun();
        due("21 held", x.left(3), 1);
        due("21 nothing", x.left(0), -1);
        for (int w : WRONG) {
            due("21 v", x.left(w), -2);
        }
        due("21 v 4", x.left(4), -2);
        run(x, 0, 40);
        due("21 refused", x.left(3), 1);
        x.clear();
        due("21 cleared", x.left(3), 1);
        for (int v = 0; v < 4; v++) {
            x.make(v, v % 3);
        }
        x.mark(2, 0, true);
        run(x, 0, 0);
        for (int v = 0; v < 4; v++) {
            due("21 all " + v, x.left(v), 8 * (v % 3));
        }
        x.drop(2);
        x.move(3, 2);
        run(x, 0, 0);
        due("21 moved", x.left(2), 0);
        due("21 moved away", x.left(3), -1);
    }

    public static void main(String[] args) {
        promise1NewObject();
        promise2Lead();
        promise3Mark();
        promise4Make();
        promise5Call();
        promise6Move();
        promise7Drop();
        promise8Choose();
        promise9Otherwise();
        promise10Repeat();
        promise11End();
        promise12Clear();
        promise13Size();
        promise14Check();
        promise15FaultAt();
        promise16Held();
        promise17Run();
        promise18RunFault();
        promise19RunAt();
        promise20Steps();
        promise21Left();
        report();
    }
}
