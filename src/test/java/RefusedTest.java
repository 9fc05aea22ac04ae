import java.util.ArrayList;
import java.util.List;

/**
 * "A call that is refused (-1, false, or an exception) changes nothing, but
 * for a run with a fault, of which what was done and held is told." Each
 * refused call is made on one of two objects that were built alike, and then
 * all answers of both are the same.
 */
public final class RefusedTest extends Due {
    private interface Question {
        int askOf(StateTypes x);
    }

    /** A call and the answer by which it is refused. */
    private record Call(String name, int refusal, Question question) { }

    /** How an object was built: whether it is full, how many blocks are open, and which kind was begun last. */
    private record Scene(String name, boolean full, int open, String last, Calls calls) { }

    private static final List<Scene> SCENES = List.of(
            new Scene("new", false, 0, "none", x -> { }),
            new Scene("checked and run", false, 0, "none", x -> {
                checkedAndRun(x);
                give(x, "make 0 0, call 0 0");
            }),
            new Scene("ended blocks", false, 0, "none", x -> {
                checkedAndRun(x);
                give(x, "if, make 0 1, else, make 0 1, end, while, move 0 1, move 1 0, end, drop 0");
            }),
            new Scene("then open", false, 1, "then", x -> {
                checkedAndRun(x);
                give(x, "make 0 0, if, call 0 0");
            }),
            new Scene("else open", false, 1, "else", x -> {
                checkedAndRun(x);
                give(x, "make 0 0, if, call 0 0, else, call 0 0");
            }),
            new Scene("while open in then", false, 2, "while", x -> {
                checkedAndRun(x);
                give(x, "make 0 0, if, call 0 0, while");
            }),
            new Scene("then open in else", false, 2, "then", x -> {
                checkedAndRun(x);
                give(x, "if, make 0 0, else, if, make 0 0");
            }),
            new Scene("six open, while last", false, 6, "while", x -> {
                checkedAndRun(x);
                give(x, "make 0 0, if, while, if, while, if, else, while");
            }),
            new Scene("six open, then last", false, 6, "then", x -> {
                checkedAndRun(x);
                give(x, "make 0 0, while, if, else, while, while, if, if");
            }),
            new Scene("six open, else last", false, 6, "else", x -> {
                checkedAndRun(x);
                give(x, "make 0 0, while, if, else, while, while, if, if, make 1 1, else, make 1 1");
            }),
            new Scene("full", true, 0, "none", x -> {
                checkedAndRun(x);
                fillWithPairs(x, 40);
            }),
            new Scene("full, then open", true, 1, "then", x -> {
                checkedAndRun(x);
                fillWithPairs(x, 38);
                give(x, "if, make 2 2");
            }),
            new Scene("full, else open", true, 1, "else", x -> {
                checkedAndRun(x);
                fillWithPairs(x, 38);
                give(x, "if, else, make 2 2");
            }),
            new Scene("full, six open", true, 6, "while", x -> {
                checkedAndRun(x);
                fillWithPairs(x, 34);
                give(x, "if, while, if, while, if, while");
            }));

    /** The latest checking and the latest run have faults, and are of another program than the object's. */
    private static void checkedAndRun(StateTypes x) {
        setFile(x);
        x.mark(1, 0, true);
        x.lead(2, 4, 3, 4);
        give(x, "make 1 1, make 0 0, call 0 0, if, call 0 3, end, call 0 1, drop 0");
        x.check();
        run(x, 0, 1);
        x.clear();
    }

    private static void fillWithPairs(StateTypes x, int statements) {
        for (int i = x.size(); i < statements; i += 2) {
            give(x, "make 1 1, drop 1");
        }
    }

    private static final int[] NOT_THERE = {-1, Integer.MIN_VALUE, Integer.MAX_VALUE};

    private static void addLeadAndMark(List<Call> all, int p, int s, int e) {
        all.add(new Call("lead p " + p, 0, x -> x.lead(p, 0, 0, 2) ? 1 : 0));
        all.add(new Call("lead p, to nowhere " + p, 0, x -> x.lead(p, 0, 0, -1) ? 1 : 0));
        all.add(new Call("lead s " + s, 0, x -> x.lead(0, s, 0, 2) ? 1 : 0));
        all.add(new Call("lead s, to nowhere " + s, 0, x -> x.lead(0, s, 2, -1) ? 1 : 0));
        all.add(new Call("lead e " + e, 0, x -> x.lead(0, 1, e, 2) ? 1 : 0));
        all.add(new Call("lead e, to nowhere " + e, 0, x -> x.lead(2, 4, e, -1) ? 1 : 0));
        int t = s == -1 ? -2 : s;
        all.add(new Call("lead t " + t, 0, x -> x.lead(0, 0, 0, t) ? 1 : 0));
        all.add(new Call("lead t " + t, 0, x -> x.lead(2, 4, 3, t) ? 1 : 0));
        for (boolean last : new boolean[] {false, true}) {
            all.add(new Call("mark p " + p, 0, x -> x.mark(p, 0, last) ? 1 : 0));
            all.add(new Call("mark s " + s, 0, x -> x.mark(0, s, last) ? 1 : 0));
            all.add(new Call("mark s " + s, 0, x -> x.mark(1, s, last) ? 1 : 0));
        }
    }

    private static void addStatements(List<Call> all, int v, int p, int e) {
        all.add(new Call("make v " + v, -1, x -> x.make(v, 0)));
        all.add(new Call("make p " + p, -1, x -> x.make(1, p)));
        all.add(new Call("call v " + v, -1, x -> x.call(v, 0)));
        all.add(new Call("call e " + e, -1, x -> x.call(0, e)));
        all.add(new Call("move v " + v, -1, x -> x.move(v, 0)));
        all.add(new Call("move w " + v, -1, x -> x.move(0, v)));
        all.add(new Call("move both " + v, -1, x -> x.move(v, v)));
        all.add(new Call("drop v " + v, -1, x -> x.drop(v)));
    }

    /** Calls with numbers that are not there, refused whatever the object is like. */
    private static List<Call> wrongNumbers() {
        List<Call> all = new ArrayList<>();
        for (int w : NOT_THERE) {
            addLeadAndMark(all, w, w, w);
            addStatements(all, w, w, w);
            all.add(new Call("run n " + w, ARGUMENT, x -> run(x, -1, w)));
        }
        addLeadAndMark(all, 3, 5, 4);
        addStatements(all, 4, 3, 4);
        all.add(new Call("run n 33", ARGUMENT, x -> run(x, -1, 33)));
        all.add(new Call("run n 33", ARGUMENT, x -> run(x, 0, 33)));
        return all;
    }

    /** Calls that are refused for what the object is like. */
    private static List<Call> refusedIn(Scene scene) {
        List<Call> all = new ArrayList<>();
        if (scene.full) {
            all.add(new Call("make", -1, x -> x.make(0, 0)));
            all.add(new Call("call", -1, x -> x.call(0, 0)));
            all.add(new Call("move", -1, x -> x.move(0, 1)));
            all.add(new Call("drop", -1, x -> x.drop(0)));
        }
        if (scene.full || scene.open == 6) {
            all.add(new Call("choose", -1, StateTypes::choose));
            all.add(new Call("repeat", -1, StateTypes::repeat));
        }
        if (!scene.last.equals("then")) {
            all.add(new Call("otherwise", 0, x -> x.otherwise() ? 1 : 0));
        }
        if (scene.open == 0) {
            all.add(new Call("end", 0, x -> x.end() ? 1 : 0));
        } else {
            all.add(new Call("run 0 0", ARGUMENT, x -> run(x, 0, 0)));
            all.add(new Call("run -1 32", ARGUMENT, x -> run(x, -1, 32)));
            all.add(new Call("run -1 33", ARGUMENT, x -> run(x, -1, 33)));
        }
        return all;
    }

    /** Ways of looking at an object; each looks at one of its own, for some change what is told. */
    private interface Look {
        String at(StateTypes x);
    }

    private static String toldOfAll(StateTypes x) {
        return "size " + x.size() + " " + toldOfChecking(x) + " " + toldOfRun(x);
    }

    private static String blocksOf(StateTypes x) {
        StringBuilder all = new StringBuilder("check " + x.check() + " faultAt " + x.faultAt());
        all.append(" otherwise ").append(x.otherwise()).append(" openings");
        int given = 0;
        while (given < 50 && x.choose() >= 0) {
            given++;
        }
        int ended = 0;
        while (ended < 50 && x.end()) {
            ended++;
        }
        return all.append(' ').append(given).append(" ends ").append(ended).append(" size ").append(x.size()).toString();
    }

    private static String programOf(StateTypes x) {
        StringBuilder all = new StringBuilder();
        for (int open = 0; open < 50 && x.end(); open++) {
            all.append("end ").append(open).append(' ');
        }
        all.append("check ").append(x.check()).append(' ').append(toldOfChecking(x));
        for (int bits : new int[] {0, 1, 2, 5, 11, 0x55555555, -1}) {
            all.append(" run ").append(run(x, bits, 12)).append(' ').append(toldOfRun(x));
        }
        int given = 0;
        while (given < 50 && x.drop(0) >= 0) {
            given++;
        }
        return all.append(" given ").append(given).toString();
    }

    private static final List<Look> LOOKS = List.of(RefusedTest::toldOfAll, RefusedTest::blocksOf,
            RefusedTest::programOf, Due::protocolsOf);

    private static StateTypes built(Scene scene) {
        StateTypes x = new StateTypes();
        scene.calls.on(x);
        return x;
    }

    private static void changesNothing(Scene scene, Call call) {
        for (Look look : LOOKS) {
            StateTypes one = built(scene);
            due(scene.name + ": " + call.name, call.question.askOf(one), call.refusal);
            due(scene.name + ": after " + call.name, look.at(one), look.at(built(scene)));
        }
    }

    private static void refusedCalls() {
        sentence("A call that is refused (-1, false, or an exception) changes nothing");
        for (Scene scene : SCENES) {
            for (Call call : wrongNumbers()) {
                changesNothing(scene, call);
            }
            for (Call call : refusedIn(scene)) {
                changesNothing(scene, call);
            }
        }
    }

    private static void refusedBetweenOthers() {
        sentence("A call that is refused changes nothing, between calls that are not");
        StateTypes x = withFile();
        due("otherwise", x.otherwise(), false);
        due("make", x.make(0, 0), 0);
        due("make v 4", x.make(4, 0), -1);
        due("choose", x.choose(), 1);
        due("call e 4", x.call(0, 4), -1);
        due("call", x.call(0, 0), 2);
        due("run, open", run(x, 1, 1), ARGUMENT);
        due("otherwise", x.otherwise(), true);
        due("otherwise again", x.otherwise(), false);
        due("call in else", x.call(0, 0), 3);
        due("end", x.end(), true);
        due("end again", x.end(), false);
        due("otherwise, ended", x.otherwise(), false);
        due("drop v 4", x.drop(4), -1);
        due("move w 4", x.move(0, 4), -1);
        due("lead t 5", x.lead(0, 1, 2, 5), false);
        due("call", x.call(0, 2), 4);
        due("mark s 5", x.mark(0, 5, false), false);
        due("drop", x.drop(0), 5);
        dueChecked("it", x, 0, -1);
        due("run n 33", run(x, 1, 33), ARGUMENT);
        dueRan(x, 1, 1, 0, -1, 5);
        dueRan(x, 0, 1, 0, -1, 5);
    }

    /** A program with a fault, of which a run does the first statements. */
    private static void setFaulty(StateTypes x, int fault) {
        String[] last = {"make 3 0", "drop 0", "call 3 1", "drop 3"};
        setFile(x);
        give(x, "make 3 0, if, make 1 0, end");
        if (fault != 7) {
            give(x, last[fault - 1] + ", make 2 0");
        }
    }

    private static void runWithAFault() {
        sentence("but for a run with a fault, of which what was done and held is told");
        for (int fault : new int[] {1, 2, 3, 4, 7}) {
            StateTypes x = new StateTypes();
            setFaulty(x, fault);
            due("check", x.check(), 5);
            due("a run before", run(x, 0, 1), STATE);
            dueRun("a run before", x, fault, 3, 2);
            String told = toldOfChecking(x);
            int size = x.size();
            due("run", run(x, 1, 1), STATE);
            due("told", toldOfRun(x), "runFault " + fault + " runAt 3 steps 3 left -1 0 -1 0");
            due("size", x.size(), size);
            due("checking", toldOfChecking(x), told);
            for (Look look : List.<Look>of(RefusedTest::blocksOf, RefusedTest::programOf, Due::protocolsOf)) {
                StateTypes one = new StateTypes();
                StateTypes other = new StateTypes();
                setFaulty(one, fault);
                setFaulty(other, fault);
                due("run", run(one, 1, 1), STATE);
                due("program and protocols", look.at(one), look.at(other));
            }
        }
    }

    private static void asking() {
        sentence("what is asked changes nothing");
        for (Scene scene : SCENES) {
            for (Look look : LOOKS) {
                StateTypes one = built(scene);
                for (int v = -1; v <= 4; v++) {
                    one.left(v);
                    one.held(-1, v);
                    one.held(0, v);
                    one.held(39, v);
                    one.held(40, v);
                }
                one.size();
                one.faultAt();
                one.runFault();
                one.runAt();
                one.steps();
                due(scene.name, look.at(one), look.at(built(scene)));
            }
        }
    }

    private static void checkingChangesItsOwnAlone() {
        sentence("check and run change what is told of them, and nothing else");
        for (Scene scene : SCENES) {
            StateTypes one = built(scene);
            String ran = toldOfRun(one);
            int size = one.size();
            one.check();
            due(scene.name + ": a checking is no run", toldOfRun(one), ran);
            due(scene.name + ": size", one.size(), size);
            for (Look look : List.<Look>of(RefusedTest::blocksOf, RefusedTest::programOf, Due::protocolsOf)) {
                StateTypes checked = built(scene);
                checked.check();
                run(checked, 1, 2);
                due(scene.name + ": checked and run", look.at(checked), look.at(built(scene)));
            }
        }
    }

    private static void objectsAreApart() {
        sentence("A new object: Protocols as at first, an empty program, never checked or run.");
        for (Look look : LOOKS) {
            StateTypes first = new StateTypes();
            for (Scene scene : SCENES) {
                built(scene);
            }
            due("made before others", look.at(first), look.at(new StateTypes()));
        }
        StateTypes x = new StateTypes();
        due("size", x.size(), 0);
        due("runs", toldOfRun(x), "runFault 0 runAt -1 steps 0 left -1 -1 -1 -1");
        due("faultAt", x.faultAt(), -1);
        due("nothing to end", x.end(), false);
        due("no then block", x.otherwise(), false);
        dueChecked("an empty program", x, 0, -1);
        dueRan(x, -1, 32, 0, -1, 0);
    }

    public static void main(String[] args) {
        refusedCalls();
        refusedBetweenOthers();
        runWithAFault();
        asking();
        checkingChangesItsOwnAlone();
        objectsAreApart();
        report();
    }
}
