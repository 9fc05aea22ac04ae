import java.util.ArrayList;
import java.util.List;

/** What the tests share: they give programs as texts and look at answers. */
abstract class Due {
    /** Answers of run that stand for the exceptions which it throws. */
    static final int ARGUMENT = -1001;
    static final int STATE = -1002;

    /** A row of calls on an object. */
    interface Calls {
        void on(StateTypes x);
    }

    private static String sentence = "";
    private static int wrong = 0;

    /** The document's sentence at which the answers that follow are looked at. */
    static void sentence(String words) {
        sentence = words;
    }

    static void due(String what, String got, String want) {
        if (!got.equals(want)) {
            wrong++;
            System.out.println("[" + sentence + "] " + what + " answered " + got + ", due is " + want);
        }
    }

    static void due(String what, int got, int want) {
        if (got != want) {
            due(what, Integer.toString(got), Integer.toString(want));
        }
    }

    static void due(String what, boolean got, boolean want) {
        if (got != want) {
            due(what, Boolean.toString(got), Boolean.toString(want));
        }
    }

    /** Ends the test, with exit code 1 if an answer was not as due. */
    static void report() {
        System.out.println(wrong == 0 ? "all answers are as due" : wrong + " answers are not as due");
        if (wrong != 0) {
            System.exit(1);
        }
    }

    static int run(StateTypes x, int bits, int n) {
        try {
            return x.run(bits, n);
        } catch (IllegalArgumentException e) {
            return ARGUMENT;
        } catch (IllegalStateException e) {
            return STATE;
        }
    }

    /** Protocol 0: event 0 opens (0 to 1), 1 reads (1 to 1), 2 closes (1 to 2); 2 is final. */
    static StateTypes withFile() {
        StateTypes x = new StateTypes();
        setFile(x);
        return x;
    }

    static void setFile(StateTypes x) {
        x.lead(0, 0, 0, 1);
        x.lead(0, 1, 1, 1);
        x.lead(0, 1, 2, 2);
        x.mark(0, 2, true);
    }

    /** Any object of protocols 0 to 2 may be left in state 0. */
    static StateTypes withFinalStart() {
        StateTypes x = new StateTypes();
        for (int p = 0; p < 3; p++) {
            x.mark(p, 0, true);
        }
        return x;
    }

    static void fill(StateTypes x, int statements) {
        for (int i = x.size(); i < statements; i++) {
            x.drop(0);
        }
    }

    /**
     * Gives statements and block marks, parted by commas: make v p, call v e,
     * move v w, drop v, if, else, while, end. None of them may be refused.
     */
    static void give(StateTypes x, String program) {
        int number = x.size();
        for (String part : program.split(",")) {
            String[] words = part.trim().split(" ");
            if (words[0].equals("else") || words[0].equals("end")) {
                due(part + " in " + program, words[0].equals("else") ? x.otherwise() : x.end(), true);
            } else if (!words[0].isEmpty()) {
                due(part + " in " + program, giveStatement(x, words), number);
                number++;
            }
        }
    }

    private static int giveStatement(StateTypes x, String[] words) {
        int first = words.length > 1 ? Integer.parseInt(words[1]) : 0;
        int second = words.length > 2 ? Integer.parseInt(words[2]) : 0;
        switch (words[0]) {
            case "make":
                return x.make(first, second);
            case "call":
                return x.call(first, second);
            case "move":
                return x.move(first, second);
            case "drop":
                return x.drop(first);
            case "if":
                return x.choose();
            case "while":
                return x.repeat();
            default:
                throw new IllegalArgumentException(words[0]);
        }
    }

    /** The program alone, in place of what the object had. */
    static void giveAlone(StateTypes x, String program) {
        x.clear();
        give(x, program);
    }

    static void dueChecked(String what, StateTypes x, int fault, int place) {
        due(what + ": check", x.check(), fault);
        due(what + ": faultAt", x.faultAt(), place);
    }

    static void dueRun(String what, StateTypes x, int fault, int place, int steps) {
        due(what + ": runFault", x.runFault(), fault);
        due(what + ": runAt", x.runAt(), place);
        due(what + ": steps", x.steps(), steps);
    }

    /** A run's answer, and all that is told of it. */
    static void dueRan(StateTypes x, int bits, int n, int fault, int place, int steps) {
        String what = "run " + Integer.toBinaryString(bits) + " " + n;
        due(what, run(x, bits, n), fault == 0 ? steps : STATE);
        dueRun(what, x, fault, place, steps);
    }

    /** What the variables hold, as held tells it. */
    static void dueHeld(String what, StateTypes x, int i, String want) {
        due(what + ": held " + i, heldAt(x, i), want);
    }

    static void dueLeft(String what, StateTypes x, String want) {
        due(what + ": left", leftIn(x), want);
    }

    static String heldAt(StateTypes x, int i) {
        return x.held(i, 0) + " " + x.held(i, 1) + " " + x.held(i, 2) + " " + x.held(i, 3);
    }

    static String leftIn(StateTypes x) {
        return x.left(0) + " " + x.left(1) + " " + x.left(2) + " " + x.left(3);
    }

    /** What is told of the latest checking, with what was held before all statements. */
    static String toldOfChecking(StateTypes x) {
        StringBuilder all = new StringBuilder("faultAt " + x.faultAt());
        for (int i = 0; i < 40; i++) {
            all.append(" / ").append(heldAt(x, i));
        }
        return all.toString();
    }

    static String toldOfRun(StateTypes x) {
        return "runFault " + x.runFault() + " runAt " + x.runAt() + " steps " + x.steps() + " left " + leftIn(x);
    }

    /** Ints that are not 0 .. bound - 1: the neighbours, the ends, and some that wrap round to one that is. */
    static List<Integer> notBelow(int bound) {
        List<Integer> all = new ArrayList<>(List.of(Integer.MIN_VALUE, Integer.MIN_VALUE + 1,
                Integer.MAX_VALUE - 1, Integer.MAX_VALUE));
        for (int near = 1; near <= 40; near++) {
            all.add(-near);
            all.add(bound - 1 + near);
        }
        for (int shift = 6; shift < 32; shift++) {
            all.add(1 << shift);
            all.add((1 << shift) + bound - 1);
            all.add(-(1 << shift));
        }
        for (int times : new int[] {3, 5}) {
            for (long part = 1; part < times; part++) {
                all.add((int) ((part << 32) / times));
                all.add((int) ((part << 32) / times + 1));
            }
        }
        return all;
    }

    /**
     * Where each event leads from each state, and which states are final:
     * for each state "targets f". The object's program and the events 0 of
     * the states 0 are others after it.
     */
    static String protocolsOf(StateTypes x) {
        StringBuilder all = new StringBuilder();
        String events = "if, call 0 0, else, if, call 0 1, else, if, call 0 2, else, if, call 0 3, end, end, end, end";
        for (int p = 0; p < 3; p++) {
            giveAlone(x, "make 0 " + p + ", " + events);
            addState(x, all);
            giveAlone(x, "make 0 " + p + ", call 0 0, " + events);
            for (int s = 1; s < 5; s++) {
                x.lead(p, 0, 0, s);
                addState(x, all);
            }
        }
        return all.toString();
    }

    private static void addState(StateTypes x, StringBuilder all) {
        for (int e = 0; e < 4; e++) {
            run(x, 1 << e, 4);
            all.append(x.runFault() == 3 ? "-" : Integer.toString(x.left(0) & 7));
        }
        run(x, 0, 4);
        all.append(x.runFault() == 7 ? " n, " : " f, ");
    }
}
