import java.util.ArrayList;
import java.util.Arrays;
import java.util.List;

/**
 * Long runs of calls, each answer against that of a second program, written
 * otherwise: a tree of statements that is gone through by recursion.
 */
public final class ModelTest {
    private static final int OBJECTS = 4000;
    private static final int CALLS = 512;
    private static final int MOST_OF_A_TURN = 20;
    private static final long ARGUMENT = -1001;
    private static final long STATE = -1002;

    private static int wrong = 0;
    private static int most = 0;
    // Calls made on the object that is looked at; nothing is promised beyond CALLS of them.
    private static int made = 0;
    private static long seed = 20261116;

    // Counts how often each answer of check and runFault came, so that a fault never met is seen.
    private static final int[] CHECKED = new int[9];
    private static final int[] RAN = new int[9];

    /** The same numbers at every run of the test. */
    private static int pick(int bound) {
        seed = seed * 6364136223846793005L + 1442695040888963407L;
        return (int) ((seed >>> 33) % bound);
    }

    private static final class Fault extends Exception {
        private static final long serialVersionUID = 1L;
        private final int fault;
        private final int place;

        Fault(int fault, int place) {
            super(null, null, false, false);
            this.fault = fault;
            this.place = place;
        }
    }

    private static final class Statement {
        private String name;
        private int number;
        private int x;
        private int y;
        private final List<Statement> block = new ArrayList<>();
        private final List<Statement> elseBlock = new ArrayList<>();
        private boolean inElse;
    }

    private static final class Model {
        private final int[][][] target = new int[3][5][4];
        private final boolean[][] last = new boolean[3][5];
        private List<Statement> top = new ArrayList<>();
        private final List<Statement> open = new ArrayList<>();
        private int size;
        private int faultAt = -1;
        private Integer[][] seen = new Integer[40][];
        private int runFault;
        private int runAt = -1;
        private int steps;
        private Integer[] left = new Integer[4];
        private long bits;
        private int bitsLeft;

        Model() {
            for (int[][] protocol : target) {
                for (int[] state : protocol) {
                    Arrays.fill(state, -1);
                }
            }
        }

        static boolean in(int x, int from, int to) {
            return from <= x && x <= to;
        }

        boolean lead(int p, int s, int e, int t) {
            if (in(p, 0, 2) && in(s, 0, 4) && in(e, 0, 3) && in(t, -1, 4)) {
                target[p][s][e] = t;
                return true;
            }
            return false;
        }

        boolean mark(int p, int s, boolean isLast) {
            if (in(p, 0, 2) && in(s, 0, 4)) {
                last[p][s] = isLast;
                return true;
            }
            return false;
        }

        int add(String name, int x, int y) {
            if (size == 40) {
                return -1;
            }
            Statement made = new Statement();
            made.name = name;
            made.number = size++;
            made.x = x;
            made.y = y;
            if (open.isEmpty()) {
                top.add(made);
            } else {
                Statement in = open.get(open.size() - 1);
                (in.inElse ? in.elseBlock : in.block).add(made);
            }
            if (name.equals("IF") || name.equals("WHILE")) {
                open.add(made);
            }
            return made.number;
        }

        int begin(String name) {
            return open.size() == 6 ? -1 : add(name, 0, 0);
        }

        boolean otherwise() {
            if (open.isEmpty()) {
                return false;
            }
            Statement in = open.get(open.size() - 1);
            if (!in.name.equals("IF") || in.inElse) {
                return false;
            }
            in.inElse = true;
            return true;
        }

        boolean end() {
            if (open.isEmpty()) {
                return false;
            }
            open.remove(open.size() - 1);
            return true;
        }

        void clear() {
            top = new ArrayList<>();
            open.clear();
            size = 0;
        }

        void simple(Statement s, Integer[] vars) throws Fault {
            Integer own = vars[s.x];
            if (s.name.equals("MAKE")) {
                if (own != null) {
                    throw new Fault(1, s.number);
                }
                vars[s.x] = s.y * 8;
                return;
            }
            if (own == null) {
                throw new Fault(2, s.number);
            }
            switch (s.name) {
                case "CALL" -> {
                    int to = target[own / 8][own % 8][s.y];
                    if (to < 0) {
                        throw new Fault(3, s.number);
                    }
                    vars[s.x] = own / 8 * 8 + to;
                }
                case "MOVE" -> {
                    if (vars[s.y] != null) {
                        throw new Fault(1, s.number);
                    }
                    vars[s.y] = own;
                    vars[s.x] = null;
                }
                default -> {
                    if (!last[own / 8][own % 8]) {
                        throw new Fault(4, s.number);
                    }
                    vars[s.x] = null;
                }
            }
        }

        void leave(Integer[] vars) throws Fault {
            for (Integer own : vars) {
                if (own != null && !last[own / 8][own % 8]) {
                    throw new Fault(7, size);
                }
            }
        }

        Integer[] through(List<Statement> row, Integer[] from) throws Fault {
            Integer[] vars = from.clone();
            for (Statement s : row) {
                seen[s.number] = vars.clone();
                if (s.name.equals("IF")) {
                    Integer[] one = through(s.block, vars);
                    Integer[] two = through(s.elseBlock, vars);
                    if (!Arrays.equals(one, two)) {
                        throw new Fault(5, s.number);
                    }
                    vars = one;
                } else if (s.name.equals("WHILE")) {
                    if (!Arrays.equals(through(s.block, vars), vars)) {
                        throw new Fault(6, s.number);
                    }
                } else {
                    simple(s, vars);
                }
            }
            return vars;
        }

        int check() {
            seen = new Integer[40][];
            faultAt = -1;
            try {
                if (!open.isEmpty()) {
                    throw new Fault(8, size);
                }
                leave(through(top, new Integer[4]));
            } catch (Fault f) {
                faultAt = f.place;
                return f.fault;
            }
            return 0;
        }

        int held(int i, int v) {
            if (!in(i, 0, 39) || !in(v, 0, 3) || seen[i] == null) {
                return -2;
            }
            return seen[i][v] == null ? -1 : seen[i][v];
        }

        boolean bit() {
            steps++;
            if (bitsLeft == 0) {
                return false;
            }
            bitsLeft--;
            boolean one = bits % 2 == 1;
            bits /= 2;
            return one;
        }

        void perform(List<Statement> row) throws Fault {
            for (Statement s : row) {
                if (s.name.equals("IF")) {
                    perform(bit() ? s.block : s.elseBlock);
                } else if (s.name.equals("WHILE")) {
                    while (bit()) {
                        perform(s.block);
                    }
                } else {
                    simple(s, left);
                    steps++;
                }
            }
        }

        long run(int given, int n) {
            if (!in(n, 0, 32) || !open.isEmpty()) {
                return ARGUMENT;
            }
            bits = given & 0xffffffffL;
            bitsLeft = n;
            steps = 0;
            left = new Integer[4];
            runFault = 0;
            runAt = -1;
            try {
                perform(top);
                leave(left);
            } catch (Fault f) {
                runFault = f.fault;
                runAt = f.place;
                return STATE;
            }
            return steps;
        }

        int leftIn(int v) {
            return !in(v, 0, 3) ? -2 : left[v] == null ? -1 : left[v];
        }
    }

    private static long runOf(StateTypes x, int bits, int n) {
        try {
            return x.run(bits, n);
        } catch (IllegalArgumentException e) {
            return ARGUMENT;
        } catch (IllegalStateException e) {
            return STATE;
        }
    }

    private static void due(String call, long got, long want) {
        made++;
        if (got != want) {
            wrong++;
            if (wrong < 20) {
                System.out.println(call + " answered " + got + ", due is " + want);
            }
        }
    }

    private static void due(String call, boolean got, boolean want) {
        due(call, got ? 1 : 0, want ? 1 : 0);
    }

    /** Mostly 0 .. bound - 1, now and then a neighbour or a number far away. */
    private static int argument(int bound) {
        if (pick(60) > 0) {
            return pick(bound);
        }
        int[] odd = {-1, -2, bound, bound + 1, 8, 32, 64, Integer.MIN_VALUE, Integer.MAX_VALUE};
        return odd[pick(odd.length)];
    }

    private static void setUp(StateTypes x, Model m, int sparse) {
        for (int p = 0; p < 3; p++) {
            for (int s = 0; s < 5; s++) {
                boolean last = pick(3) > 0;
                due("mark", x.mark(p, s, last), m.mark(p, s, last));
                for (int e = 0; e < 4; e++) {
                    if (pick(sparse) > 0) {
                        int t = pick(3) == 0 ? s : pick(5);
                        due("lead", x.lead(p, s, e, t), m.lead(p, s, e, t));
                    }
                }
            }
        }
    }

    private static void build(StateTypes x, Model m, int kind) {
        int v = argument(4);
        int w = argument(4);
        int p = argument(3);
        int e = argument(4);
        switch (kind) {
            case 0, 1 -> due("make", x.make(v, p), Model.in(v, 0, 3) && Model.in(p, 0, 2) ? m.add("MAKE", v, p) : -1);
            case 2, 3, 4 -> due("call", x.call(v, e), Model.in(v, 0, 3) && Model.in(e, 0, 3) ? m.add("CALL", v, e) : -1);
            case 5 -> due("move", x.move(v, w), Model.in(v, 0, 3) && Model.in(w, 0, 3) ? m.add("MOVE", v, w) : -1);
            case 6, 7 -> due("drop", x.drop(v), Model.in(v, 0, 3) ? m.add("DROP", v, 0) : -1);
            case 8, 9 -> due("choose", x.choose(), m.begin("IF"));
            case 10 -> due("otherwise", x.otherwise(), m.otherwise());
            case 11, 12 -> due("repeat", x.repeat(), m.begin("WHILE"));
            default -> due("end", x.end(), m.end());
        }
    }

    private static void ask(StateTypes x, Model m) {
        int i = argument(40);
        int v = argument(4);
        due("size", x.size(), m.size);
        due("faultAt", x.faultAt(), m.faultAt);
        due("held", x.held(i, v), m.held(i, v));
        due("runFault", x.runFault(), m.runFault);
        due("runAt", x.runAt(), m.runAt);
        due("steps", x.steps(), m.steps);
        due("left", x.left(v), m.leftIn(v));
        RAN[m.runFault]++;
    }

    private static void use(StateTypes x, Model m) {
        if (pick(8) < 3) {
            checkBoth(x, m);
        } else {
            runBoth(x, m);
        }
    }

    private static void runBoth(StateTypes x, Model m) {
        int bits = pick(Integer.MAX_VALUE) ^ (pick(2) << 31) | (pick(2) == 0 ? 0 : pick(Integer.MAX_VALUE));
        int n = pick(4) == 0 ? 32 : argument(33);
        due("run", runOf(x, bits, n), m.run(bits, n));
        most = Math.max(most, m.steps);
    }

    private static int checkBoth(StateTypes x, Model m) {
        int want = m.check();
        due("check", x.check(), want);
        CHECKED[want]++;
        return want;
    }

    /** A program of calls, branches and loops alone: it runs long, and meets few faults. */
    private static void deepObject() {
        StateTypes x = new StateTypes();
        Model m = new Model();
        for (int p = 0; p < 3; p++) {
            for (int s = 0; s < 5; s++) {
                due("mark", x.mark(p, s, true), m.mark(p, s, true));
                for (int e = 0; e < 4; e++) {
                    int t = e == 3 ? pick(5) : e == 2 ? (s + 1) % 5 : s;
                    due("lead", x.lead(p, s, e, t), m.lead(p, s, e, t));
                }
            }
        }
        for (int v = pick(4); v >= 0; v--) {
            int p = pick(3);
            due("make", x.make(v, p), m.add("MAKE", v, p));
        }
        int changing = pick(40);
        for (int calls = 0; calls < 60; calls++) {
            int kind = pick(8);
            if (kind < 2) {
                int e = pick(40) < changing ? pick(4) : pick(2);
                due("call", x.call(0, e), m.add("CALL", 0, e));
            } else {
                build(x, m, new int[] {8, 8, 10, 12, 13, 13}[kind - 2]);
            }
        }
        while (!m.open.isEmpty()) {
            due("end", x.end(), m.end());
        }
        boolean accepted = checkBoth(x, m) == 0;
        for (int k = 0; k < 10; k++) {
            runBoth(x, m);
            ask(x, m);
            if (accepted) {
                due("runFault of an accepted program", x.runFault(), 0);
            }
        }
        for (int i = 0; i < 40; i++) {
            due("held", x.held(i, 0), m.held(i, 0));
        }
    }

    private static void oneObject(int which) {
        StateTypes x = new StateTypes();
        Model m = new Model();
        made = 0;
        setUp(x, m, 2 + which % 5);
        int share = 2 + which % 9;
        while (made < CALLS - MOST_OF_A_TURN) {
            if (pick(share) > 0) {
                build(x, m, pick(17));
            } else {
                for (int k = pick(8); k > 0 && !m.open.isEmpty(); k--) {
                    due("end", x.end(), m.end());
                }
                use(x, m);
            }
            ask(x, m);
            if (pick(4 + 3 * share) == 0) {
                x.clear();
                m.clear();
                made++;
            }
            if (pick(30) == 0) {
                int p = argument(3);
                int s = argument(5);
                int e = argument(4);
                int t = argument(6) - 1;
                due("lead", x.lead(p, s, e, t), m.lead(p, s, e, t));
                due("mark", x.mark(p, s, e == 0), m.mark(p, s, e == 0));
            }
        }
    }

    public static void main(String[] args) {
        for (int which = 0; which < OBJECTS; which++) {
            oneObject(which);
            deepObject();
        }
        for (int fault = 0; fault < 9; fault++) {
            boolean runsMeetIt = fault < 5 || fault == 7;
            if (CHECKED[fault] == 0 || runsMeetIt && RAN[fault] == 0) {
                wrong++;
                System.out.println("fault " + fault + " was never met");
            }
        }
        System.out.println("checked " + Arrays.toString(CHECKED) + ", ran " + Arrays.toString(RAN)
                + ", at most " + most + " steps");
        System.out.println(wrong == 0 ? "all answers are as due" : wrong + " answers are not as due");
        if (wrong != 0) {
            System.exit(1);
        }
    }
}
