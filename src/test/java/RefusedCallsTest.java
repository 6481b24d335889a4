import java.util.ArrayList;
import java.util.List;
import java.util.Random;

/**
 * A refused call, or one that only asks, changes nothing: of two objects with the same run of calls one has such a
 * call before every other one, and both must answer alike.
 */
public final class RefusedCallsTest {
    private static final int NONE = TouchSelect.NONE;
    private static final int STEPS = 120;
    private static int wrong = 0;

    private interface Call {
        long on(TouchSelect x);
    }

    private record Idle(String name, boolean refused, Call call) {
    }

    public static void main(String[] args) {
        List<Idle> few = new ArrayList<>();
        addRefused(few, 2, 2, 3);
        addQuestions(few);
        List<Idle> full = new ArrayList<>();
        addRefused(full, 20, 40, 24);
        addRefusedWhenFull(full);
        addQuestions(full);
        for (int seed = 0; seed < 40; seed++) {
            compareAll(few, 2, 2, 3, seed);
            compareAll(full, 20, 40, 24, seed);
        }
        System.out.println(wrong == 0 ? "refused calls change nothing" : wrong + " answers are not as due");
        if (wrong != 0) {
            System.exit(1);
        }
    }

    private static void refuse(List<Idle> to, String name, Call call) {
        to.add(new Idle(name, true, call));
    }

    private static void ask(List<Idle> to, String name, Call call) {
        to.add(new Idle(name, false, call));
    }

    private static long number(boolean answer) {
        return answer ? 1 : NONE;
    }

    private static void addRefused(List<Idle> to, int files, int functions, int tests) {
        int[] noFiles = {-1, files, Integer.MIN_VALUE, Integer.MAX_VALUE};
        for (int no : noFiles) {
            refuse(to, "function of file " + no, x -> x.function(no, 7));
            refuse(to, "change of file " + no, x -> number(x.change(no, 7)));
            refuse(to, "reads of file " + no, x -> x.reads(1, no, NONE));
            refuse(to, "together with file " + no, x -> x.together(1, no));
            refuse(to, "touched of file " + no, x -> number(x.touched(no)));
        }
        int[] noFunctions = {-2, functions, Integer.MIN_VALUE, Integer.MAX_VALUE};
        for (int no : noFunctions) {
            refuse(to, "change of function " + no, x -> number(x.changeFunction(no, 7)));
            refuse(to, "reads of function " + no, x -> x.reads(1, 0, no));
        }
        refuse(to, "change of function -1", x -> number(x.changeFunction(-1, 7)));
        refuse(to, "reads of another file's function", x -> x.reads(1, 1, 0));
        int[] noTests = {-1, tests, Integer.MIN_VALUE, Integer.MAX_VALUE};
        for (int no : noTests) {
            refuse(to, "setting of test " + no, x -> number(x.setting(no, 7)));
            refuse(to, "reads of test " + no, x -> x.reads(no, 0, NONE));
            refuse(to, "outcome of test " + no, x -> x.outcome(no, true));
            refuse(to, "failure of test " + no, x -> x.outcome(no, false));
            refuse(to, "why of test " + no, x -> x.why(no));
            refuse(to, "kept of test " + no, x -> x.kept(no, 0));
            refuse(to, "share of test " + no, x -> x.share(no));
            refuse(to, "together with test " + no, x -> x.together(no, 0));
        }
        refuse(to, "test of mode -1", x -> x.test(-1, 1));
        refuse(to, "test of mode 3", x -> x.test(3, 1));
        refuse(to, "test of time 0", x -> x.test(0, 0));
        refuse(to, "test of time 1001", x -> x.test(0, 1001));
        refuse(to, "select with -1", x -> x.select(-1));
        refuse(to, "select with 100001", x -> x.select(100001));
        refuse(to, "at -1", x -> x.at(-1));
        refuse(to, "at behind all", x -> x.at(tests));
        refuse(to, "kept of what 2", x -> x.kept(0, 2));
        refuse(to, "missed of what 2", x -> x.missed(0, 2));
        refuse(to, "missed behind all", x -> x.missed(100, 0));
    }

    private static void addRefusedWhenFull(List<Idle> to) {
        refuse(to, "file beyond 20", x -> x.file(7));
        refuse(to, "function beyond 40", x -> x.function(0, 7));
        refuse(to, "test beyond 24", x -> x.test(2, 1));
        refuse(to, "file beyond 30 reads", x -> x.reads(0, 0, NONE));
        refuse(to, "function beyond 30 reads", x -> x.reads(0, 19, 39));
    }

    private static void addQuestions(List<Idle> to) {
        ask(to, "at", x -> x.at(0));
        ask(to, "why", x -> x.why(1));
        ask(to, "kept", x -> x.kept(1, 0));
        ask(to, "kept, no reason", x -> x.kept(1, 1));
        ask(to, "share", x -> x.share(1));
        ask(to, "together", x -> x.together(1, 1));
        ask(to, "touched", x -> number(x.touched(1)));
        ask(to, "missed", x -> x.missed(0, 1));
    }

    private static void compareAll(List<Idle> idles, int files, int functions, int tests, int seed) {
        for (Idle idle : idles) {
            List<Call> calls = callsOf(files, tests, seed);
            TouchSelect plain = setUp(files, functions, tests);
            TouchSelect other = setUp(files, functions, tests);
            for (int i = 0; i < calls.size(); i++) {
                long answer = i < STEPS ? idle.call.on(other) : NONE;
                if (idle.refused && answer != NONE) {
                    tell(idle.name + " was not refused: " + answer);
                }
                long want = calls.get(i).on(plain);
                long got = calls.get(i).on(other);
                if (got != want) {
                    tell("with " + idle.name + " call " + i + " answered " + got + ", without " + want);
                }
            }
        }
    }

    private static void tell(String what) {
        wrong++;
        if (wrong <= 50) {
            System.out.println(what);
        }
    }

    /** All functions are of file 0 but the last, which is of the last file; test 0 reads up to 30 of them. */
    private static TouchSelect setUp(int files, int functions, int tests) {
        TouchSelect x = new TouchSelect();
        for (int i = 0; i < files; i++) {
            x.file(0);
        }
        for (int i = 0; i < functions; i++) {
            x.function(i < functions - 1 ? 0 : files - 1, 0);
        }
        for (int i = 0; i < tests; i++) {
            x.test(i % 3, 1 + i % 4);
        }
        for (int i = 0; i < 30 && i < functions - 1; i++) {
            x.reads(0, 0, i);
        }
        return x;
    }

    /** Calls among the first things of each kind; test 0 has its outcome only when the idle calls are over. */
    private static List<Call> callsOf(int files, int tests, int seed) {
        Random random = new Random(seed);
        List<Call> calls = new ArrayList<>();
        while (calls.size() < STEPS) {
            calls.add(oneCall(random));
        }
        calls.add(x -> x.outcome(0, false));
        for (int i = 0; i < tests; i++) {
            int test = i;
            calls.add(x -> x.why(test));
            calls.add(x -> x.kept(test, 1));
        }
        for (int i = 0; i < files; i++) {
            int file = i;
            calls.add(x -> number(x.touched(file)));
        }
        calls.add(x -> x.file(9));
        calls.add(x -> x.function(1, 9));
        calls.add(x -> x.test(2, 9));
        calls.add(x -> x.select(3));
        for (int i = 0; i < 5; i++) {
            int place = i;
            calls.add(x -> x.at(place));
            calls.add(x -> x.missed(place, 0));
            calls.add(x -> x.missed(place, 1));
        }
        return calls;
    }

    private static Call oneCall(Random random) {
        int file = random.nextInt(2);
        int test = 1 + random.nextInt(2);
        long digest = random.nextInt(3);
        int budget = random.nextInt(5);
        boolean passed = random.nextBoolean();
        return switch (random.nextInt(12)) {
            case 0 -> x -> number(x.change(file, digest));
            case 1 -> x -> number(x.changeFunction(0, digest));
            case 2 -> x -> x.reads(test, file, NONE);
            case 3 -> x -> x.reads(test, 0, 0);
            case 4, 5 -> x -> x.outcome(test, passed);
            case 6 -> x -> x.select(budget);
            case 7 -> x -> x.why(test);
            case 8 -> x -> x.kept(test, 1);
            case 9 -> x -> x.share(test);
            case 10 -> x -> number(x.setting(test, digest));
            default -> x -> x.together(test, file);
        };
    }
}
