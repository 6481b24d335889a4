import java.util.ArrayList;
import java.util.Comparator;
import java.util.LinkedHashSet;
import java.util.List;
import java.util.Random;
import java.util.Set;

/** Long runs of calls, drawn by fixed seeds, against a slow model that follows the document's terms. */
public final class ModelTest {
    private static final int RUNS = 3000;
    private static final int CALLS = 512;

    private record FileState(long rest, List<Integer> functions, List<Long> digests) { }

    private record Read(int file, int function) { }

    private static final class ModelTestCase {
        int mode;
        int time;
        long setting;
        Set<Read> told = new LinkedHashSet<>();
        Set<Read> kept = new LinkedHashSet<>();
        List<FileState> then = null;
        long settingThen;
        List<Integer> failedWith = new ArrayList<>();
    }

    private static final class Model {
        List<Long> rests = new ArrayList<>();
        List<Integer> owners = new ArrayList<>();
        List<Long> digests = new ArrayList<>();
        List<ModelTestCase> tests = new ArrayList<>();
        Set<Integer> touched = new LinkedHashSet<>();
        Set<Integer> touchedThen = new LinkedHashSet<>();
        List<Integer> selection = new ArrayList<>();
        int selections = 0;
        List<int[]> missed = new ArrayList<>();

        boolean isFile(int n) {
            return n >= 0 && n < rests.size();
        }

        boolean isFunction(int n) {
            return n >= 0 && n < owners.size();
        }

        boolean isTest(int n) {
            return n >= 0 && n < tests.size();
        }

        FileState stateOf(int file) {
            List<Integer> numbers = new ArrayList<>();
            List<Long> values = new ArrayList<>();
            for (int i = 0; i < owners.size(); i++) {
                if (owners.get(i) == file) {
                    numbers.add(i);
                    values.add(digests.get(i));
                }
            }
            return new FileState(rests.get(file), numbers, values);
        }

        boolean fileChanged(ModelTestCase t, int file) {
            return !t.then.get(file).equals(stateOf(file));
        }

        boolean functionChanged(ModelTestCase t, Read r) {
            FileState old = t.then.get(r.file());
            return old.digests().get(old.functions().indexOf(r.function())).longValue() != digests.get(r.function());
        }

        boolean restChanged(ModelTestCase t, int file) {
            return t.then.get(file).rest() != rests.get(file);
        }

        int file(long digest) {
            if (rests.size() == 20) {
                return -1;
            }
            rests.add(digest);
            touched.add(rests.size() - 1);
            return rests.size() - 1;
        }

        int function(int file, long digest) {
            if (owners.size() == 40 || !isFile(file)) {
                return -1;
            }
            owners.add(file);
            digests.add(digest);
            touched.add(file);
            return owners.size() - 1;
        }

        boolean change(int file, long digest) {
            if (!isFile(file)) {
                return false;
            }
            if (rests.set(file, digest) != digest) {
                touched.add(file);
            }
            return true;
        }

        boolean changeFunction(int function, long digest) {
            if (!isFunction(function)) {
                return false;
            }
            if (digests.set(function, digest) != digest) {
                touched.add(owners.get(function));
            }
            return true;
        }

        int test(int mode, int time) {
            if (tests.size() == 24 || mode < 0 || mode > 2 || time < 1 || time > 1000) {
                return -1;
            }
            ModelTestCase t = new ModelTestCase();
            t.mode = mode;
            t.time = time;
            tests.add(t);
            return tests.size() - 1;
        }

        boolean setting(int test, long v) {
            if (isTest(test)) {
                tests.get(test).setting = v;
            }
            return isTest(test);
        }

        int reads(int test, int file, int function) {
            if (!isTest(test) || !isFile(file)) {
                return -1;
            }
            if (function != -1 && (!isFunction(function) || owners.get(function) != file)) {
                return -1;
            }
            Set<Read> told = tests.get(test).told;
            Read read = new Read(file, function);
            if (told.contains(read)) {
                return 0;
            }
            if (told.size() == 30) {
                return -1;
            }
            told.add(read);
            return 1;
        }

        int outcome(int test, boolean passed) {
            if (!isTest(test)) {
                return -1;
            }
            ModelTestCase t = tests.get(test);
            t.kept = t.told;
            t.told = new LinkedHashSet<>();
            t.settingThen = t.setting;
            t.then = new ArrayList<>();
            for (int i = 0; i < rests.size(); i++) {
                t.then.add(stateOf(i));
            }
            if (!passed && selections > 0) {
                t.failedWith.addAll(touchedThen);
                if (!selection.contains(test) && missed.size() < 100) {
                    missed.add(new int[] {test, selections});
                }
            }
            return t.kept.size();
        }

        int why(int test) {
            if (!isTest(test)) {
                return -1;
            }
            ModelTestCase t = tests.get(test);
            if (t.mode == 2) {
                return 1;
            }
            if (t.then == null) {
                return 2;
            }
            if (t.setting != t.settingThen) {
                return 3;
            }
            for (Read r : t.kept) {
                if ((t.mode == 0 || r.function() == -1) && fileChanged(t, r.file())) {
                    return 4;
                }
            }
            for (Read r : t.kept) {
                if (t.mode == 1 && r.function() != -1 && functionChanged(t, r)) {
                    return 5;
                }
            }
            for (Read r : t.kept) {
                if (t.mode == 1 && r.function() != -1 && restChanged(t, r.file())) {
                    return 6;
                }
            }
            return 0;
        }

        int kept(int test, int what) {
            if (!isTest(test) || what < 0 || what > 1) {
                return -1;
            }
            ModelTestCase t = tests.get(test);
            int count = 0;
            for (Read r : t.kept) {
                boolean byFile = t.mode != 1 || r.function() == -1;
                boolean bad = byFile ? fileChanged(t, r.file()) : functionChanged(t, r) || restChanged(t, r.file());
                count += what == 0 || !bad ? 1 : 0;
            }
            return count;
        }

        int share(int test) {
            if (!isTest(test)) {
                return -1;
            }
            return (int) tests.get(test).failedWith.stream().filter(touched::contains).count();
        }

        int together(int test, int file) {
            if (!isTest(test) || !isFile(file)) {
                return -1;
            }
            return (int) tests.get(test).failedWith.stream().filter(f -> f == file).count();
        }

        int select(int budget) {
            if (budget < 0 || budget > 100000) {
                return -1;
            }
            List<Integer> chosen = new ArrayList<>();
            List<Integer> others = new ArrayList<>();
            for (int i = 0; i < tests.size(); i++) {
                if (why(i) != 0) {
                    chosen.add(i);
                } else if (share(i) > 0) {
                    others.add(i);
                }
            }
            others.sort(Comparator.comparing((Integer i) -> new java.math.BigDecimal(share(i))
                .divide(new java.math.BigDecimal(tests.get(i).time), 30, java.math.RoundingMode.DOWN))
                .reversed().thenComparing(i -> i));
            int spent = 0;
            for (int i : others) {
                if (spent + tests.get(i).time <= budget) {
                    spent += tests.get(i).time;
                    chosen.add(i);
                }
            }
            selection = chosen;
            selections++;
            touchedThen = touched;
            touched = new LinkedHashSet<>();
            return chosen.size();
        }

        int at(int i) {
            return i >= 0 && i < selection.size() ? selection.get(i) : -1;
        }

        int missed(int i, int what) {
            return i >= 0 && i < missed.size() && what >= 0 && what <= 1 ? missed.get(i)[what] : -1;
        }
    }

    private static final Random RANDOM = new Random(1);
    private static int wrong = 0;
    private static int run = 0;
    private static int extrasSeen = 0;

    public static void main(String[] args) {
        for (run = 0; run < RUNS && wrong < 20; run++) {
            oneRun();
        }
        if (extrasSeen < RUNS) {
            wrong++;
            System.out.println("the runs draw too few extras: " + extrasSeen);
        }
        System.out.println(wrong == 0 ? "as the model" : wrong + " answers are not as the model's");
        if (wrong != 0) {
            System.exit(1);
        }
    }

    private static void oneRun() {
        RANDOM.setSeed(run);
        TouchSelect x = new TouchSelect();
        Model m = new Model();
        int before = wrong;
        int growth = 1 + RANDOM.nextInt(20);
        for (int call = 0; call < CALLS && wrong == before; call++) {
            oneCall(x, m, growth);
        }
    }

    private static void due(String call, long got, long want) {
        if (got != want) {
            wrong++;
            System.out.println("run " + run + ": " + call + " answered " + got + ", due is " + want);
        }
    }

    private static void due(String call, boolean got, boolean want) {
        due(call, got ? 1 : 0, want ? 1 : 0);
    }

    private static int number(int count) {
        int kind = RANDOM.nextInt(40);
        if (kind == 0) {
            return RANDOM.nextInt();
        }
        return kind == 1 ? -1 : RANDOM.nextInt(count + (kind == 2 ? 1 : 0) + (count == 0 ? 1 : 0));
    }

    private static long digest() {
        return RANDOM.nextInt(10) == 0 ? RANDOM.nextLong() : RANDOM.nextInt(3);
    }

    private static int functionFor(Model m, int file) {
        int function = number(m.owners.size());
        for (int i = 0; i < 10 && m.isFunction(function) && m.owners.get(function) != file; i++) {
            function = number(m.owners.size());
        }
        return function;
    }

    private static void oneCall(TouchSelect x, Model m, int growth) {
        int kind = RANDOM.nextInt(100 + growth);
        if (kind >= 100) {
            grow(x, m);
        } else if (kind < 45) {
            act(x, m, kind);
        } else {
            ask(x, m, kind);
        }
    }

    private static void grow(TouchSelect x, Model m) {
        long d = digest();
        int kind = RANDOM.nextInt(4);
        if (kind == 0) {
            due("file(" + d + ")", x.file(d), m.file(d));
        } else if (kind < 3) {
            int f = number(m.rests.size());
            due("function(" + f + ", " + d + ")", x.function(f, d), m.function(f, d));
        } else {
            int mode = RANDOM.nextInt(12) == 0 ? number(4) : RANDOM.nextInt(5) / 2;
            int time = RANDOM.nextInt(20) == 0 ? RANDOM.nextInt(1100) - 50 : 1 + RANDOM.nextInt(12);
            due("test(" + mode + ", " + time + ")", x.test(mode, time), m.test(mode, time));
        }
    }

    private static void act(TouchSelect x, Model m, int kind) {
        int t = number(m.tests.size());
        int f = number(m.rests.size());
        long d = digest();
        if (kind < 4) {
            due("change(" + f + ", " + d + ")", x.change(f, d), m.change(f, d));
        } else if (kind < 8) {
            int g = number(m.owners.size());
            due("changeFunction(" + g + ", " + d + ")", x.changeFunction(g, d), m.changeFunction(g, d));
        } else if (kind < 10) {
            due("setting(" + t + ", " + d + ")", x.setting(t, d), m.setting(t, d));
        } else if (kind < 24) {
            int g = RANDOM.nextInt(3) == 0 ? -1 : functionFor(m, f);
            due("reads(" + t + ", " + f + ", " + g + ")", x.reads(t, f, g), m.reads(t, f, g));
        } else if (kind < 41) {
            boolean passed = RANDOM.nextInt(3) == 0;
            due("outcome(" + t + ", " + passed + ")", x.outcome(t, passed), m.outcome(t, passed));
        } else {
            int budget = RANDOM.nextInt(10) == 0 ? RANDOM.nextInt(110000) - 5000 : RANDOM.nextInt(40);
            due("select(" + budget + ")", x.select(budget), m.select(budget));
            for (int test : m.selection) {
                extrasSeen += m.why(test) == 0 ? 1 : 0;
            }
        }
    }

    private static void ask(TouchSelect x, Model m, int kind) {
        int t = number(m.tests.size());
        int f = number(m.rests.size());
        int what = RANDOM.nextInt(10) == 0 ? number(3) : RANDOM.nextInt(2);
        if (kind < 53) {
            int i = number(m.selection.size());
            due("at(" + i + ")", x.at(i), m.at(i));
        } else if (kind < 66) {
            due("why(" + t + ")", x.why(t), m.why(t));
        } else if (kind < 76) {
            due("kept(" + t + ", " + what + ")", x.kept(t, what), m.kept(t, what));
        } else if (kind < 82) {
            due("share(" + t + ")", x.share(t), m.share(t));
        } else if (kind < 88) {
            due("together(" + t + ", " + f + ")", x.together(t, f), m.together(t, f));
        } else if (kind < 94) {
            due("touched(" + f + ")", x.touched(f), m.touched.contains(f));
        } else {
            int i = number(m.missed.size());
            due("missed(" + i + ", " + what + ")", x.missed(i, what), m.missed(i, what));
        }
    }
}
