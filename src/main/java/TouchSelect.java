/** Chooses tests by what changed since each of them ran last; see README.md. */
public final class TouchSelect {
    public static final int NONE = -1;

    private static final int MAX_FILES = 20;
    private static final int MAX_FUNCTIONS = 40;
    private static final int MAX_TESTS = 24;
    private static final int MAX_READS = 30;
    private static final int MAX_TIME = 1000;
    private static final int MAX_BUDGET = 100000;
    private static final int MAX_MISSED = 100;

    private static final int BY_FILES = 0;
    private static final int BY_FUNCTIONS = 1;
    private static final int ALWAYS = 2;

    private static final int NOT_CHOSEN = 0;
    private static final int RUNS_ALWAYS = 1;
    private static final int NEVER_RAN = 2;
    private static final int OTHER_SETTING = 3;
    private static final int OTHER_FILE = 4;
    private static final int OTHER_FUNCTION = 5;
    private static final int OTHER_REST = 6;

    // A read is held as one number: a file's own, or a function's behind those of all files.
    private static final int READ_KINDS = MAX_FILES + MAX_FUNCTIONS;

    private final Sources sources;
    private final TestRow[] tests;
    private int testCount;
    private final Selection latest;
    private final Ranking extras;
    private final MissedRows missedRows;

    public TouchSelect() {
        sources = new Sources();
        tests = new TestRow[MAX_TESTS];
        testCount = 0;
        latest = new Selection();
        extras = new Ranking();
        missedRows = new MissedRows();
    }

    public int file(long digest) {
        return sources.addFile(digest);
    }

    public int function(int file, long digest) {
        return sources.addFunction(file, digest);
    }

    public boolean change(int file, long digest) {
        return sources.putRest(file, digest);
    }

    public boolean changeFunction(int function, long digest) {
        return sources.putFunction(function, digest);
    }

    public int test(int mode, int time) {
        if (testCount >= MAX_TESTS || mode < BY_FILES || mode > ALWAYS || time < 1 || time > MAX_TIME) {
            return NONE;
        }
        tests[testCount] = new TestRow(mode, time);
        testCount++;
        return testCount - 1;
    }

    public boolean setting(int test, long v) {
        TestRow row = rowOf(test);
        if (row == null) {
            return false;
        }
        row.setting = v;
        return true;
    }

    public int reads(int test, int file, int function) {
        TestRow row = rowOf(test);
        if (row == null || !sources.hasFile(file)) {
            return NONE;
        }
        if (function == NONE) {
            return row.addRead(file);
        }
        if (!sources.hasFunction(function) || sources.fileOf[function] != file) {
            return NONE;
        }
        return row.addRead(MAX_FILES + function);
    }

    public int outcome(int test, boolean passed) {
        TestRow row = rowOf(test);
        if (row == null) {
            return NONE;
        }
        if (!passed && latest.count > 0) {
            row.failWith(latest.touchedThen);
            if (!latest.holds(test)) {
                missedRows.add(test, latest.count);
            }
        }
        return row.keep(sources);
    }

    public int select(int budget) {
        if (budget < 0 || budget > MAX_BUDGET) {
            return NONE;
        }
        latest.startNext();
        extras.size = 0;
        for (int i = 0; i < testCount; i++) {
            placeInSelection(i);
        }
        takeExtras(budget);
        sources.handOverTouched(latest.touchedThen);
        return latest.size;
    }

    public int at(int i) {
        return i >= 0 && i < latest.size ? latest.members[i] : NONE;
    }

    public int why(int test) {
        TestRow row = rowOf(test);
        return row == null ? NONE : row.reasonNow(sources);
    }

    public int kept(int test, int what) {
        TestRow row = rowOf(test);
        if (row == null) {
            return NONE;
        }
        if (what == 0) {
            return Long.bitCount(row.keptReads);
        }
        return what == 1 ? row.countHarmless(sources) : NONE;
    }

    public int share(int test) {
        TestRow row = rowOf(test);
        return row == null ? NONE : row.sumFailures(sources.touched);
    }

    public int together(int test, int file) {
        TestRow row = rowOf(test);
        return row == null || !sources.hasFile(file) ? NONE : row.failures[file];
    }

    public boolean touched(int file) {
        return sources.hasFile(file) && sources.touched[file];
    }

    public int missed(int i, int what) {
        if (i < 0 || i >= missedRows.size) {
            return NONE;
        }
        if (what == 0) {
            return missedRows.tests[i];
        }
        return what == 1 ? missedRows.selections[i] : NONE;
    }

    private TestRow rowOf(int test) {
        return test >= 0 && test < testCount ? tests[test] : null;
    }

    private void placeInSelection(int test) {
        TestRow row = rowOf(test);
        if (row == null) {
            return;
        }
        if (row.reasonNow(sources) != NOT_CHOSEN) {
            latest.add(test);
            return;
        }
        int failures = row.sumFailures(sources.touched);
        if (failures > 0) {
            extras.insert(test, failures, row.time);
        }
    }

    private void takeExtras(int budget) {
        int left = budget;
        for (int i = 0; i < extras.size; i++) {
            if (extras.times[i] <= left) {
                left -= extras.times[i];
                latest.add(extras.tests[i]);
            }
        }
    }

    /** The files and their functions as they are now. */
    private static final class Sources {
        final long[] rests = new long[MAX_FILES];
        final boolean[] touched = new boolean[MAX_FILES];
        int fileCount = 0;
        final long[] functions = new long[MAX_FUNCTIONS];
        final int[] fileOf = new int[MAX_FUNCTIONS];
        int functionCount = 0;

        boolean hasFile(int file) {
            return file >= 0 && file < fileCount;
        }

        boolean hasFunction(int function) {
            return function >= 0 && function < functionCount;
        }

        int addFile(long digest) {
            if (fileCount >= MAX_FILES) {
                return NONE;
            }
            rests[fileCount] = digest;
            touched[fileCount] = true;
            fileCount++;
            return fileCount - 1;
        }

        int addFunction(int file, long digest) {
            if (functionCount >= MAX_FUNCTIONS || !hasFile(file)) {
                return NONE;
            }
            functions[functionCount] = digest;
            fileOf[functionCount] = file;
            touched[file] = true;
            functionCount++;
            return functionCount - 1;
        }

        boolean putRest(int file, long digest) {
            if (!hasFile(file)) {
                return false;
            }
            if (rests[file] != digest) {
                rests[file] = digest;
                touched[file] = true;
            }
            return true;
        }

        boolean putFunction(int function, long digest) {
            if (!hasFunction(function)) {
                return false;
            }
            if (functions[function] != digest) {
                functions[function] = digest;
                touched[fileOf[function]] = true;
            }
            return true;
        }

        void handOverTouched(boolean[] to) {
            for (int i = 0; i < MAX_FILES; i++) {
                to[i] = touched[i];
                touched[i] = false;
            }
        }
    }

    /** One test, with what it reads now and with all digests as they were at its latest outcome. */
    private static final class TestRow {
        final int mode;
        final int time;
        long setting = 0;
        long readsNow = 0;
        boolean hasRun = false;
        long keptReads = 0;
        long keptSetting = 0;
        final long[] keptRests = new long[MAX_FILES];
        final long[] keptFunctions = new long[MAX_FUNCTIONS];
        int keptFunctionCount = 0;
        final int[] failures = new int[MAX_FILES];

        TestRow(int mode, int time) {
            this.mode = mode;
            this.time = time;
        }

        int addRead(int read) {
            long bit = 1L << read;
            if ((readsNow & bit) != 0) {
                return 0;
            }
            if (Long.bitCount(readsNow) >= MAX_READS) {
                return NONE;
            }
            readsNow |= bit;
            return 1;
        }

        int keep(Sources now) {
            System.arraycopy(now.rests, 0, keptRests, 0, MAX_FILES);
            System.arraycopy(now.functions, 0, keptFunctions, 0, MAX_FUNCTIONS);
            keptFunctionCount = now.functionCount;
            keptSetting = setting;
            keptReads = readsNow;
            readsNow = 0;
            hasRun = true;
            return Long.bitCount(keptReads);
        }

        void failWith(boolean[] files) {
            for (int i = 0; i < MAX_FILES; i++) {
                if (files[i]) {
                    failures[i]++;
                }
            }
        }

        int sumFailures(boolean[] files) {
            int sum = 0;
            for (int i = 0; i < MAX_FILES; i++) {
                if (files[i]) {
                    sum += failures[i];
                }
            }
            return sum;
        }

        int reasonNow(Sources now) {
            if (mode == ALWAYS) {
                return RUNS_ALWAYS;
            }
            if (!hasRun) {
                return NEVER_RAN;
            }
            return setting != keptSetting ? OTHER_SETTING : firstReasonOfReads(now);
        }

        private int firstReasonOfReads(Sources now) {
            int first = NOT_CHOSEN;
            for (int read = 0; read < READ_KINDS; read++) {
                int reason = hasKept(read) ? reasonOfRead(read, now) : NOT_CHOSEN;
                if (reason != NOT_CHOSEN && (first == NOT_CHOSEN || reason < first)) {
                    first = reason;
                }
            }
            return first;
        }

        int countHarmless(Sources now) {
            int count = 0;
            for (int read = 0; read < READ_KINDS; read++) {
                if (hasKept(read) && reasonOfRead(read, now) == NOT_CHOSEN) {
                    count++;
                }
            }
            return count;
        }

        private boolean hasKept(int read) {
            return ((keptReads >>> read) & 1L) != 0;
        }

        private int reasonOfRead(int read, Sources now) {
            if (read < MAX_FILES) {
                return isAsItWas(read, now) ? NOT_CHOSEN : OTHER_FILE;
            }
            int function = read - MAX_FILES;
            int file = now.fileOf[function];
            if (mode != BY_FUNCTIONS) {
                return isAsItWas(file, now) ? NOT_CHOSEN : OTHER_FILE;
            }
            if (keptFunctions[function] != now.functions[function]) {
                return OTHER_FUNCTION;
            }
            return keptRests[file] != now.rests[file] ? OTHER_REST : NOT_CHOSEN;
        }

        private boolean isAsItWas(int file, Sources now) {
            if (keptRests[file] != now.rests[file]) {
                return false;
            }
            for (int i = 0; i < now.functionCount; i++) {
                // Functions never go, so the file has others than then only if one came since.
                boolean same = i < keptFunctionCount && keptFunctions[i] == now.functions[i];
                if (now.fileOf[i] == file && !same) {
                    return false;
                }
            }
            return true;
        }
    }

    /** The latest selection, and how many there have been. */
    private static final class Selection {
        final int[] members = new int[MAX_TESTS];
        int size = 0;
        int count = 0;
        final boolean[] touchedThen = new boolean[MAX_FILES];

        void startNext() {
            size = 0;
            count++;
        }

        void add(int test) {
            if (size < MAX_TESTS) {
                members[size] = test;
                size++;
            }
        }

        boolean holds(int test) {
            for (int i = 0; i < size; i++) {
                if (members[i] == test) {
                    return true;
                }
            }
            return false;
        }
    }

    /** Tests that may become extras, the one with the greatest share for its time first. */
    private static final class Ranking {
        final int[] tests = new int[MAX_TESTS];
        final int[] shares = new int[MAX_TESTS];
        final int[] times = new int[MAX_TESTS];
        int size = 0;

        // Tests come by rising numbers: one goes before another only if its share is truly greater.
        void insert(int test, int share, int time) {
            if (size >= MAX_TESTS) {
                return;
            }
            int place = size;
            while (place > 0 && isGreater(share, time, place - 1)) {
                tests[place] = tests[place - 1];
                shares[place] = shares[place - 1];
                times[place] = times[place - 1];
                place--;
            }
            tests[place] = test;
            shares[place] = share;
            times[place] = time;
            size++;
        }

        private boolean isGreater(int share, int time, int place) {
            // The fractions are compared crosswise, since a division would round.
            return (long) share * times[place] > (long) shares[place] * time;
        }
    }

    /** Failures of tests that the latest selection did not have. */
    private static final class MissedRows {
        final int[] tests = new int[MAX_MISSED];
        final int[] selections = new int[MAX_MISSED];
        int size = 0;

        void add(int test, int selectionCount) {
            if (size < MAX_MISSED) {
                tests[size] = test;
                selections[size] = selectionCount;
                size++;
            }
        }
    }
}
