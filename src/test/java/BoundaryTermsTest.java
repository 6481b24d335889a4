import java.util.ArrayList;
import java.util.List;

/** For each sentence of the document's "Terms" that names a boundary case, a test under the sentence's own words. */
public final class BoundaryTermsTest {
    private static final int NONE = TouchSelect.NONE;
    // Neither the shares nor the times alone tell the order: 3 of 1, 8 of 3, 5 of 2, 7 of 4, 1 of 5.
    private static final int[] SHARES_BY_RANK = {3, 8, 5, 7, 1};
    private static final int[] TIMES_BY_RANK = {1, 3, 2, 4, 5};
    private static String sentence = "";
    private static int wrong = 0;

    public static void main(String[] args) {
        check("An object is used for at most 512 calls", BoundaryTermsTest::all512Calls);
        check("FILES, at most 20, numbered from 0", BoundaryTermsTest::files);
        check("have a REST with a DIGEST (64 bits)", BoundaryTermsTest::restOf64Bits);
        check("FUNCTIONS, at most 40, numbered from 0, are of a FILE", BoundaryTermsTest::functions);
        check("and have a DIGEST (of 64 bits too)", BoundaryTermsTest::functionOf64Bits);
        check("AS IT WAS if its REST's DIGEST is", BoundaryTermsTest::asItWasByRest);
        check("AS IT WAS if it has the same FUNCTIONS", BoundaryTermsTest::asItWasBySameFunctions);
        check("AS IT WAS if each has the same DIGEST", BoundaryTermsTest::asItWasByEachFunction);
        check("TESTS, at most 24, numbered from 0", BoundaryTermsTest::tests);
        check("have a MODE (0 by FILES, 1 by FUNCTIONS, 2 ALWAYS)", BoundaryTermsTest::modes);
        check("a TIME (1 .. 1000)", BoundaryTermsTest::times);
        check("a SETTING (64 bits", BoundaryTermsTest::settingOf64Bits);
        check("0 at first)", BoundaryTermsTest::settingAtFirst);
        check("READS are told: at most 30", BoundaryTermsTest::readsAtMost30);
        check("(the same one counts once)", BoundaryTermsTest::sameReadCountsOnce);
        check("these are its KEPT READS (in place of those before)", BoundaryTermsTest::keptInPlace);
        check("with the SETTING, as all is then", BoundaryTermsTest::asAllIsThen);
        check("it has RUN", BoundaryTermsTest::hasRun);
        check("told by the first reason that holds", BoundaryTermsTest::firstReason);
        check("1 those that run ALWAYS", BoundaryTermsTest::reason1);
        check("2 those that never have RUN", BoundaryTermsTest::reason2);
        check("3 those whose SETTING is another one than was kept", BoundaryTermsTest::reason3);
        check("4 (MODE 0) a KEPT READ (of a FILE or a FUNCTION of it)", BoundaryTermsTest::reason4ByFiles);
        check("4 (MODE 1) a KEPT READ of a FILE that isn't AS IT WAS", BoundaryTermsTest::reason4ByFunctions);
        check("5 (MODE 1) a KEPT READ of a FUNCTION whose DIGEST is another one", BoundaryTermsTest::reason5);
        check("6 (MODE 1) if the REST of its FILE has another DIGEST", BoundaryTermsTest::reason6);
        check("TOUCHED: a DIGEST became another one", BoundaryTermsTest::touchedByAnotherDigest);
        check("TOUCHED: or a FUNCTION came", BoundaryTermsTest::touchedByFunction);
        check("TOUCHED: since the latest SELECTION", BoundaryTermsTest::touchedSinceSelection);
        check("(at first: all that came)", BoundaryTermsTest::touchedAtFirst);
        check("When an OUTCOME is told that failed", BoundaryTermsTest::togetherOnlyIfFailed);
        check("for each FILE that was TOUCHED at the latest SELECTION", BoundaryTermsTest::togetherAtLatestSelection);
        check("FAILED TOGETHER once more (0 at first", BoundaryTermsTest::togetherOnceMore);
        check("nothing without a SELECTION)", BoundaryTermsTest::togetherWithoutSelection);
        check("the CHOSEN ones; then EXTRAS: of the others", BoundaryTermsTest::chosenAreNoExtras);
        check("those with a SHARE above 0", BoundaryTermsTest::shareAbove0);
        check("each of the FILES that are TOUCHED now, together", BoundaryTermsTest::shareOfTouchedNow);
        check("those first whose SHARE is the greatest for their TIME", BoundaryTermsTest::greatestFirst);
        check("the greatest for their TIME (exactly)", BoundaryTermsTest::greatestExactly);
        check("of like ones the lesser number", BoundaryTermsTest::lesserNumber);
        check("each if its TIME and those before are within the BUDGET", BoundaryTermsTest::withinBudget);
        check("(others behind may fit yet)", BoundaryTermsTest::othersBehindMayFit);
        check("Then no FILE is TOUCHED any more", BoundaryTermsTest::noFileTouchedAnyMore);
        check("MISSED: an OUTCOME that failed", BoundaryTermsTest::missedOnlyIfFailed);
        check("of a TEST that wasn't in the latest SELECTION", BoundaryTermsTest::missedNotInLatest);
        check("(without any SELECTION nothing is MISSED", BoundaryTermsTest::missedWithoutSelection);
        check("at most 100 are told)", BoundaryTermsTest::missedAtMost100);
        check("NONE = -1", BoundaryTermsTest::none);
        System.out.println(wrong == 0 ? "boundaries of the terms hold" : wrong + " answers are not as due");
        if (wrong != 0) {
            System.exit(1);
        }
    }

    private static void check(String words, Runnable test) {
        sentence = words;
        test.run();
    }

    private static void due(String what, long got, long want) {
        if (got != want) {
            wrong++;
            System.out.println("\"" + sentence + "\": " + what + " answered " + got + ", due is " + want);
        }
    }

    private static void due(String what, boolean got, boolean want) {
        due(what, got ? 1 : 0, want ? 1 : 0);
    }

    private static TouchSelect withFiles(int count) {
        TouchSelect x = new TouchSelect();
        for (int i = 0; i < count; i++) {
            x.file(0);
        }
        return x;
    }

    private static int ranTest(TouchSelect x, int mode, int time) {
        int test = x.test(mode, time);
        x.outcome(test, true);
        return test;
    }

    /** A test that has read what is told, and has run. */
    private static int reader(TouchSelect x, int mode, int file, int function) {
        int test = x.test(mode, 1);
        due("read", x.reads(test, file, function), 1);
        due("kept", x.outcome(test, true), 1);
        return test;
    }

    private static void fail(TouchSelect x, int test, int times) {
        for (int i = 0; i < times; i++) {
            x.outcome(test, false);
        }
    }

    private static void all512Calls() {
        TouchSelect manySelections = new TouchSelect();
        ranTest(manySelections, 0, 1);
        for (int i = 0; i < 508; i++) {
            due("select", manySelections.select(i % 2 * 100000), 0);
        }
        fail(manySelections, 0, 1);
        due("the 512th call: selections", manySelections.missed(0, 1), 508);

        TouchSelect manyFailures = withFiles(20);
        manyFailures.test(0, 1);
        manyFailures.select(0);
        fail(manyFailures, 0, 467);
        for (int i = 0; i < 20; i++) {
            manyFailures.change(i, 1);
        }
        due("the 510th call: share", manyFailures.share(0), 9340);
        due("the 511th call: one extra", manyFailures.select(1), 1);
        due("the 512th call: failures", manyFailures.together(0, 19), 467);
    }

    private static void files() {
        TouchSelect x = new TouchSelect();
        for (int i = 0; i < 20; i++) {
            due("file", x.file(i), i);
        }
        due("the 21st", x.file(20), NONE);
        due("the last is there", x.change(19, 5), true);
        due("none behind it", x.change(20, 5), false);
    }

    private static void restOf64Bits() {
        TouchSelect x = new TouchSelect();
        x.file(Long.MIN_VALUE);
        reader(x, 0, 0, NONE);
        for (int bit = 0; bit < 64; bit++) {
            x.change(0, Long.MIN_VALUE ^ 1L << bit);
            due("bit " + bit, x.why(0), 4);
        }
        x.change(0, Long.MAX_VALUE);
        due("the greatest", x.why(0), 4);
        x.change(0, Long.MAX_VALUE + 1);
        due("wrapped around to the least", x.why(0), 0);
    }

    private static void functions() {
        TouchSelect x = withFiles(20);
        for (int i = 0; i < 40; i++) {
            due("function", x.function(i % 2 == 0 ? 0 : 19, i), i);
        }
        due("the 41st", x.function(0, 40), NONE);
        due("the last is there", x.changeFunction(39, 5), true);
        due("none behind it", x.changeFunction(40, 5), false);
        x.test(0, 1);
        due("the first is of its file", x.reads(0, 0, 0), 1);
        due("and of no other", x.reads(0, 19, 0), NONE);
        due("the last is of its file", x.reads(0, 19, 39), 1);
        due("and of no other", x.reads(0, 0, 39), NONE);
    }

    private static void functionOf64Bits() {
        TouchSelect x = withFiles(1);
        x.function(0, Long.MIN_VALUE);
        reader(x, 1, 0, 0);
        for (int bit = 0; bit < 64; bit++) {
            x.changeFunction(0, Long.MIN_VALUE ^ 1L << bit);
            due("bit " + bit, x.why(0), 5);
        }
        x.changeFunction(0, Long.MAX_VALUE);
        due("the greatest", x.why(0), 5);
        x.changeFunction(0, Long.MAX_VALUE + 1);
        due("wrapped around to the least", x.why(0), 0);
    }

    private static void asItWasByRest() {
        TouchSelect x = withFiles(20);
        reader(x, 0, 0, NONE);
        reader(x, 0, 19, NONE);
        x.change(19, 1);
        due("the first file", x.why(0), 0);
        due("the last file", x.why(1), 4);
        x.change(19, 0);
        due("changed back", x.why(1), 0);
        x.change(0, -1);
        due("the first file changed", x.why(0), 4);
        x.select(0);
        due("a selection makes nothing as it was", x.why(0), 4);
    }

    private static void asItWasBySameFunctions() {
        TouchSelect x = withFiles(2);
        reader(x, 0, 0, NONE);
        x.function(1, 0);
        due("one came to another file", x.why(0), 0);
        x.function(0, 0);
        due("one came", x.why(0), 4);
        x.changeFunction(1, 1);
        x.changeFunction(1, 0);
        due("it stays", x.why(0), 4);

        TouchSelect full = withFiles(1);
        for (int i = 0; i < 39; i++) {
            full.function(0, 0);
        }
        reader(full, 0, 0, NONE);
        due("all are the same", full.why(0), 0);
        full.function(0, 0);
        due("the 40th came", full.why(0), 4);
        full.reads(0, 0, NONE);
        full.outcome(0, true);
        full.function(0, 0);
        due("a refused one did not come", full.why(0), 0);
    }

    private static void asItWasByEachFunction() {
        TouchSelect x = withFiles(1);
        for (int i = 0; i < 40; i++) {
            x.function(0, i);
        }
        reader(x, 0, 0, NONE);
        for (int i = 0; i < 40; i++) {
            x.changeFunction(i, -1);
            due("function " + i + " has another one", x.why(0), 4);
            x.changeFunction(i, i);
            due("function " + i + " has its own again", x.why(0), 0);
        }
        x.changeFunction(0, 1);
        x.changeFunction(1, 0);
        due("two have each other's", x.why(0), 4);
    }

    private static void tests() {
        TouchSelect x = new TouchSelect();
        for (int i = 0; i < 24; i++) {
            due("test", x.test(0, 1), i);
        }
        due("the 25th", x.test(0, 1), NONE);
        due("the last is there", x.why(23), 2);
        due("none behind it", x.why(24), NONE);
    }

    private static void modes() {
        TouchSelect x = withFiles(1);
        x.function(0, 0);
        due("below", x.test(-1, 1), NONE);
        due("above", x.test(3, 1), NONE);
        due("0", x.test(0, 1), 0);
        due("1", x.test(1, 1), 1);
        due("2", x.test(2, 1), 2);
        for (int test = 0; test < 3; test++) {
            x.reads(test, 0, 0);
            x.outcome(test, true);
        }
        x.changeFunction(0, 1);
        due("by files", x.why(0), 4);
        due("by functions", x.why(1), 5);
        due("always", x.why(2), 1);
    }

    private static void times() {
        TouchSelect x = new TouchSelect();
        due("0", x.test(0, 0), NONE);
        due("1", x.test(0, 1), 0);
        due("1000", x.test(0, 1000), 1);
        due("1001", x.test(0, 1001), NONE);
        due("-1", x.test(0, -1), NONE);
        due("the refused ones are none", x.select(0), 2);
    }

    private static void settingOf64Bits() {
        TouchSelect x = new TouchSelect();
        x.test(0, 1);
        x.setting(0, Long.MIN_VALUE);
        x.outcome(0, true);
        for (int bit = 0; bit < 64; bit++) {
            x.setting(0, Long.MIN_VALUE ^ 1L << bit);
            due("bit " + bit, x.why(0), 3);
        }
        x.setting(0, Long.MAX_VALUE);
        due("the greatest", x.why(0), 3);
        x.setting(0, Long.MAX_VALUE + 1);
        due("wrapped around to the least", x.why(0), 0);
    }

    private static void settingAtFirst() {
        TouchSelect x = new TouchSelect();
        int test = ranTest(x, 0, 1);
        x.setting(test, 0);
        due("0 is the same one", x.why(test), 0);
        x.setting(test, -1);
        due("another one", x.why(test), 3);
        x.setting(test, 0);
        due("0 again", x.why(test), 0);
    }

    private static void readsAtMost30() {
        TouchSelect x = withFiles(20);
        for (int i = 0; i < 11; i++) {
            x.function(i, 0);
        }
        x.test(1, 1);
        x.test(1, 1);
        for (int i = 0; i < 20; i++) {
            due("file", x.reads(0, i, NONE), 1);
        }
        for (int i = 0; i < 10; i++) {
            due("function", x.reads(0, i, i), 1);
        }
        due("the 31st", x.reads(0, 10, 10), NONE);
        due("another test's first", x.reads(1, 10, 10), 1);
        due("thirty kept", x.outcome(0, true), 30);
        x.changeFunction(10, 1);
        due("only its file's read is a reason", x.kept(0, 1), 29);
    }

    private static void sameReadCountsOnce() {
        TouchSelect x = withFiles(1);
        x.function(0, 0);
        x.test(0, 1);
        x.reads(0, 0, NONE);
        for (int i = 0; i < 40; i++) {
            due("again", x.reads(0, 0, NONE), 0);
        }
        due("another one", x.reads(0, 0, 0), 1);
        due("two are kept", x.outcome(0, true), 2);
    }

    private static void keptInPlace() {
        TouchSelect x = withFiles(2);
        x.test(0, 1);
        x.reads(0, 0, NONE);
        x.reads(0, 1, NONE);
        due("two", x.outcome(0, true), 2);
        x.reads(0, 1, NONE);
        due("one in place of two", x.outcome(0, true), 1);
        x.change(0, 1);
        due("the other is gone", x.why(0), 0);
        x.change(1, 1);
        due("this one is kept", x.why(0), 4);
        due("none in place of one", x.outcome(0, true), 0);
        due("none kept", x.kept(0, 0), 0);
        x.change(1, 2);
        due("none is a reason", x.why(0), 0);
    }

    private static void asAllIsThen() {
        TouchSelect x = withFiles(1);
        x.function(0, 0);
        for (int mode = 0; mode < 2; mode++) {
            x.test(mode, 1);
            x.reads(mode, 0, NONE);
            x.reads(mode, 0, 0);
        }
        x.change(0, 1);
        x.changeFunction(0, 1);
        x.function(0, 1);
        for (int test = 0; test < 2; test++) {
            x.setting(test, 1);
            x.outcome(test, test == 0);
            due("nothing is another one", x.why(test), 0);
            due("no read is a reason", x.kept(test, 1), 2);
            x.setting(test, 0);
            due("the setting of the read's time is another one", x.why(test), 3);
            x.setting(test, 1);
        }
        x.changeFunction(0, 0);
        due("the digest of the read's time is another one, by files", x.why(0), 4);
        due("and by functions", x.kept(1, 1), 0);
    }

    private static void hasRun() {
        TouchSelect x = withFiles(1);
        x.test(0, 1);
        x.test(0, 1);
        x.reads(0, 0, NONE);
        x.select(0);
        due("reads and selections are no run", x.why(0), 2);
        x.outcome(0, false);
        due("a failure is one", x.why(0), 0);
        x.outcome(1, true);
        due("one without reads is one", x.why(1), 0);
    }

    private static void firstReason() {
        TouchSelect x = withFiles(3);
        x.function(0, 0);
        x.function(1, 0);
        int always = x.test(2, 1);
        x.setting(always, 1);
        due("1 before 2 and 3", x.why(always), 1);
        int test = x.test(1, 1);
        x.setting(test, 1);
        due("2 before 3", x.why(test), 2);
        x.reads(test, 0, 0);
        x.reads(test, 1, 1);
        x.reads(test, 2, NONE);
        x.outcome(test, true);
        due("none", x.why(test), 0);
        x.change(0, 1);
        due("6", x.why(test), 6);
        x.changeFunction(1, 1);
        due("5 before 6", x.why(test), 5);
        x.change(2, 1);
        due("4 before 5", x.why(test), 4);
        x.setting(test, 0);
        due("3 before 4", x.why(test), 3);
    }

    private static void reason1() {
        TouchSelect x = withFiles(1);
        int always = x.test(2, 1);
        due("before it has run", x.why(always), 1);
        due("selected", x.select(0), 1);
        x.outcome(always, true);
        due("when it has run", x.why(always), 1);
        due("selected again", x.select(0), 1);
        due("it is the one", x.at(0), always);
    }

    private static void reason2() {
        TouchSelect x = new TouchSelect();
        for (int mode = 0; mode < 2; mode++) {
            int test = x.test(mode, 1);
            due("never", x.why(test), 2);
            due("it alone is chosen", x.select(0), 1);
            x.outcome(test, true);
            due("once", x.why(test), 0);
            due("none is chosen", x.select(0), 0);
        }
    }

    private static void reason3() {
        TouchSelect x = new TouchSelect();
        for (int mode = 0; mode < 2; mode++) {
            int test = x.test(mode, 1);
            x.setting(test, 4);
            x.outcome(test, true);
            due("the kept one", x.why(test), 0);
            x.setting(test, 5);
            due("another one", x.why(test), 3);
            due("chosen", x.select(0), 1);
            due("a selection keeps no setting", x.why(test), 3);
            x.setting(test, 4);
            due("the kept one again", x.why(test), 0);
            x.setting(test, 5);
            x.outcome(test, true);
            due("kept now", x.why(test), 0);
        }
    }

    private static void reason4ByFiles() {
        TouchSelect x = withFiles(2);
        x.function(0, 0);
        x.function(0, 0);
        int byFile = reader(x, 0, 0, NONE);
        int byFunction = reader(x, 0, 0, 0);
        x.change(1, 1);
        x.function(1, 0);
        due("another file, by its file", x.why(byFile), 0);
        due("another file, by its function", x.why(byFunction), 0);
        x.changeFunction(1, 1);
        due("another function of the file", x.why(byFile), 4);
        due("even for the read of one function", x.why(byFunction), 4);
        x.changeFunction(1, 0);
        x.change(0, 1);
        due("the rest", x.why(byFunction), 4);
        x.change(0, 0);
        due("all as it was", x.why(byFunction), 0);
        x.function(0, 0);
        due("a function came", x.why(byFunction), 4);
    }

    private static void reason4ByFunctions() {
        TouchSelect x = withFiles(2);
        x.function(0, 0);
        x.function(1, 0);
        int byFile = reader(x, 1, 0, NONE);
        int byFunction = reader(x, 1, 0, 0);
        x.changeFunction(1, 1);
        due("another file", x.why(byFile), 0);
        x.changeFunction(0, 1);
        due("a function of it", x.why(byFile), 4);
        due("the function's own read is none of it", x.why(byFunction), 5);
        x.changeFunction(0, 0);
        x.change(0, 1);
        due("the rest of it", x.why(byFile), 4);
        due("nor is the rest", x.why(byFunction), 6);
        x.change(0, 0);
        x.function(0, 0);
        due("a function came to it", x.why(byFile), 4);
        due("which is no reason by functions", x.why(byFunction), 0);
    }

    private static void reason5() {
        TouchSelect x = withFiles(20);
        for (int i = 0; i < 40; i++) {
            x.function(19, 0);
        }
        int first = reader(x, 1, 19, 0);
        int last = reader(x, 1, 19, 39);
        for (int i = 1; i < 39; i++) {
            x.changeFunction(i, 1);
        }
        due("others are no reason for the first", x.why(first), 0);
        due("nor for the last", x.why(last), 0);
        x.changeFunction(39, 1);
        due("the last", x.why(last), 5);
        due("not the first", x.why(first), 0);
        x.changeFunction(0, 1);
        due("the first", x.why(first), 5);
        x.changeFunction(0, 0);
        due("the same digest again", x.why(first), 0);
    }

    private static void reason6() {
        TouchSelect x = withFiles(20);
        x.function(0, 0);
        x.function(19, 0);
        int first = reader(x, 1, 0, 0);
        int last = reader(x, 1, 19, 1);
        x.change(19, 1);
        due("the rest of the last file", x.why(last), 6);
        due("of another file", x.why(first), 0);
        x.change(19, 0);
        due("the same digest again", x.why(last), 0);
        x.change(0, 1);
        due("the rest of the first file", x.why(first), 6);
    }

    private static void touchedByAnotherDigest() {
        TouchSelect x = withFiles(2);
        x.function(0, 5);
        x.select(0);
        x.change(0, 0);
        x.changeFunction(0, 5);
        due("the same digests", x.touched(0), false);
        x.change(0, 1);
        due("the rest became another one", x.touched(0), true);
        x.select(0);
        x.changeFunction(0, 6);
        due("the function became another one", x.touched(0), true);
        x.changeFunction(0, 5);
        due("it had become another one", x.touched(0), true);
        due("another file", x.touched(1), false);
    }

    private static void touchedByFunction() {
        TouchSelect x = withFiles(20);
        x.select(0);
        x.function(19, 0);
        due("its file", x.touched(19), true);
        due("another file", x.touched(0), false);
        x.select(0);
        x.function(0, 0);
        due("the first file", x.touched(0), true);
        due("the last one no more", x.touched(19), false);
    }

    private static void touchedSinceSelection() {
        TouchSelect x = withFiles(2);
        x.test(0, 1);
        x.change(0, 1);
        x.select(0);
        due("before the latest selection", x.touched(0), false);
        x.change(1, 1);
        x.outcome(0, true);
        x.outcome(0, false);
        due("an outcome is no selection", x.touched(1), true);
        x.select(-1);
        x.select(100001);
        due("nor is a refused one", x.touched(1), true);
        x.select(0);
        due("the next selection", x.touched(1), false);
    }

    private static void touchedAtFirst() {
        TouchSelect x = withFiles(20);
        int test = ranTest(x, 0, 1);
        for (int i = 0; i < 20; i++) {
            due("file " + i, x.touched(i), true);
        }
        x.select(0);
        fail(x, test, 1);
        for (int i = 0; i < 20; i++) {
            due("touched at the first selection, file " + i, x.together(test, i), 1);
        }
    }

    private static void togetherOnlyIfFailed() {
        TouchSelect x = withFiles(1);
        x.test(2, 1);
        x.select(0);
        x.outcome(0, true);
        due("it passed", x.together(0, 0), 0);
        x.outcome(0, false);
        due("it failed", x.together(0, 0), 1);
    }

    private static void togetherAtLatestSelection() {
        TouchSelect x = withFiles(3);
        int test = ranTest(x, 0, 1);
        x.select(0);
        x.change(1, 1);
        x.select(0);
        x.change(0, 1);
        x.file(0);
        fail(x, test, 1);
        due("touched since then", x.together(test, 0), 0);
        due("touched then", x.together(test, 1), 1);
        due("touched at a selection before", x.together(test, 2), 0);
        due("one that came since then", x.together(test, 3), 0);
        x.select(0);
        x.select(0);
        fail(x, test, 1);
        due("nothing touched at the latest", x.together(test, 0), 0);
        due("nor this one", x.together(test, 1), 1);
    }

    private static void togetherOnceMore() {
        TouchSelect x = withFiles(20);
        x.test(0, 1);
        x.test(0, 1);
        due("0 at first", x.together(0, 19), 0);
        x.select(0);
        due("0 after the selection", x.together(0, 19), 0);
        for (int i = 1; i <= 200; i++) {
            x.outcome(0, false);
            due("once more", x.together(0, 19), i);
        }
        due("the first file", x.together(0, 0), 200);
        due("another test", x.together(1, 0), 0);
    }

    private static void togetherWithoutSelection() {
        TouchSelect x = withFiles(1);
        x.test(0, 1);
        fail(x, 0, 2);
        due("no selection", x.together(0, 0), 0);
        x.select(-1);
        fail(x, 0, 1);
        due("a refused one only", x.together(0, 0), 0);
        x.select(0);
        due("not afterwards either", x.together(0, 0), 0);
    }

    private static void chosenAreNoExtras() {
        TouchSelect x = withFiles(1);
        int always = x.test(2, 1);
        int again = x.test(0, 1);
        x.select(0);
        fail(x, always, 1);
        fail(x, again, 1);
        x.setting(again, 1);
        x.change(0, 1);
        due("share of the first", x.share(always), 1);
        due("share of the second", x.share(again), 1);
        due("each is in it once", x.select(100000), 2);
        due("first", x.at(0), always);
        due("second", x.at(1), again);
        due("no third", x.at(2), NONE);
    }

    private static void shareAbove0() {
        TouchSelect x = withFiles(2);
        int never = ranTest(x, 0, 1);
        int once = ranTest(x, 0, 1);
        int elsewhere = ranTest(x, 0, 1);
        x.select(0);
        x.change(0, 1);
        x.select(0);
        fail(x, once, 1);
        x.change(1, 1);
        x.select(0);
        fail(x, elsewhere, 1);
        x.change(0, 2);
        due("0", x.share(never), 0);
        due("1", x.share(once), 1);
        due("0 with this file", x.share(elsewhere), 0);
        due("one extra", x.select(100000), 1);
        due("the one with 1", x.at(0), once);
    }

    private static void shareOfTouchedNow() {
        TouchSelect x = withFiles(20);
        int test = ranTest(x, 0, 1);
        x.select(0);
        fail(x, test, 2);
        for (int i = 0; i < 20; i++) {
            due("of " + i + " files", x.share(test), 2 * i);
            x.change(i, 1);
        }
        due("of all files", x.share(test), 40);
        x.file(0);
        due("select", x.select(1), 1);
        due("of none", x.share(test), 0);
    }

    private static void greatestFirst() {
        for (int order = 0; order < 120; order++) {
            int[] ranks = ranksOf(order);
            TouchSelect x = withFiles(1);
            for (int rank : ranks) {
                ranTest(x, 0, TIMES_BY_RANK[rank]);
            }
            x.select(0);
            for (int test = 0; test < 5; test++) {
                fail(x, test, SHARES_BY_RANK[ranks[test]]);
            }
            x.change(0, 1);
            due("order " + order, x.select(100000), 5);
            for (int i = 0; i < 5; i++) {
                int test = x.at(i);
                due("order " + order + ", place " + i, test >= 0 && test < 5 ? ranks[test] : NONE, i);
            }
        }
    }

    /** One of the 120 orders of the ranks 0 to 4. */
    private static int[] ranksOf(int order) {
        List<Integer> left = new ArrayList<>(List.of(0, 1, 2, 3, 4));
        int[] ranks = new int[5];
        int rest = order;
        for (int i = 0; i < 5; i++) {
            ranks[i] = left.remove(rest % left.size()).intValue();
            rest /= 5 - i;
        }
        return ranks;
    }

    private static void greatestExactly() {
        TouchSelect x = withFiles(1);
        int slow = ranTest(x, 0, 1000);
        int quick = ranTest(x, 0, 999);
        x.select(0);
        fail(x, slow, 1);
        fail(x, quick, 1);
        x.change(0, 1);
        due("both", x.select(100000), 2);
        due("1 of 999 before 1 of 1000", x.at(0), quick);
        due("1 of 1000 behind it", x.at(1), slow);
        fail(x, slow, 100);
        fail(x, quick, 99);
        x.change(0, 2);
        due("both again", x.select(100000), 2);
        due("101 of 1000 before 100 of 999", x.at(0), slow);
        due("100 of 999 behind it", x.at(1), quick);
    }

    private static void lesserNumber() {
        TouchSelect x = withFiles(1);
        int a = ranTest(x, 0, 999);
        int b = ranTest(x, 0, 333);
        int c = ranTest(x, 0, 666);
        int d = ranTest(x, 0, 333);
        x.select(0);
        fail(x, d, 1);
        fail(x, c, 2);
        fail(x, b, 1);
        fail(x, a, 3);
        x.change(0, 1);
        due("four like ones", x.select(100000), 4);
        due("3 of 999", x.at(0), a);
        due("1 of 333", x.at(1), b);
        due("2 of 666", x.at(2), c);
        due("1 of 333 again", x.at(3), d);
    }

    private static void withinBudget() {
        TouchSelect x = withFiles(1);
        int chosen = x.test(2, 1000);
        for (int i = 1; i < 24; i++) {
            ranTest(x, 0, 1000);
        }
        x.select(0);
        for (int i = 1; i < 24; i++) {
            fail(x, i, 1);
        }
        int[] budgets = {0, 999, 1000, 1999, 2000, 22999, 23000, 23001, 100000};
        int[] sizes = {1, 1, 2, 2, 3, 23, 24, 24, 24};
        for (int i = 0; i < budgets.length; i++) {
            x.change(0, i + 1);
            due("budget " + budgets[i], x.select(budgets[i]), sizes[i]);
            due("the chosen one is there for nothing", x.at(0), chosen);
        }
        due("the last extra", x.at(23), 23);
        TouchSelect least = withFiles(1);
        int test = ranTest(least, 0, 1);
        least.select(0);
        fail(least, test, 1);
        least.change(0, 1);
        due("time 1, budget 0", least.select(0), 0);
        least.change(0, 2);
        due("time 1, budget 1", least.select(1), 1);
    }

    private static void othersBehindMayFit() {
        TouchSelect x = withFiles(1);
        int[] times = {10, 50, 6, 5, 4, 1};
        int[] failures = {60, 250, 24, 15, 8, 1};
        for (int time : times) {
            ranTest(x, 0, time);
        }
        x.select(0);
        for (int i = 0; i < times.length; i++) {
            fail(x, i, failures[i]);
        }
        x.change(0, 1);
        due("10, 6, 5 and 1", x.select(22), 4);
        due("10 of 22", x.at(0), 0);
        due("50 is too much, 6 of 12", x.at(1), 2);
        due("5 of 6", x.at(2), 3);
        due("4 is too much, 1 of 1", x.at(3), 5);
        x.change(0, 2);
        due("10, 6 and 4", x.select(20), 3);
        due("5 is too much, 4 of 4", x.at(2), 4);
        x.change(0, 3);
        due("only the last fits", x.select(1), 1);
        due("1 of 1", x.at(0), 5);
    }

    private static void noFileTouchedAnyMore() {
        TouchSelect x = withFiles(20);
        int test = ranTest(x, 0, 1);
        due("a selection with none in it", x.select(0), 0);
        for (int i = 0; i < 20; i++) {
            due("file " + i, x.touched(i), false);
        }
        fail(x, test, 1);
        x.change(19, 1);
        due("one extra that does not fit", x.select(0), 0);
        due("no more touched", x.touched(19), false);
        due("no share any more", x.share(test), 0);
        due("no extra any more", x.select(100000), 0);
    }

    private static void missedOnlyIfFailed() {
        TouchSelect x = new TouchSelect();
        x.select(0);
        x.test(0, 1);
        x.outcome(0, true);
        due("it passed", x.missed(0, 0), NONE);
        x.outcome(0, false);
        due("it failed", x.missed(0, 0), 0);
        x.outcome(0, false);
        due("it failed again", x.missed(1, 0), 0);
    }

    private static void missedNotInLatest() {
        TouchSelect x = withFiles(1);
        int always = x.test(2, 1);
        int test = x.test(0, 1);
        x.select(0);
        fail(x, test, 1);
        due("chosen", x.missed(0, 0), NONE);
        x.change(0, 1);
        x.select(1);
        fail(x, test, 1);
        due("an extra", x.missed(0, 0), NONE);
        x.change(0, 2);
        x.select(0);
        fail(x, always, 1);
        fail(x, test, 1);
        due("in the one before only", x.missed(0, 0), test);
        due("it alone", x.missed(1, 0), NONE);
        x.setting(test, 1);
        fail(x, test, 1);
        due("it would be chosen now, but was not then", x.missed(1, 0), test);
        int late = x.test(2, 1);
        fail(x, late, 1);
        due("one that came since", x.missed(2, 0), late);
    }

    private static void missedWithoutSelection() {
        TouchSelect x = withFiles(1);
        x.test(0, 1);
        fail(x, 0, 1);
        x.select(-1);
        fail(x, 0, 1);
        due("none", x.missed(0, 0), NONE);
        due("it has run", x.select(0), 0);
        due("not afterwards either", x.missed(0, 0), NONE);
        fail(x, 0, 1);
        due("a selection with none in it is one", x.missed(0, 0), 0);
    }

    private static void missedAtMost100() {
        TouchSelect x = new TouchSelect();
        x.test(0, 1);
        x.test(0, 1);
        x.outcome(0, true);
        x.outcome(1, true);
        x.select(0);
        fail(x, 0, 99);
        x.select(0);
        due("99 are told", x.missed(98, 0), 0);
        due("no 100th", x.missed(99, 0), NONE);
        fail(x, 1, 1);
        due("the 100th", x.missed(99, 0), 1);
        due("after two selections", x.missed(99, 1), 2);
        x.select(0);
        fail(x, 0, 20);
        due("no 101st", x.missed(100, 0), NONE);
        due("nor behind it", x.missed(119, 1), NONE);
        due("the 100th is the same", x.missed(99, 0), 1);
        due("after two selections still", x.missed(99, 1), 2);
        due("the first is the same", x.missed(0, 1), 1);
        due("its outcomes are kept", x.outcome(0, false), 0);
    }

    private static void none() {
        due("the constant", TouchSelect.NONE, -1);
    }
}
