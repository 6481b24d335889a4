/** For each sentence of the document's promises that names a boundary case, a test under the sentence's own words. */
public final class BoundaryPromisesTest {
    private static final int NONE = TouchSelect.NONE;
    private static final int[] FAR = {
        -2, Integer.MIN_VALUE, Integer.MIN_VALUE + 1, Integer.MAX_VALUE - 1, Integer.MAX_VALUE,
    };
    private static String sentence = "";
    private static int wrong = 0;

    public static void main(String[] args) {
        check("1: No FILES", BoundaryPromisesTest::noFiles);
        check("1: no TESTS", BoundaryPromisesTest::noTests);
        check("1: no SELECTION", BoundaryPromisesTest::noSelection);
        check("2: A new FILE without FUNCTIONS (it is TOUCHED)", BoundaryPromisesTest::newFile);
        check("2: NONE if there are 20", BoundaryPromisesTest::fileRefused);
        check("3: A new FUNCTION of a FILE (which is TOUCHED)", BoundaryPromisesTest::newFunction);
        check("3: NONE if there are 40", BoundaryPromisesTest::functionRefused);
        check("3: or there is no such FILE", BoundaryPromisesTest::functionOfNoFile);
        check("4: has a DIGEST from now on", BoundaryPromisesTest::changeFromNowOn);
        check("4: false if there is none such", BoundaryPromisesTest::changeOfNone);
        check("5: has a DIGEST from now on", BoundaryPromisesTest::changeFunctionFromNowOn);
        check("5: false if there is none such", BoundaryPromisesTest::changeFunctionOfNone);
        check("6: NONE if there are 24", BoundaryPromisesTest::testRefused);
        check("6: or MODE isn't as told", BoundaryPromisesTest::wrongMode);
        check("6: or TIME isn't as told", BoundaryPromisesTest::wrongTime);
        check("7: false if there is no such TEST", BoundaryPromisesTest::settingOfNone);
        check("8: a FILE (function NONE)", BoundaryPromisesTest::readOfFile);
        check("8: or a FUNCTION, which must be of that FILE", BoundaryPromisesTest::readOfFunction);
        check("8: NONE if there are none such", BoundaryPromisesTest::readOfNone);
        check("8: else 0 if that was told already", BoundaryPromisesTest::readToldAlready);
        check("8: since its latest OUTCOME", BoundaryPromisesTest::readSinceOutcome);
        check("8: else NONE if there are 30", BoundaryPromisesTest::readRefused);
        check("9: how many READS are kept", BoundaryPromisesTest::outcomeCounts);
        check("9: NONE if there is none such", BoundaryPromisesTest::outcomeOfNone);
        check("10: how many TESTS it has", BoundaryPromisesTest::selectCounts);
        check("10: a BUDGET (0 .. 100000); NONE if it isn't so", BoundaryPromisesTest::wrongBudget);
        check("11: CHOSEN by numbers, then EXTRAS as they were taken", BoundaryPromisesTest::atOrder);
        check("11: of the latest SELECTION", BoundaryPromisesTest::atLatest);
        check("11: NONE if there is none such", BoundaryPromisesTest::atNone);
        check("12: 0 if not", BoundaryPromisesTest::whyNot);
        check("12: NONE if there is none such", BoundaryPromisesTest::whyOfNone);
        check("13: how many there are (what 0)", BoundaryPromisesTest::keptCount);
        check("13: by themselves, no reason to choose it now", BoundaryPromisesTest::keptByThemselves);
        check("13: by its MODE (of one that is ALWAYS run: by FILES)", BoundaryPromisesTest::keptByMode);
        check("13: NONE if there is none such", BoundaryPromisesTest::keptOfNone);
        check("13: or for another what", BoundaryPromisesTest::keptAnotherWhat);
        check("14: SHARE of a TEST now", BoundaryPromisesTest::shareNow);
        check("14: NONE if there is none such", BoundaryPromisesTest::shareOfNone);
        check("15: NONE if there are none such", BoundaryPromisesTest::togetherOfNone);
        check("16: Whether a FILE is TOUCHED now", BoundaryPromisesTest::touchedNow);
        check("16: false if there is none such", BoundaryPromisesTest::touchedOfNone);
        check("17: 0 the TEST, 1 how many SELECTIONS there were then", BoundaryPromisesTest::missedWhat);
        check("17: NONE if there is none such", BoundaryPromisesTest::missedNone);
        check("17: or for another what", BoundaryPromisesTest::missedAnotherWhat);
        System.out.println(wrong == 0 ? "boundaries of the promises hold" : wrong + " answers are not as due");
        if (wrong != 0) {
            System.exit(1);
        }
    }

    private static void check(String words, Runnable test) {
        sentence = words;
        test.run();
    }

    private static void due(String what, long got, long want) {
        if (got != want) {
            wrong++;
            System.out.println("\"" + sentence + "\": " + what + " answered " + got + ", due is " + want);
        }
    }

    private static void due(String what, boolean got, boolean want) {
        due(what, got ? 1 : 0, want ? 1 : 0);
    }

    /** Files, functions (all of the last file) and tests that never ran, as many as told. */
    private static TouchSelect with(int files, int functions, int tests) {
        TouchSelect x = new TouchSelect();
        for (int i = 0; i < files; i++) {
            x.file(0);
        }
        for (int i = 0; i < functions; i++) {
            x.function(files - 1, 0);
        }
        for (int i = 0; i < tests; i++) {
            x.test(0, 1);
        }
        return x;
    }

    private static TouchSelect full() {
        return with(20, 40, 24);
    }

    private static void fail(TouchSelect x, int test, int times) {
        for (int i = 0; i < times; i++) {
            x.outcome(test, false);
        }
    }

    private static void noFiles() {
        TouchSelect x = new TouchSelect();
        due("touched", x.touched(0), false);
        due("change", x.change(0, 0), false);
        due("function", x.function(0, 0), NONE);
        due("changeFunction", x.changeFunction(0, 0), false);
        x.test(0, 1);
        due("reads", x.reads(0, 0, NONE), NONE);
        due("together", x.together(0, 0), NONE);
        due("the first has number 0", x.file(0), 0);
        due("its first function too", x.function(0, 0), 0);
    }

    private static void noTests() {
        TouchSelect x = with(1, 1, 0);
        due("setting", x.setting(0, 0), false);
        due("reads", x.reads(0, 0, NONE), NONE);
        due("outcome", x.outcome(0, false), NONE);
        due("why", x.why(0), NONE);
        due("kept", x.kept(0, 0), NONE);
        due("share", x.share(0), NONE);
        due("together", x.together(0, 0), NONE);
        due("select", x.select(0), 0);
        due("at", x.at(0), NONE);
        due("the first has number 0", x.test(0, 1), 0);
    }

    private static void noSelection() {
        TouchSelect x = with(1, 0, 1);
        due("at", x.at(0), NONE);
        x.outcome(0, false);
        due("missed", x.missed(0, 0), NONE);
        due("together", x.together(0, 0), 0);
        x.select(0);
        x.outcome(0, false);
        due("the first selection is the first", x.missed(0, 1), 1);
    }

    private static void newFile() {
        TouchSelect x = with(1, 1, 1);
        x.select(0);
        due("another of the same digest", x.file(0), 1);
        due("touched", x.touched(1), true);
        due("the former is not", x.touched(0), false);
        due("it has not the former's function", x.reads(0, 1, 0), NONE);
        due("the greatest digest", x.file(Long.MAX_VALUE), 2);
        due("the least digest", x.file(Long.MIN_VALUE), 3);
        x.reads(0, 3, NONE);
        x.outcome(0, true);
        x.change(3, Long.MIN_VALUE);
        due("its digest is the one that was told", x.why(0), 0);
    }

    private static void fileRefused() {
        TouchSelect x = with(19, 0, 1);
        due("the 20th", x.file(0), 19);
        due("the 21st", x.file(0), NONE);
        due("none again", x.file(1), NONE);
        x.select(0);
        due("none after a selection", x.file(0), NONE);
        due("not there", x.touched(20), false);
        due("no function of it", x.function(20, 0), NONE);
        due("no read of it", x.reads(0, 20, NONE), NONE);
        due("nothing together with it", x.together(0, 20), NONE);
        due("the last is not touched by it", x.touched(19), false);
    }

    private static void newFunction() {
        TouchSelect x = with(2, 0, 1);
        x.select(0);
        due("number", x.function(1, Long.MIN_VALUE), 0);
        due("touched", x.touched(1), true);
        due("another file", x.touched(0), false);
        x.reads(0, 1, 0);
        x.outcome(0, true);
        x.changeFunction(0, Long.MIN_VALUE);
        due("its digest is the one that was told", x.why(0), 0);
        due("one of the other file has the next number", x.function(0, 0), 1);
    }

    private static void functionRefused() {
        TouchSelect x = with(20, 39, 1);
        due("the 40th", x.function(0, 0), 39);
        x.select(0);
        for (int file = 0; file < 20; file++) {
            due("the 41st, of file " + file, x.function(file, 0), NONE);
            due("touches it not", x.touched(file), false);
        }
        due("not there", x.changeFunction(40, 1), false);
        due("no read of it", x.reads(0, 0, 40), NONE);
        due("no such file either", x.function(20, 0), NONE);
    }

    private static void functionOfNoFile() {
        TouchSelect x = with(2, 0, 0);
        due("-1", x.function(-1, 0), NONE);
        due("2 of 2", x.function(2, 0), NONE);
        for (int file : FAR) {
            due("file " + file, x.function(file, 0), NONE);
        }
        due("no number was used", x.function(1, 0), 0);
        TouchSelect y = full();
        due("20 of 20", y.function(20, 0), NONE);
    }

    private static void changeFromNowOn() {
        TouchSelect x = with(20, 0, 1);
        x.reads(0, 19, NONE);
        x.outcome(0, true);
        x.select(0);
        due("the same", x.change(19, 0), true);
        due("nothing changed", x.touched(19), false);
        due("the greatest", x.change(19, Long.MAX_VALUE), true);
        due("changed", x.touched(19), true);
        x.select(0);
        due("the least", x.change(19, Long.MIN_VALUE), true);
        due("changed again", x.touched(19), true);
        due("it stays", x.why(0), 4);
        due("the first file", x.change(0, 1), true);
        due("the last is not concerned", x.change(19, 0), true);
        due("as it was", x.why(0), 0);
    }

    private static void changeOfNone() {
        TouchSelect x = with(2, 0, 0);
        x.select(0);
        due("-1", x.change(-1, 1), false);
        due("2 of 2", x.change(2, 1), false);
        for (int file : FAR) {
            due("file " + file, x.change(file, 1), false);
        }
        due("the first is not touched", x.touched(0), false);
        due("nor the last", x.touched(1), false);
        due("20 of 20", full().change(20, 1), false);
    }

    private static void changeFunctionFromNowOn() {
        TouchSelect x = with(20, 40, 1);
        x.reads(0, 19, 39);
        x.outcome(0, true);
        x.select(0);
        due("the same", x.changeFunction(39, 0), true);
        due("nothing changed", x.touched(19), false);
        due("the greatest", x.changeFunction(39, Long.MAX_VALUE), true);
        due("changed", x.touched(19), true);
        x.select(0);
        due("the least", x.changeFunction(39, Long.MIN_VALUE), true);
        due("changed again", x.touched(19), true);
        due("it stays", x.why(0), 4);
        due("back", x.changeFunction(39, 0), true);
        due("as it was", x.why(0), 0);
    }

    private static void changeFunctionOfNone() {
        TouchSelect x = with(1, 2, 0);
        x.select(0);
        due("-1", x.changeFunction(-1, 1), false);
        due("2 of 2", x.changeFunction(2, 1), false);
        for (int function : FAR) {
            due("function " + function, x.changeFunction(function, 1), false);
        }
        due("the file is not touched", x.touched(0), false);
        due("40 of 40", full().changeFunction(40, 1), false);
        due("none at all", with(20, 0, 0).changeFunction(0, 1), false);
    }

    private static void testRefused() {
        TouchSelect x = with(1, 0, 23);
        due("the 24th", x.test(0, 1), 23);
        for (int mode = 0; mode < 3; mode++) {
            due("the 25th, mode " + mode, x.test(mode, 1000), NONE);
        }
        due("not there", x.setting(24, 0), false);
        due("no read of it", x.reads(24, 0, NONE), NONE);
        due("no outcome of it", x.outcome(24, true), NONE);
        due("24 are selected", x.select(100000), 24);
        due("the last of them", x.at(23), 23);
        due("none behind", x.at(24), NONE);
    }

    private static void wrongMode() {
        TouchSelect x = new TouchSelect();
        due("-1", x.test(-1, 1), NONE);
        due("3", x.test(3, 1), NONE);
        for (int mode : FAR) {
            due("mode " + mode, x.test(mode, 1), NONE);
        }
        due("no number was used", x.test(2, 1), 0);
    }

    private static void wrongTime() {
        TouchSelect x = new TouchSelect();
        for (int mode = 0; mode < 3; mode++) {
            due("0", x.test(mode, 0), NONE);
            due("-1", x.test(mode, -1), NONE);
            due("1001", x.test(mode, 1001), NONE);
            for (int time : FAR) {
                due("time " + time, x.test(mode, time), NONE);
            }
        }
        due("no number was used", x.test(0, 1000), 0);
        due("the least", x.test(0, 1), 1);
    }

    private static void settingOfNone() {
        TouchSelect x = with(0, 0, 2);
        x.outcome(0, true);
        x.outcome(1, true);
        due("-1", x.setting(-1, 1), false);
        due("2 of 2", x.setting(2, 1), false);
        for (int test : FAR) {
            due("test " + test, x.setting(test, 1), false);
        }
        due("the first has its own", x.why(0), 0);
        due("the last has its own", x.why(1), 0);
        due("the last is there", x.setting(1, 1), true);
        due("24 of 24", full().setting(24, 1), false);
    }

    private static void readOfFile() {
        TouchSelect x = full();
        due("the first", x.reads(0, 0, NONE), 1);
        due("the last", x.reads(0, 19, NONE), 1);
        due("of the last test", x.reads(23, 19, NONE), 1);
        due("-2 is not NONE", x.reads(0, 1, -2), NONE);
        due("two", x.outcome(0, true), 2);
        due("one", x.outcome(23, true), 1);
    }

    private static void readOfFunction() {
        TouchSelect x = with(20, 20, 1);
        for (int i = 20; i < 40; i++) {
            x.function(0, 0);
        }
        due("of the last file", x.reads(0, 19, 19), 1);
        due("of the first file", x.reads(0, 0, 20), 1);
        due("not of that file", x.reads(0, 0, 19), NONE);
        due("nor this one", x.reads(0, 19, 20), NONE);
        for (int file = 1; file < 19; file++) {
            due("of a file without functions", x.reads(0, file, 0), NONE);
        }
        due("told, but of another file", x.reads(0, 1, 19), NONE);
        due("two", x.outcome(0, true), 2);
    }

    private static void readOfNone() {
        TouchSelect x = with(2, 2, 2);
        due("test -1", x.reads(-1, 0, NONE), NONE);
        due("test 2 of 2", x.reads(2, 0, NONE), NONE);
        due("file -1", x.reads(0, -1, NONE), NONE);
        due("file 2 of 2", x.reads(0, 2, NONE), NONE);
        due("file -1 with a function", x.reads(0, -1, 0), NONE);
        due("file 2 of 2 with a function", x.reads(0, 2, 0), NONE);
        due("function 2 of 2", x.reads(0, 1, 2), NONE);
        // Behind all functions the rows are empty; an empty one must not pass for one of file 0.
        due("function 2 of 2, of the first file", x.reads(0, 0, 2), NONE);
        for (int number : FAR) {
            due("test " + number, x.reads(number, 0, NONE), NONE);
            due("file " + number, x.reads(0, number, NONE), NONE);
            due("function " + number, x.reads(0, 1, number), NONE);
        }
        due("none was told", x.outcome(0, true), 0);
        due("nor of the other", x.outcome(1, true), 0);
        TouchSelect y = full();
        due("test 24 of 24", y.reads(24, 0, NONE), NONE);
        due("file 20 of 20", y.reads(0, 20, NONE), NONE);
        due("function 40 of 40", y.reads(0, 19, 40), NONE);
    }

    private static void readToldAlready() {
        TouchSelect x = full();
        for (int i = 0; i < 30; i++) {
            due("new", x.reads(0, 19, i), 1);
        }
        for (int i = 0; i < 30; i++) {
            due("told already, though there are 30", x.reads(0, 19, i), 0);
        }
        due("none such goes before that", x.reads(0, 18, 0), NONE);
        due("another test's is not told", x.reads(1, 19, 0), 1);
        due("nor is another function's file", x.reads(1, 19, NONE), 1);
    }

    private static void readSinceOutcome() {
        TouchSelect x = with(1, 1, 2);
        x.reads(0, 0, 0);
        x.reads(1, 0, 0);
        x.select(0);
        due("a selection is no outcome", x.reads(0, 0, 0), 0);
        x.outcome(0, true);
        due("after an outcome", x.reads(0, 0, 0), 1);
        due("another test's outcome", x.reads(1, 0, 0), 0);
        x.outcome(0, false);
        due("after a failure", x.reads(0, 0, 0), 1);
        x.outcome(2, true);
        due("after a refused outcome", x.reads(0, 0, 0), 0);
    }

    private static void readRefused() {
        TouchSelect x = full();
        for (int i = 0; i < 29; i++) {
            x.reads(0, 19, i);
        }
        due("the 30th", x.reads(0, 0, NONE), 1);
        due("the 31st, a file", x.reads(0, 1, NONE), NONE);
        due("the 31st, a function", x.reads(0, 19, 29), NONE);
        due("refused, so not told", x.reads(0, 1, NONE), NONE);
        due("30 are kept", x.outcome(0, true), 30);
        x.change(1, 1);
        due("not the refused one", x.why(0), 0);
        for (int i = 0; i < 30; i++) {
            due("30 anew", x.reads(0, 19, 39 - i), 1);
        }
        due("the 31st anew", x.reads(0, 1, NONE), NONE);
    }

    private static void outcomeCounts() {
        TouchSelect x = with(1, 0, 24);
        due("none", x.outcome(0, true), 0);
        x.reads(23, 0, NONE);
        due("one, of the last test", x.outcome(23, false), 1);
        due("none anew", x.outcome(23, true), 0);
        due("as kept tells", x.kept(23, 0), 0);
    }

    private static void outcomeOfNone() {
        TouchSelect x = with(1, 0, 2);
        x.select(0);
        due("-1", x.outcome(-1, true), NONE);
        due("2 of 2", x.outcome(2, true), NONE);
        due("-1 failed", x.outcome(-1, false), NONE);
        due("2 of 2 failed", x.outcome(2, false), NONE);
        for (int test : FAR) {
            due("test " + test, x.outcome(test, false), NONE);
        }
        due("none is missed", x.missed(0, 0), NONE);
        due("the first has not run", x.why(0), 2);
        due("nor the last", x.why(1), 2);
        due("nor failed", x.together(1, 0), 0);
        due("24 of 24", full().outcome(24, false), NONE);
    }

    private static void selectCounts() {
        due("no tests", new TouchSelect().select(0), 0);
        TouchSelect x = full();
        due("all", x.select(0), 24);
        for (int i = 0; i < 24; i++) {
            x.outcome(i, false);
        }
        due("nothing touched: none", x.select(100000), 0);
        x.change(0, 1);
        due("all of them extras", x.select(24), 24);
        due("none again", x.select(100000), 0);
    }

    private static void wrongBudget() {
        TouchSelect x = with(1, 0, 1);
        due("the least", x.select(0), 1);
        due("the greatest", x.select(100000), 1);
        x.change(0, 1);
        x.outcome(0, true);
        due("-1", x.select(-1), NONE);
        due("100001", x.select(100001), NONE);
        for (int budget : FAR) {
            due("budget " + budget, x.select(budget), NONE);
        }
        due("the latest selection stays", x.at(0), 0);
        due("the file stays touched", x.touched(0), true);
        due("the next one", x.select(0), 0);
        x.outcome(0, false);
        due("only three were selections", x.missed(0, 1), 3);
    }

    private static void atOrder() {
        TouchSelect x = with(1, 0, 24);
        for (int i = 0; i < 24; i++) {
            if (i % 2 == 1) {
                x.outcome(i, true);
            }
        }
        x.select(0);
        for (int i = 1; i < 24; i += 2) {
            fail(x, i, i);
        }
        x.change(0, 1);
        due("all", x.select(12), 24);
        for (int i = 0; i < 12; i++) {
            due("chosen", x.at(i), 2 * i);
            due("extra", x.at(12 + i), 23 - 2 * i);
        }
        due("none behind", x.at(24), NONE);
    }

    private static void atLatest() {
        TouchSelect x = with(1, 0, 3);
        x.select(0);
        x.outcome(0, true);
        x.outcome(1, true);
        x.test(2, 1);
        due("an outcome takes none away", x.at(1), 1);
        due("a new test comes not in", x.at(3), NONE);
        due("a shorter one", x.select(0), 2);
        due("its first", x.at(0), 2);
        due("its last", x.at(1), 3);
        due("nothing of the longer one before", x.at(2), NONE);
        x.outcome(2, true);
        due("a refused one", x.select(-1), NONE);
        due("leaves it", x.at(0), 2);
    }

    private static void atNone() {
        TouchSelect x = with(0, 0, 24);
        due("no selection", x.at(0), NONE);
        x.select(0);
        due("-1", x.at(-1), NONE);
        due("the last", x.at(23), 23);
        due("behind it", x.at(24), NONE);
        for (int i : FAR) {
            due("i " + i, x.at(i), NONE);
        }
        TouchSelect empty = new TouchSelect();
        empty.select(0);
        due("none in it", empty.at(0), NONE);
    }

    private static void whyNot() {
        TouchSelect x = with(1, 1, 1);
        x.test(1, 1);
        for (int test = 0; test < 2; test++) {
            x.outcome(test, true);
            x.change(0, 1 + test);
            due("nothing was read", x.why(test), 0);
            x.reads(test, 0, NONE);
            due("told, not kept yet", x.why(test), 0);
            x.outcome(test, true);
            due("nothing changed", x.why(test), 0);
        }
        x.select(0);
        fail(x, 0, 1);
        x.change(0, 9);
        due("one that would be an extra is not chosen", x.why(0), 0);
        due("though it is one", x.select(1), 2);
    }

    private static void whyOfNone() {
        TouchSelect x = with(0, 0, 2);
        due("-1", x.why(-1), NONE);
        due("the last", x.why(1), 2);
        due("2 of 2", x.why(2), NONE);
        for (int test : FAR) {
            due("test " + test, x.why(test), NONE);
        }
        due("24 of 24", full().why(24), NONE);
    }

    private static void keptCount() {
        TouchSelect x = full();
        due("never ran", x.kept(0, 0), 0);
        for (int i = 0; i < 30; i++) {
            x.reads(0, 19, i);
        }
        due("not kept yet", x.kept(0, 0), 0);
        x.outcome(0, false);
        due("30", x.kept(0, 0), 30);
        x.change(19, 1);
        due("changes take none away", x.kept(0, 0), 30);
        x.outcome(0, true);
        due("none", x.kept(0, 0), 0);
    }

    private static void keptByThemselves() {
        TouchSelect x = with(20, 0, 1);
        due("never ran: none", x.kept(0, 1), 0);
        for (int i = 0; i < 20; i++) {
            x.reads(0, i, NONE);
        }
        x.outcome(0, true);
        due("all", x.kept(0, 1), 20);
        x.setting(0, 1);
        due("the setting is no read", x.kept(0, 1), 20);
        for (int i = 0; i < 20; i++) {
            x.change(i, 1);
            due("one less", x.kept(0, 1), 19 - i);
        }
        x.change(7, 0);
        due("as it was", x.kept(0, 1), 1);
    }

    private static void keptByMode() {
        TouchSelect x = with(2, 2, 0);
        for (int mode = 0; mode < 3; mode++) {
            x.test(mode, 1);
            x.reads(mode, 0, NONE);
            x.reads(mode, 1, NONE);
            x.reads(mode, 1, 0);
            x.reads(mode, 1, 1);
            x.outcome(mode, true);
            due("all", x.kept(mode, 1), 4);
        }
        x.changeFunction(1, 1);
        due("a function, by files", x.kept(0, 1), 1);
        due("a function, by functions", x.kept(1, 1), 2);
        due("a function, always", x.kept(2, 1), 1);
        x.changeFunction(1, 0);
        x.change(1, 1);
        due("the rest, by functions", x.kept(1, 1), 1);
        due("the rest, always", x.kept(2, 1), 1);
        x.change(1, 0);
        x.function(1, 0);
        due("a new function, by files", x.kept(0, 1), 1);
        due("a new function, by functions", x.kept(1, 1), 3);
        due("a new function, always", x.kept(2, 1), 1);
    }

    private static void keptOfNone() {
        TouchSelect x = with(0, 0, 2);
        for (int what = 0; what < 2; what++) {
            due("-1", x.kept(-1, what), NONE);
            due("the last", x.kept(1, what), 0);
            due("2 of 2", x.kept(2, what), NONE);
            for (int test : FAR) {
                due("test " + test, x.kept(test, what), NONE);
            }
            due("24 of 24", full().kept(24, what), NONE);
        }
    }

    private static void keptAnotherWhat() {
        TouchSelect x = with(0, 0, 1);
        due("-1", x.kept(0, -1), NONE);
        due("2", x.kept(0, 2), NONE);
        for (int what : FAR) {
            due("what " + what, x.kept(0, what), NONE);
        }
        due("none such either", x.kept(1, 2), NONE);
    }

    private static void shareNow() {
        TouchSelect x = with(20, 0, 24);
        due("0 at first", x.share(23), 0);
        x.select(0);
        fail(x, 23, 3);
        due("nothing touched", x.share(23), 0);
        x.change(19, 0);
        due("the same digest", x.share(23), 0);
        x.change(19, 1);
        due("the last file", x.share(23), 3);
        x.change(0, 1);
        due("the first too", x.share(23), 6);
        fail(x, 23, 1);
        due("at once", x.share(23), 8);
        due("another test", x.share(22), 0);
        x.select(-1);
        due("a refused selection", x.share(23), 8);
        x.select(0);
        due("a selection", x.share(23), 0);
    }

    private static void shareOfNone() {
        TouchSelect x = with(1, 0, 2);
        due("-1", x.share(-1), NONE);
        due("the last", x.share(1), 0);
        due("2 of 2", x.share(2), NONE);
        for (int test : FAR) {
            due("test " + test, x.share(test), NONE);
        }
        due("24 of 24", full().share(24), NONE);
    }

    private static void togetherOfNone() {
        TouchSelect x = with(2, 0, 3);
        due("the last ones", x.together(2, 1), 0);
        due("test -1", x.together(-1, 0), NONE);
        due("test 3 of 3", x.together(3, 0), NONE);
        due("file -1", x.together(0, -1), NONE);
        due("file 2 of 2", x.together(0, 2), NONE);
        for (int number : FAR) {
            due("test " + number, x.together(number, 0), NONE);
            due("file " + number, x.together(0, number), NONE);
            due("both " + number, x.together(number, number), NONE);
        }
        TouchSelect y = full();
        due("test 24 of 24", y.together(24, 0), NONE);
        due("file 20 of 20", y.together(0, 20), NONE);
        due("the last of all", y.together(23, 19), 0);
    }

    private static void touchedNow() {
        TouchSelect x = full();
        due("the last", x.touched(19), true);
        x.select(0);
        due("not any more", x.touched(19), false);
        x.changeFunction(39, 1);
        due("by the last function", x.touched(19), true);
        due("it alone", x.touched(18), false);
    }

    private static void touchedOfNone() {
        TouchSelect x = with(2, 0, 0);
        due("-1", x.touched(-1), false);
        due("the last", x.touched(1), true);
        due("2 of 2", x.touched(2), false);
        for (int file : FAR) {
            due("file " + file, x.touched(file), false);
        }
        due("20 of 20", full().touched(20), false);
    }

    private static void missedWhat() {
        TouchSelect x = with(1, 0, 24);
        for (int i = 0; i < 24; i++) {
            x.outcome(i, true);
        }
        for (int i = 1; i <= 50; i++) {
            x.select(0);
            x.outcome(24 - (i % 24 + 1), false);
        }
        for (int i = 1; i <= 50; i++) {
            due("the test", x.missed(i - 1, 0), 24 - (i % 24 + 1));
            due("the selections then", x.missed(i - 1, 1), i);
        }
    }

    private static void missedNone() {
        TouchSelect x = with(0, 0, 1);
        x.outcome(0, true);
        x.select(0);
        for (int what = 0; what < 2; what++) {
            due("none at all", x.missed(0, what), NONE);
        }
        fail(x, 0, 2);
        for (int what = 0; what < 2; what++) {
            due("-1", x.missed(-1, what), NONE);
            due("the last", x.missed(1, what), what);
            due("2 of 2", x.missed(2, what), NONE);
            for (int i : FAR) {
                due("i " + i, x.missed(i, what), NONE);
            }
        }
        fail(x, 0, 98);
        for (int what = 0; what < 2; what++) {
            due("the last of 100", x.missed(99, what), what);
            due("100 of 100", x.missed(100, what), NONE);
        }
    }

    private static void missedAnotherWhat() {
        TouchSelect x = with(0, 0, 1);
        x.outcome(0, true);
        x.select(0);
        fail(x, 0, 1);
        due("-1", x.missed(0, -1), NONE);
        due("2", x.missed(0, 2), NONE);
        for (int what : FAR) {
            due("what " + what, x.missed(0, what), NONE);
        }
        due("none such either", x.missed(1, 2), NONE);
    }
}
