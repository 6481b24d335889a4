/** For each promise of the document: ordinary inputs, the edges it names, and wrong inputs. */
public final class PromisesTest {
    private static final int NONE = TouchSelect.NONE;
    private static final int[] WRONG = {NONE, -2, 1000, Integer.MIN_VALUE, Integer.MAX_VALUE};
    private static int wrong = 0;

    public static void main(String[] args) {
        newObject();
        files();
        functions();
        changeOfRest();
        changeOfFunction();
        testsAndTheirLimits();
        settings();
        readsAnswers();
        readsLimit();
        outcomeKeepsReads();
        outcomeKeepsAllAsItIsThen();
        failedTogether();
        selectBudget();
        selectRanksExactly();
        selectLetsOthersFit();
        selectClearsTouched();
        atOrder();
        whyOrder();
        whyByFiles();
        whyByFunctions();
        keptByMode();
        keptOfManyReads();
        shareOfTouchedNow();
        togetherWrong();
        touchedNow();
        missedOnes();
        missedLimit();
        objectsAreApart();
        System.out.println(wrong == 0 ? "promises hold" : wrong + " answers are not as due");
        if (wrong != 0) {
            System.exit(1);
        }
    }

    private static void due(String what, long got, long want) {
        if (got != want) {
            wrong++;
            System.out.println(what + " answered " + got + ", due is " + want);
        }
    }

    private static void due(String what, boolean got, boolean want) {
        due(what, got ? 1 : 0, want ? 1 : 0);
    }

    /** An object with the given number of files, each with its number as digest. */
    private static TouchSelect withFiles(int count) {
        TouchSelect x = new TouchSelect();
        for (int i = 0; i < count; i++) {
            due("file", x.file(i), i);
        }
        return x;
    }

    private static int ranTest(TouchSelect x, int mode, int time) {
        int test = x.test(mode, time);
        x.outcome(test, true);
        return test;
    }

    private static void fail(TouchSelect x, int test, int times) {
        for (int i = 0; i < times; i++) {
            x.outcome(test, false);
        }
    }

    private static void newObject() {
        TouchSelect x = new TouchSelect();
        due("1 NONE", TouchSelect.NONE, -1);
        due("1 touched", x.touched(0), false);
        due("1 change", x.change(0, 1), false);
        due("1 changeFunction", x.changeFunction(0, 1), false);
        due("1 function", x.function(0, 1), NONE);
        due("1 setting", x.setting(0, 1), false);
        due("1 reads", x.reads(0, 0, NONE), NONE);
        due("1 outcome", x.outcome(0, true), NONE);
        due("1 at", x.at(0), NONE);
        due("1 why", x.why(0), NONE);
        due("1 kept", x.kept(0, 0), NONE);
        due("1 share", x.share(0), NONE);
        due("1 together", x.together(0, 0), NONE);
        due("1 missed", x.missed(0, 0), NONE);
        due("1 select", x.select(0), 0);
    }

    private static void files() {
        TouchSelect x = new TouchSelect();
        for (int i = 0; i < 20; i++) {
            due("2 file", x.file(7), i);
            due("2 touched", x.touched(i), true);
        }
        due("2 file beyond 20", x.file(7), NONE);
        due("2 touched beyond 20", x.touched(20), false);
        x.select(0);
        due("2 file beyond 20 again", x.file(8), NONE);
        for (int i = 0; i < 20; i++) {
            due("2 refused file touches nothing", x.touched(i), false);
        }
        TouchSelect later = withFiles(1);
        later.select(0);
        due("2 file after a selection", later.file(0), 1);
        due("2 new one is touched", later.touched(1), true);
        due("2 old one is not", later.touched(0), false);
    }

    private static void functions() {
        TouchSelect x = withFiles(2);
        x.select(0);
        for (int file : WRONG) {
            due("3 function of no file", x.function(file, 1), NONE);
        }
        due("3 function of a file to come", x.function(2, 1), NONE);
        for (int i = 0; i < 40; i++) {
            due("3 function", x.function(1, 5), i);
        }
        due("3 its file is touched", x.touched(1), true);
        due("3 the other is not", x.touched(0), false);
        due("3 function beyond 40", x.function(0, 5), NONE);
        due("3 refused one touches nothing", x.touched(0), false);
    }

    private static void changeOfRest() {
        TouchSelect x = withFiles(2);
        for (int file : WRONG) {
            due("4 change of no file", x.change(file, 1), false);
        }
        due("4 change of a file to come", x.change(2, 1), false);
        int test = x.test(0, 1);
        x.reads(test, 1, NONE);
        x.outcome(test, true);
        x.select(0);
        due("4 same digest", x.change(1, 1), true);
        due("4 same digest touches nothing", x.touched(1), false);
        due("4 same digest is no reason", x.why(test), 0);
        due("4 only the high bits differ", x.change(1, 1L | 1L << 63), true);
        due("4 touched", x.touched(1), true);
        due("4 other file", x.touched(0), false);
        due("4 reason", x.why(test), 4);
        due("4 back again", x.change(1, 1), true);
        due("4 back again is touched still", x.touched(1), true);
        due("4 back again is as it was", x.why(test), 0);
    }

    private static void changeOfFunction() {
        TouchSelect x = withFiles(2);
        x.function(1, 50);
        for (int function : WRONG) {
            due("5 change of no function", x.changeFunction(function, 1), false);
        }
        due("5 change of a function to come", x.changeFunction(1, 1), false);
        int test = x.test(1, 1);
        x.reads(test, 1, 0);
        x.outcome(test, true);
        x.select(0);
        due("5 same digest", x.changeFunction(0, 50), true);
        due("5 same digest touches nothing", x.touched(1), false);
        due("5 only the high bits differ", x.changeFunction(0, 50L | 1L << 40), true);
        due("5 touched", x.touched(1), true);
        due("5 other file", x.touched(0), false);
        due("5 reason", x.why(test), 5);
        due("5 back again", x.changeFunction(0, 50), true);
        due("5 back again is touched still", x.touched(1), true);
        due("5 back again is no reason", x.why(test), 0);
    }

    private static void testsAndTheirLimits() {
        TouchSelect x = new TouchSelect();
        int[] modes = {-1, 3, Integer.MIN_VALUE, Integer.MAX_VALUE};
        int[] times = {0, -1, 1001, Integer.MIN_VALUE, Integer.MAX_VALUE};
        for (int mode : modes) {
            due("6 wrong mode", x.test(mode, 1), NONE);
        }
        for (int time : times) {
            due("6 wrong time", x.test(0, time), NONE);
        }
        for (int i = 0; i < 24; i++) {
            due("6 test", x.test(i % 3, i % 2 == 0 ? 1 : 1000), i);
        }
        due("6 test beyond 24", x.test(0, 1), NONE);
        due("6 none beyond 24", x.why(24), NONE);
        due("6 all are selected", x.select(0), 24);
    }

    private static void settings() {
        TouchSelect x = new TouchSelect();
        for (int test : WRONG) {
            due("7 setting of no test", x.setting(test, 1), false);
        }
        int test = ranTest(x, 0, 1);
        int other = ranTest(x, 1, 1);
        due("7 setting of a test to come", x.setting(2, 1), false);
        due("7 the first setting is 0", x.setting(test, 0), true);
        due("7 no reason", x.why(test), 0);
        due("7 another setting", x.setting(test, 1L << 40), true);
        due("7 reason", x.why(test), 3);
        due("7 other test", x.why(other), 0);
        x.outcome(test, true);
        due("7 kept", x.why(test), 0);
        x.setting(test, 0);
        due("7 0 is another one now", x.why(test), 3);
        x.setting(test, 1L << 40);
        due("7 back again", x.why(test), 0);
        x.setting(other, 8);
        due("7 mode 1", x.why(other), 3);
        x.outcome(other, false);
        due("7 a failure keeps it too", x.why(other), 0);
    }

    private static void readsAnswers() {
        TouchSelect x = withFiles(2);
        x.function(0, 1);
        x.function(1, 1);
        x.test(0, 1);
        for (int number : WRONG) {
            due("8 no test", x.reads(number, 0, NONE), NONE);
            due("8 no file", x.reads(0, number, NONE), NONE);
            due("8 no file for the function", x.reads(0, number, 0), NONE);
            if (number != NONE) {
                due("8 no function", x.reads(0, 0, number), NONE);
            }
        }
        due("8 test to come", x.reads(1, 0, NONE), NONE);
        due("8 file to come", x.reads(0, 2, NONE), NONE);
        due("8 function to come", x.reads(0, 0, 2), NONE);
        due("8 function of another file", x.reads(0, 0, 1), NONE);
        due("8 a file", x.reads(0, 0, NONE), 1);
        due("8 the same file", x.reads(0, 0, NONE), 0);
        due("8 its function is another read", x.reads(0, 0, 0), 1);
        due("8 the same function", x.reads(0, 0, 0), 0);
        due("8 wrong file for a told function", x.reads(0, 1, 0), NONE);
        due("8 kept", x.outcome(0, true), 2);
        due("8 told anew after the outcome", x.reads(0, 0, NONE), 1);
        due("8 kept in place of those before", x.outcome(0, true), 1);
    }

    private static void readsLimit() {
        TouchSelect x = withFiles(20);
        for (int i = 0; i < 40; i++) {
            x.function(19, i);
        }
        x.test(1, 1);
        x.test(1, 1);
        for (int i = 0; i < 30; i++) {
            due("8 read", x.reads(0, 19, 10 + i), 1);
        }
        due("8 read beyond 30", x.reads(0, 0, NONE), NONE);
        due("8 function beyond 30", x.reads(0, 19, 0), NONE);
        due("8 told already, with 30", x.reads(0, 19, 39), 0);
        due("8 none such, with 30", x.reads(0, 18, 39), NONE);
        due("8 another test has its own 30", x.reads(1, 0, NONE), 1);
        due("9 thirty kept", x.outcome(0, true), 30);
        due("13 thirty", x.kept(0, 0), 30);
        due("8 a new run", x.reads(0, 0, NONE), 1);
        due("13 kept until the outcome", x.kept(0, 0), 30);
        x.changeFunction(39, -1);
        due("12 the last function counts", x.why(0), 5);
        due("13 all but it", x.kept(0, 1), 29);
        x.change(19, -1);
        due("13 the rest concerns all", x.kept(0, 1), 0);
        due("12 5 goes before 6", x.why(0), 5);
    }

    private static void outcomeKeepsReads() {
        TouchSelect x = withFiles(3);
        x.test(0, 1);
        for (int test : WRONG) {
            due("9 no test", x.outcome(test, true), NONE);
            due("9 no test that failed", x.outcome(test, false), NONE);
        }
        due("9 test to come", x.outcome(1, true), NONE);
        due("9 no reads", x.outcome(0, false), 0);
        due("9 it has run", x.why(0), 0);
        x.reads(0, 0, NONE);
        x.reads(0, 1, NONE);
        due("9 two", x.outcome(0, true), 2);
        x.reads(0, 2, NONE);
        due("9 one in place of two", x.outcome(0, false), 1);
        x.change(0, 100);
        due("9 the former ones are gone", x.why(0), 0);
        x.change(2, 100);
        due("9 the new one is kept", x.why(0), 4);
    }

    private static void outcomeKeepsAllAsItIsThen() {
        TouchSelect x = withFiles(1);
        x.function(0, 1);
        x.test(1, 1);
        x.reads(0, 0, NONE);
        x.reads(0, 0, 0);
        x.change(0, 9);
        x.changeFunction(0, 9);
        x.function(0, 2);
        x.setting(0, 9);
        x.outcome(0, true);
        due("9 as all is at the outcome, not at the read", x.why(0), 0);
        due("9 and its reads", x.kept(0, 1), 2);
        x.change(0, 0);
        due("9 the digest at the read is another one", x.why(0), 4);
    }

    private static void failedTogether() {
        TouchSelect x = withFiles(3);
        x.test(0, 1);
        x.outcome(0, false);
        due("15 nothing without a selection", x.together(0, 0), 0);
        x.select(0);
        x.change(0, 100);
        x.outcome(0, false);
        due("15 touched at the selection", x.together(0, 2), 1);
        x.outcome(0, true);
        due("15 not if it passed", x.together(0, 2), 1);
        x.select(0);
        x.outcome(0, false);
        due("15 the latest selection counts", x.together(0, 0), 2);
        due("15 and no other", x.together(0, 2), 1);
        due("15 a refused selection", x.select(-1), NONE);
        x.change(1, 100);
        x.select(100001);
        x.outcome(0, false);
        due("15 a refused one is none", x.together(0, 0), 3);
        due("15 it takes no touched files", x.together(0, 1), 1);
        due("15 nor clears them", x.touched(1), true);
        x.file(3);
        due("15 a new file", x.together(0, 3), 0);
        x.test(0, 1);
        due("15 a new test", x.together(1, 0), 0);
    }

    private static void selectBudget() {
        TouchSelect x = withFiles(1);
        x.test(2, 1000);
        int[] budgets = {-1, 100001, Integer.MIN_VALUE, Integer.MAX_VALUE};
        for (int budget : budgets) {
            due("10 wrong budget", x.select(budget), NONE);
        }
        due("10 a refused one selects nothing", x.at(0), NONE);
        due("10 chosen ones cost nothing", x.select(0), 1);
        due("10 the greatest budget", x.select(100000), 1);
        due("10 refused", x.select(-1), NONE);
        due("10 the former selection stays", x.at(0), 0);

        TouchSelect y = withFiles(1);
        int extra = ranTest(y, 0, 1000);
        y.select(0);
        fail(y, extra, 1);
        y.change(0, 100);
        due("10 one too little", y.select(999), 0);
        y.change(0, 101);
        due("10 just enough", y.select(1000), 1);
        due("10 nothing touched, no extras", y.select(100000), 0);
    }

    private static void selectRanksExactly() {
        TouchSelect x = withFiles(1);
        int a = ranTest(x, 0, 1000);
        int b = ranTest(x, 0, 999);
        int c = ranTest(x, 0, 500);
        int d = ranTest(x, 0, 250);
        int e = ranTest(x, 0, 1);
        int never = ranTest(x, 0, 1);
        x.select(0);
        fail(x, a, 4);
        fail(x, b, 4);
        fail(x, c, 2);
        fail(x, d, 1);
        fail(x, e, 1);
        x.change(0, 100);
        due("10 five extras", x.select(100000), 5);
        due("11 the quickest", x.at(0), e);
        due("11 exactly more", x.at(1), b);
        due("11 like ones: the least number", x.at(2), a);
        due("11 like ones: the next", x.at(3), c);
        due("11 like ones: the last", x.at(4), d);
        due("11 no more", x.at(5), NONE);
        due("10 one without a share", x.share(never), 0);
    }

    private static void selectLetsOthersFit() {
        TouchSelect x = withFiles(1);
        int first = ranTest(x, 0, 10);
        int big = ranTest(x, 0, 20);
        int small = ranTest(x, 0, 5);
        int chosen = x.test(2, 1000);
        x.select(0);
        fail(x, first, 9);
        fail(x, big, 10);
        fail(x, small, 1);
        fail(x, chosen, 3);
        x.change(0, 100);
        due("10 chosen one and two extras", x.select(15), 3);
        due("11 chosen one", x.at(0), chosen);
        due("11 first extra", x.at(1), first);
        due("11 one behind that fits", x.at(2), small);
        x.change(0, 101);
        due("10 one less", x.select(14), 2);
        due("11 only the first", x.at(1), first);
    }

    private static void selectClearsTouched() {
        TouchSelect x = withFiles(3);
        due("16 touched at first", x.touched(2), true);
        x.select(5);
        for (int i = 0; i < 3; i++) {
            due("10 no file is touched any more", x.touched(i), false);
        }
    }

    private static void atOrder() {
        TouchSelect x = withFiles(1);
        int extra = ranTest(x, 0, 1);
        due("11 no selection", x.at(0), NONE);
        x.select(0);
        fail(x, extra, 1);
        int fresh = x.test(1, 1);
        int always = x.test(2, 1);
        x.change(0, 100);
        due("11 three", x.select(1), 3);
        due("11 chosen by numbers", x.at(0), fresh);
        due("11 chosen by numbers, next", x.at(1), always);
        due("11 extras behind them", x.at(2), extra);
        for (int i : WRONG) {
            due("11 none such", x.at(i), NONE);
        }
        due("11 behind the last", x.at(3), NONE);
        x.outcome(fresh, true);
        x.test(0, 1);
        due("11 it stays as it was selected", x.at(0), fresh);
        due("11 the next selection", x.select(0), 2);
        due("11 in place of the former", x.at(0), always);
        due("11 and shorter", x.at(2), NONE);
    }

    private static void whyOrder() {
        TouchSelect x = withFiles(1);
        int always = x.test(2, 1);
        int other = x.test(0, 1);
        for (int test : WRONG) {
            due("12 none such", x.why(test), NONE);
        }
        due("12 to come", x.why(2), NONE);
        due("12 always", x.why(always), 1);
        x.setting(other, 5);
        due("12 never ran goes before the setting", x.why(other), 2);
        x.reads(other, 0, NONE);
        due("12 reads alone are no run", x.why(other), 2);
        x.outcome(other, true);
        due("12 not chosen", x.why(other), 0);
        x.change(0, 100);
        due("12 file", x.why(other), 4);
        x.setting(other, 6);
        due("12 the setting goes before the file", x.why(other), 3);
        x.outcome(always, true);
        x.setting(always, 6);
        due("12 always, whatever comes", x.why(always), 1);
    }

    private static void whyByFiles() {
        TouchSelect x = withFiles(2);
        x.function(0, 1);
        x.function(0, 2);
        x.test(0, 1);
        x.reads(0, 0, 0);
        x.outcome(0, true);
        x.change(1, 100);
        x.function(1, 1);
        due("12 another file", x.why(0), 0);
        x.changeFunction(1, 3);
        due("12 another function of the file", x.why(0), 4);
        x.changeFunction(1, 2);
        due("12 as it was", x.why(0), 0);
        x.change(0, 100);
        due("12 the rest of the file", x.why(0), 4);
        x.change(0, 0);
        x.changeFunction(0, 3);
        due("12 the function itself", x.why(0), 4);
        x.changeFunction(0, 1);
        x.function(0, 0);
        due("12 a function came", x.why(0), 4);
        x.changeFunction(3, 1);
        due("12 it never goes", x.why(0), 4);
        x.reads(0, 0, NONE);
        x.outcome(0, true);
        x.function(0, 0);
        due("12 the very next function came, with digest 0", x.why(0), 4);
    }

    private static void whyByFunctions() {
        TouchSelect x = withFiles(3);
        x.function(0, 1);
        x.function(0, 2);
        x.function(1, 3);
        x.function(2, 4);
        x.test(1, 1);
        x.reads(0, 0, 0);
        x.reads(0, 1, 2);
        x.reads(0, 2, NONE);
        x.outcome(0, true);
        x.changeFunction(1, 9);
        x.function(0, 1);
        due("12 other functions of the file", x.why(0), 0);
        x.change(0, 9);
        due("12 the rest of the function's file", x.why(0), 6);
        x.changeFunction(2, 9);
        due("12 5 of one read goes before 6 of another", x.why(0), 5);
        x.changeFunction(3, 9);
        due("12 4 goes before both", x.why(0), 4);
        x.changeFunction(3, 4);
        due("12 file as it was", x.why(0), 5);
        x.changeFunction(2, 3);
        due("12 function as it was", x.why(0), 6);
        x.change(0, 0);
        due("12 rest as it was", x.why(0), 0);
        x.change(2, 9);
        due("12 rest of the file that was read", x.why(0), 4);
        x.change(2, 2);
        x.function(2, 0);
        due("12 a function came to it", x.why(0), 4);
    }

    private static void keptByMode() {
        TouchSelect x = withFiles(2);
        x.function(0, 1);
        x.function(0, 2);
        for (int mode = 0; mode < 3; mode++) {
            x.test(mode, 1);
            due("13 none kept before a run", x.kept(mode, 0), 0);
            due("13 none harmless before a run", x.kept(mode, 1), 0);
            x.reads(mode, 0, 0);
            x.reads(mode, 0, NONE);
            x.reads(mode, 1, NONE);
            due("13 none kept before the outcome", x.kept(mode, 0), 0);
            x.outcome(mode, true);
            due("13 three", x.kept(mode, 0), 3);
            due("13 all harmless", x.kept(mode, 1), 3);
        }
        int[] whats = {-1, 2, Integer.MIN_VALUE, Integer.MAX_VALUE};
        for (int what : whats) {
            due("13 another what", x.kept(0, what), NONE);
        }
        for (int test : WRONG) {
            due("13 none such", x.kept(test, 0), NONE);
            due("13 none such", x.kept(test, 1), NONE);
        }
        due("13 to come", x.kept(3, 0), NONE);
        x.changeFunction(1, 9);
        due("13 by files", x.kept(0, 1), 1);
        due("13 by functions", x.kept(1, 1), 2);
        due("13 always: by files", x.kept(2, 1), 1);
        due("13 the count stays", x.kept(1, 0), 3);
        x.changeFunction(1, 2);
        x.change(0, 9);
        due("13 rest, by functions", x.kept(1, 1), 1);
        x.change(0, 0);
        x.setting(1, 5);
        due("13 the setting is no read", x.kept(1, 1), 3);
    }

    private static void keptOfManyReads() {
        TouchSelect x = withFiles(20);
        x.test(0, 1);
        for (int i = 0; i < 20; i++) {
            x.reads(0, i, NONE);
        }
        due("13 twenty", x.outcome(0, true), 20);
        for (int i = 0; i < 20; i++) {
            x.change(i, 100);
            due("13 one less", x.kept(0, 1), 19 - i);
        }
    }

    private static void shareOfTouchedNow() {
        TouchSelect x = withFiles(2);
        x.test(2, 1);
        x.test(0, 1);
        for (int test : WRONG) {
            due("14 none such", x.share(test), NONE);
        }
        due("14 to come", x.share(2), NONE);
        due("14 at first", x.share(0), 0);
        x.select(0);
        fail(x, 0, 2);
        due("14 nothing is touched", x.share(0), 0);
        x.change(0, 100);
        due("14 one file", x.share(0), 2);
        x.change(1, 100);
        due("14 both files", x.share(0), 4);
        due("14 another test", x.share(1), 0);
        x.select(0);
        due("14 after a selection", x.share(0), 0);
    }

    private static void togetherWrong() {
        TouchSelect x = withFiles(1);
        x.test(0, 1);
        for (int number : WRONG) {
            due("15 no test", x.together(number, 0), NONE);
            due("15 no file", x.together(0, number), NONE);
        }
        due("15 test to come", x.together(1, 0), NONE);
        due("15 file to come", x.together(0, 1), NONE);
        due("15 both", x.together(0, 0), 0);
    }

    private static void touchedNow() {
        TouchSelect x = withFiles(1);
        for (int file : WRONG) {
            due("16 none such", x.touched(file), false);
        }
        due("16 a file to come", x.touched(1), false);
        due("16 a new one", x.touched(0), true);
        x.select(0);
        due("16 after a selection", x.touched(0), false);
        x.function(0, 1);
        due("16 a function came", x.touched(0), true);
        x.test(0, 1);
        x.outcome(0, false);
        due("16 an outcome clears nothing", x.touched(0), true);
    }

    private static void missedOnes() {
        TouchSelect x = withFiles(1);
        int ran = ranTest(x, 0, 1);
        int always = x.test(2, 1);
        x.outcome(ran, false);
        due("17 nothing without a selection", x.missed(0, 0), NONE);
        x.select(0);
        x.change(0, 99);
        x.select(0);
        x.select(-1);
        x.outcome(always, false);
        due("17 it was selected", x.missed(0, 0), NONE);
        x.outcome(ran, true);
        due("17 it passed", x.missed(0, 0), NONE);
        x.outcome(ran, false);
        due("17 missed", x.missed(0, 0), ran);
        due("17 two selections", x.missed(0, 1), 2);
        int fresh = x.test(2, 1);
        x.select(0);
        x.outcome(fresh, false);
        int late = x.test(2, 1);
        x.outcome(late, false);
        due("17 one that came after the selection", x.missed(1, 0), late);
        due("17 three selections", x.missed(1, 1), 3);
        due("17 the first stays", x.missed(0, 1), 2);
        due("17 behind the last", x.missed(2, 0), NONE);
        for (int i : WRONG) {
            due("17 none such", x.missed(i, 0), NONE);
            due("17 none such", x.missed(i, 1), NONE);
        }
        int[] whats = {-1, 2, Integer.MIN_VALUE, Integer.MAX_VALUE};
        for (int what : whats) {
            due("17 another what", x.missed(0, what), NONE);
        }
        x.change(0, 100);
        due("17 an extra", x.select(1), 4);
        due("17 is in the selection", x.at(3), ran);
        x.outcome(ran, false);
        due("17 and is not missed", x.missed(2, 0), NONE);
    }

    private static void missedLimit() {
        TouchSelect x = withFiles(1);
        int first = ranTest(x, 0, 1);
        int second = ranTest(x, 0, 1);
        x.select(0);
        fail(x, first, 99);
        due("17 no hundredth yet", x.missed(99, 0), NONE);
        fail(x, second, 3);
        due("17 the hundredth", x.missed(99, 0), second);
        due("17 its selections", x.missed(99, 1), 1);
        due("17 none beyond", x.missed(100, 0), NONE);
        due("17 the first ones stay", x.missed(0, 0), first);
        due("17 failures count on", x.together(second, 0), 3);
    }

    private static void objectsAreApart() {
        TouchSelect x = withFiles(1);
        TouchSelect y = new TouchSelect();
        x.test(0, 1);
        due("1 another object has no file", y.touched(0), false);
        due("1 nor a test", y.why(0), NONE);
    }
}
