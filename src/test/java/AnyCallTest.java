import java.util.Random;

/** No call throws for any arguments in any state, far beyond the calls that the document promises. */
public final class AnyCallTest {
    private static final int[] NUMBERS = {
        Integer.MIN_VALUE, Integer.MIN_VALUE + 1, -2, -1, 0, 1, 2, 3, 19, 20, 21, 23, 24, 25, 29, 30, 31, 39, 40, 41,
        59, 60, 63, 64, 99, 100, 101, 1000, 1001, 100000, 100001, Integer.MAX_VALUE - 1, Integer.MAX_VALUE,
    };
    private static final Random RANDOM = new Random(5);

    public static void main(String[] args) {
        for (int run = 0; run < 200; run++) {
            TouchSelect x = new TouchSelect();
            for (int i = 0; i < 5000; i++) {
                try {
                    call(x, RANDOM.nextInt(16));
                } catch (RuntimeException thrown) {
                    System.out.println("a call threw " + thrown);
                    thrown.printStackTrace(System.out);
                    System.exit(1);
                }
            }
        }
        System.out.println("no call throws");
    }

    private static int n() {
        return RANDOM.nextInt(3) == 0 ? NUMBERS[RANDOM.nextInt(NUMBERS.length)] : RANDOM.nextInt(42) - 1;
    }

    private static void call(TouchSelect x, int kind) {
        switch (kind) {
            case 0 -> x.file(n());
            case 1 -> x.function(n(), n());
            case 2 -> x.change(n(), n());
            case 3 -> x.changeFunction(n(), n());
            case 4 -> x.test(RANDOM.nextInt(3), n());
            case 5 -> x.setting(n(), n());
            case 6 -> x.reads(n(), n(), n());
            case 7 -> x.outcome(n(), RANDOM.nextBoolean());
            case 8 -> x.select(n());
            case 9 -> x.at(n());
            case 10 -> x.why(n());
            case 11 -> x.kept(n(), n());
            case 12 -> x.share(n());
            case 13 -> x.together(n(), n());
            case 14 -> x.touched(n());
            default -> x.missed(n(), n());
        }
    }
}
