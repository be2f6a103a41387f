import java.util.Arrays;

/** Compares answers with those that are due; a test ends with {@link #end()}. */
final class Due {
    private static int wrong = 0;

    private Due() {
    }

    static void same(String call, long got, long want) {
        if (got != want) {
            wrong(call + " answered " + got + ", due is " + want);
        }
    }

    static void same(String call, boolean got, boolean want) {
        if (got != want) {
            wrong(call + " answered " + got + ", due is " + want);
        }
    }

    static void same(String call, int[] got, int[] want) {
        if (!Arrays.equals(got, want)) {
            wrong(call + " answered " + Arrays.toString(got) + ", due is " + Arrays.toString(want));
        }
    }

    static void wrong(String what) {
        wrong++;
        System.out.println(what);
    }

    static void end() {
        if (wrong != 0) {
            System.out.println(wrong + " answers are not as due");
            System.exit(1);
        }
    }
}
