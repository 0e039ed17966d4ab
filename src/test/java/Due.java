/** Counts the answers that are due, and tells those that were not given. */
final class Due {
    private static int right = 0;
    private static int wrong = 0;
    private static String about = "";

    private Due() {
    }

    /** What the answers that follow are about: told before each of those that were not given. */
    static void about(String what) {
        about = what;
    }

    static void due(String call, long got, long want) {
        if (got == want) {
            right++;
        } else {
            wrong++;
            System.out.println(about + call + " answered " + got + ", due is " + want);
        }
    }

    static void due(String call, boolean got, boolean want) {
        due(call, got ? 1 : 0, want ? 1 : 0);
    }

    static void finish() {
        System.out.println(right + " answers as due, " + wrong + " not");
        if (wrong != 0) {
            System.exit(1);
        }
    }

    /** Puts bytes behind the tape, twenty by twenty; what is lacking of the last twenty is 0. */
    static void feed(UtilityBoard board, int... bytes) {
        for (int i = 0; i < bytes.length; i += 20) {
            int[] five = new int[5];
            for (int k = 0; k < 20; k++) {
                five[k / 4] = five[k / 4] << 8 | (i + k < bytes.length ? bytes[i + k] & 255 : 0);
            }
            board.feed(five[0], five[1], five[2], five[3], five[4]);
        }
    }

    static int order(UtilityBoard board, int from, int to, String text) {
        feed(board, text.chars().toArray());
        return board.order(from, to, text.length());
    }
}
