/** What the tests of the promises share: a count of wrong answers, decks and typed lines. */
final class Bench {
    static final int END = 0;
    static final int LOAD = 1 * 256;
    static final int STORE = 2 * 256;
    static final int ADD = 3 * 256;
    static final int SUB = 4 * 256;
    static final int MUL = 5 * 256;
    static final int DIV = 6 * 256;
    static final int JUMP = 7 * 256;
    static final int BELOW = 8 * 256;
    static final int ZERO = 9 * 256;
    static final int SETX = 10 * 256;
    static final int LOADX = 11 * 256;
    static final int STOREX = 12 * 256;
    static final int READ = 13 * 256;
    static final int PRINT = 14 * 256;
    static final int ASK = 15 * 256;
    static final int GET = 16 * 256;
    static final int GIVE = 17 * 256;
    static final int SET = 18 * 256;
    static final int TAKEX = 19 * 256;

    static final int[] EXTREMES = {Integer.MIN_VALUE, Integer.MIN_VALUE + 1, -1000, -3, -2, -1, 1000,
        Integer.MAX_VALUE - 1, Integer.MAX_VALUE};

    private static int wrong = 0;

    private Bench() {
    }

    static void due(String what, long got, long want) {
        if (got != want) {
            wrong++;
            System.out.println(what + ": answered " + got + ", due is " + want);
        }
    }

    static void due(String what, boolean got, boolean want) {
        due(what, got ? 1 : 0, want ? 1 : 0);
    }

    static void finish() {
        System.out.println(wrong == 0 ? "all answers are as due" : wrong + " answers are not as due");
        if (wrong != 0) {
            System.exit(1);
        }
    }

    /** The words, and behind them as many 0 as fill up the last four. */
    static void feed(DrumLayers x, int... words) {
        for (int i = 0; i < words.length; i += 4) {
            int[] four = new int[4];
            System.arraycopy(words, i, four, 0, Math.min(4, words.length - i));
            x.feed(four[0], four[1], four[2], four[3]);
        }
    }

    /** A job of one segment without cards. */
    static int submit(DrumLayers x, int claims, int... program) {
        feed(x, program);
        return x.submit(program.length, 0, 1, 5000, claims);
    }

    static void line(DrumLayers x, String text) {
        for (int i = 0; i < text.length(); i++) {
            x.type(text.charAt(i));
        }
        x.type(10);
    }

    /** Ticks one by one, all devices being done at once whenever they work. */
    static void go(DrumLayers x, int ticks) {
        for (int i = 0; i < ticks; i++) {
            x.tick(1);
            x.done(0);
            x.done(1);
            x.done(2);
        }
    }

    /** Submits a job of one segment, admits it and lets it go on with all devices quick. */
    static DrumLayers ran(int claims, int... program) {
        DrumLayers x = new DrumLayers(4, 6, 1);
        submit(x, claims, program);
        line(x, "A0");
        go(x, 200);
        return x;
    }

    static String said(DrumLayers x) {
        StringBuilder text = new StringBuilder();
        for (int i = 0; x.octet(i) != DrumLayers.NONE; i++) {
            text.append((char) x.octet(i));
        }
        return text.toString();
    }

    static void dueSaid(String what, DrumLayers x, String want) {
        if (!said(x).equals(want)) {
            wrong++;
            System.out.println(what + ": said <" + said(x) + ">, due is <" + want + ">");
        }
    }
}
