/**
 * What the tests of the promises share: a count of wrong answers, decks and typed lines. Each object
 * is used for at most 512 calls, since the document promises nothing beyond them.
 */
final class Bench {
    static final int END = 0;
    static final int LOAD = 1 * 256;
    static final int STORE = 2 * 256;
    static final int ADD = 3 * 256;
    static final int SUB = 4 * 256;
    static final int MUL = 5 * 256;
    static final int DIV = 6 * 256;
    static final int JUMP = 7 * 256;
    static final int BELOW = 8 * 256;
    static final int ZERO = 9 * 256;
    static final int SETX = 10 * 256;
    static final int LOADX = 11 * 256;
    static final int STOREX = 12 * 256;
    static final int READ = 13 * 256;
    static final int PRINT = 14 * 256;
    static final int ASK = 15 * 256;
    static final int GET = 16 * 256;
    static final int GIVE = 17 * 256;
    static final int SET = 18 * 256;
    static final int TAKEX = 19 * 256;

    static final int[] EXTREMES = {Integer.MIN_VALUE, Integer.MIN_VALUE + 1, -1000, -3, -2, -1, 1000,
        Integer.MAX_VALUE - 1, Integer.MAX_VALUE};

    private static int wrong = 0;

    private Bench() {
    }

    static void due(String what, long got, long want) {
        if (got != want) {
            wrong++;
            System.out.println(what + ": answered " + got + ", due is " + want);
        }
    }

    static void due(String what, boolean got, boolean want) {
        due(what, got ? 1 : 0, want ? 1 : 0);
    }

    static void finish() {
        System.out.println(wrong == 0 ? "all answers are as due" : wrong + " answers are not as due");
        if (wrong != 0) {
            System.exit(1);
        }
    }

    /** The words, and behind them as many 0 as fill up the last four. */
    static void feed(DrumLayers x, int... words) {
        for (int i = 0; i < words.length; i += 4) {
            int[] four = new int[4];
            System.arraycopy(words, i, four, 0, Math.min(4, words.length - i));
            x.feed(four[0], four[1], four[2], four[3]);
        }
    }

    /** A job of one segment without cards. */
    static int submit(DrumLayers x, int claims, int... program) {
        feed(x, program);
        return x.submit(program.length, 0, 1, 5000, claims);
    }

    static void line(DrumLayers x, String text) {
        for (int i = 0; i < text.length(); i++) {
            x.type(text.charAt(i));
        }
        x.type(10);
    }

    /** Ticks one by one, all devices being done at once whenever they work. */
    static void go(DrumLayers x, int ticks) {
        for (int i = 0; i < ticks; i++) {
            x.tick(1);
            x.done(0);
            x.done(1);
            x.done(2);
        }
    }

    /** Submits a job of one segment, admits it and lets it go on with all devices quick. */
    static DrumLayers ran(int claims, int... program) {
        DrumLayers x = new DrumLayers(4, 6, 1);
        submit(x, claims, program);
        line(x, "A0");
        go(x, 80);
        return x;
    }

    /** So many words, all 0 but those that are told: place, word, place, word. */
    static int[] words(int length, int... placesAndWords) {
        int[] all = new int[length];
        for (int i = 0; i + 1 < placesAndWords.length; i += 2) {
            all[placesAndWords[i]] = placesAndWords[i + 1];
        }
        return all;
    }

    static int deck(DrumLayers x, int[] program, int[] cards, int segments, int limit, int claims) {
        int[] all = java.util.Arrays.copyOf(program, program.length + cards.length);
        System.arraycopy(cards, 0, all, program.length, cards.length);
        feed(x, all);
        return x.submit(program.length, cards.length, segments, limit, claims);
    }

    /** Admits the only job: its first segment is in core, and it is alone in the ready row. */
    static void begin(DrumLayers x, int k) {
        line(x, "A" + k);
        x.tick(3);
        x.done(0);
        x.tick(1);
        due("job " + k + " is the first of the row", x.process(k, 0), 0);
    }

    /** Job 0, of one segment, alone with 4 frames and 6 pages: each tick is a step of it. */
    static DrumLayers begun(int quantum, int claims, int... program) {
        DrumLayers x = new DrumLayers(4, 6, quantum);
        submit(x, claims, program);
        begin(x, 0);
        return x;
    }

    /** So many wrong lines, each of which the console, alone in the row, answers by 2 bytes. */
    static void sayWrong(DrumLayers x, int lines) {
        for (int left = lines; left > 0; left -= 8) {
            for (int i = 0; i < Math.min(left, 8); i++) {
                x.type(10);
            }
            x.tick(Math.min(left, 8));
        }
    }

    /** Whose step each of the next ticks is; '-' where the ready row is empty. */
    static String order(DrumLayers x, int ticks) {
        StringBuilder text = new StringBuilder();
        for (int i = 0; i < ticks; i++) {
            char first = '-';
            for (int k = 0; k < 10 && first == '-'; k++) {
                first = x.process(k, 0) == 0 ? (char) ('0' + k) : '-';
            }
            text.append(first);
            x.tick(1);
        }
        return text.toString();
    }

    static void due(String what, String got, String want) {
        if (!got.equals(want)) {
            wrong++;
            System.out.println(what + ": <" + got + ">, due is <" + want + ">");
        }
    }

    static String said(DrumLayers x) {
        StringBuilder text = new StringBuilder();
        for (int i = 0; x.octet(i) != DrumLayers.NONE; i++) {
            text.append((char) x.octet(i));
        }
        return text.toString();
    }

    static void dueSaid(String what, DrumLayers x, String want) {
        due(what + ", said", said(x), want);
    }
}
