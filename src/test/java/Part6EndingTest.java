/** PART 6: the step that ends a job, and the 600 bytes that are kept. */
public final class Part6EndingTest {
    private static final int[] NO_CARDS = {};

    public static void main(String[] args) {
        emptyLinesEndAtOnce();
        linesAreWaitedFor();
        oneStepForAll();
        allItsFramesAreFree();
        outcomeOfEachKind();
        theNumberMayBeUsedThen();
        the600thByteOfALine();
        the600thByteOfAnAsking();
        the600thByteOfAnEnd();
        exactly600();
        Bench.finish();
    }

    private static void emptyLinesEndAtOnce() {
        DrumLayers x = Bench.begun(9, 6, Bench.GET + 1, Bench.GET + 2, Bench.END);
        x.tick(3);
        Bench.due("ENDING", x.job(0, 0), 2);
        Bench.due("what it holds is not yet free", x.about(5), 0);
        x.tick(1);
        Bench.due("over in its next step", x.job(0, 0), 3);
    }

    /** "while its lines are not empty it waits": with one line, with many. */
    private static void linesAreWaitedFor() {
        for (int lines = 1; lines <= 4; lines++) {
            int[] program = new int[lines + 3];
            java.util.Arrays.fill(program, Bench.PRINT);
            program[0] = Bench.GET + 1;
            program[1] = Bench.GET + 2;
            program[lines + 2] = Bench.END;
            DrumLayers x = Bench.begun(9, 6, program);
            x.tick(30);
            Bench.due(lines + " lines: it waits for empty lines", x.process(0, 1), 4);
            Bench.due(lines + " lines: admitted", x.job(0, 0), 2);
            for (int i = 1; i <= lines; i++) {
                Bench.due("line " + i, x.done(2), true);
                x.tick(1);
                Bench.due(i + " of " + lines, x.process(0, 1), i < lines ? 4 : 0);
                x.tick(i < lines ? 1 : 0);
            }
            Bench.due(lines + " lines: not over before its own step", x.job(0, 0), 2);
            x.tick(1);
            Bench.due(lines + " lines: over", x.job(0, 0), 3);
            Bench.due(lines + " lines: on paper", x.job(0, 10), lines);
        }
    }

    /** "Then, in one step": frames, what it holds, OVER, the saying, the ready row. */
    private static void oneStepForAll() {
        DrumLayers x = Bench.begun(9, 3 + 8, Bench.GET, Bench.GET + 1, Bench.GET + 2, Bench.GET + 2,
                Bench.END);
        x.tick(5);
        int[] before = {0, 0, 4, 0, 1, 1, 2, 0, 0, 0};
        look("before", x, before);
        x.tick(1);
        int[] after = {-1, 1, 6, 1, 1, 1, 2, 4, 1, -1};
        look("then", x, after);
        Bench.dueSaid("the saying", x, "0=1\n");
        Bench.due("none is admitted", x.about(8), 0);
    }

    private static void look(String when, DrumLayers x, int[] want) {
        int[] got = {x.frame(0, 0), x.about(4), x.about(6), x.about(5), x.job(0, 6), x.job(0, 7), x.job(0, 8),
            x.about(7), x.job(0, 1), x.process(0, 0)};
        for (int i = 0; i < got.length; i++) {
            Bench.due(when + ", row " + i, got[i], want[i]);
        }
    }

    /** "all its frames are FREE": the CHANGED and the PINNED ones; others' stay. */
    private static void allItsFramesAreFree() {
        DrumLayers x = new DrumLayers(12, 1, 9);
        Bench.submit(x, 0, Bench.ASK);
        Bench.line(x, "A0");
        Bench.go(x, 8);
        int[] program = Bench.words(128, 0, Bench.STORE + 16, 1, Bench.STORE + 32, 2, Bench.STORE + 48,
                3, Bench.LOAD + 64, 4, Bench.LOAD + 80, 5, Bench.LOAD + 96, 6, Bench.DIV + 112);
        Bench.deck(x, program, NO_CARDS, 8, 100, 0);
        Bench.line(x, "A1");
        for (int i = 0; i < 80 && x.job(1, 0) != 3; i++) {
            if (x.about(9) == 9 && x.process(1, 0) == 0 && x.job(1, 2) == 6) {
                Bench.due("eight frames of 1", x.frame(8, 0), 1);
            }
            x.tick(1);
            x.done(0);
        }
        Bench.due("it trapped", x.job(1, 1), 4);
        Bench.due("brought", x.about(9), 9);
        Bench.due("the other's frame", x.frame(0, 0), 0);
        for (int f = 1; f < 12; f++) {
            Bench.due("FREE: frame " + f, x.frame(f, 0), -1);
        }
    }

    /** "the console says "k=o", 10 (o the outcome)": 1 to 5, and jobs 0 to 5. */
    private static void outcomeOfEachKind() {
        DrumLayers x = new DrumLayers(12, 1, 9);
        Bench.deck(x, new int[] {Bench.END}, NO_CARDS, 1, 5, 0);
        Bench.deck(x, new int[] {Bench.JUMP}, NO_CARDS, 1, 5, 0);
        Bench.deck(x, new int[] {Bench.GET}, NO_CARDS, 1, 5, 0);
        Bench.deck(x, new int[] {-1}, NO_CARDS, 1, 5, 0);
        Bench.deck(x, new int[] {Bench.ASK}, NO_CARDS, 1, 5, 0);
        Bench.deck(x, new int[] {Bench.END}, NO_CARDS, 1, 5, 0);
        for (int k = 0; k < 6; k++) {
            Bench.line(x, "A" + k);
            Bench.go(x, 15);
            if (k == 4) {
                Bench.line(x, "C4");
                Bench.go(x, 5);
            }
        }
        Bench.dueSaid("all outcomes", x, "0=1\n1=2\n2=3\n3=4\n4?\n4=5\n5=1\n");
        int[] outcomes = {1, 2, 3, 4, 5, 1};
        for (int k = 0; k < 6; k++) {
            Bench.due("outcome of " + k, x.job(k, 1), outcomes[k]);
        }
    }

    /** Not while it is ENDING, but as soon as it is over. */
    private static void theNumberMayBeUsedThen() {
        DrumLayers x = Bench.begun(9, 0, Bench.END);
        for (int k = 1; k < 6; k++) {
            Bench.submit(x, 0, Bench.END);
        }
        x.tick(1);
        Bench.due("ENDING: no number is left", x.submit(0, 0, 1, 1, 0), -1);
        x.tick(1);
        Bench.due("over: its number is the lowest", x.submit(0, 0, 1, 1, 0), 0);
    }

    private static void edge(String what, DrumLayers x, int said, int byte598, int byte599) {
        Bench.due(what + ": bytes said", x.about(7), said);
        Bench.due(what + ": byte 598", x.octet(598), byte598);
        Bench.due(what + ": byte 599", x.octet(599), byte599);
        for (int i = 600; i < 608; i++) {
            Bench.due(what + ": byte " + i, x.octet(i), -1);
        }
        Bench.due(what + ": byte 0", x.octet(0) == -1, false);
    }

    private static void the600thByteOfALine() {
        DrumLayers x = Bench.begun(9, 0, Bench.ASK);
        x.tick(1);
        Bench.sayWrong(x, 298);
        edge("599", x, 599, 10, -1);
        Bench.sayWrong(x, 1);
        edge("601", x, 601, 10, '?');
        Bench.sayWrong(x, 1);
        edge("603", x, 603, 10, '?');
    }

    private static void the600thByteOfAnAsking() {
        DrumLayers x = new DrumLayers(4, 1, 9);
        Bench.submit(x, 0, Bench.ASK, Bench.ASK, Bench.ASK);
        Bench.sayWrong(x, 298);
        Bench.begin(x, 0);
        edge("596", x, 596, -1, -1);
        x.tick(1);
        edge("599", x, 599, 10, -1);
        Bench.line(x, "R0 1");
        x.tick(2);
        edge("602", x, 602, 10, '0');
        Bench.line(x, "R0 1");
        x.tick(2);
        edge("605", x, 605, 10, '0');
    }

    private static void the600thByteOfAnEnd() {
        for (int lines = 297; lines <= 299; lines++) {
            DrumLayers x = new DrumLayers(4, 1, 9);
            Bench.submit(x, 0, Bench.END);
            Bench.sayWrong(x, lines);
            Bench.begin(x, 0);
            x.tick(2);
            Bench.due("over", x.job(0, 0), 3);
            int at598 = lines == 297 ? -1 : lines == 298 ? '1' : '0';
            int at599 = lines == 297 ? -1 : lines == 298 ? 10 : '=';
            edge("an end behind " + 2 * lines, x, 2 * lines + 4, at598, at599);
        }
    }

    private static void exactly600() {
        DrumLayers x = new DrumLayers(4, 1, 1);
        Bench.sayWrong(x, 299);
        edge("598", x, 598, -1, -1);
        Bench.sayWrong(x, 1);
        edge("600", x, 600, '?', 10);
        Bench.sayWrong(x, 1);
        edge("602", x, 602, '?', 10);
        for (int i = 480; i < 600; i++) {
            Bench.due("byte " + i, x.octet(i), i % 2 == 0 ? '?' : 10);
        }
    }
}
