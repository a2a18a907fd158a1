/** PART 1: the edges of the ready row, of the quantum, and of the counted signals. */
public final class Part1ProcessesTest {
    public static void main(String[] args) {
        emptyRow();
        whoWaitsLeaves();
        whoIsGoneLeaves();
        quantumSteps();
        aloneItStaysTheFirst();
        countsAnewWhenItWaited();
        wokenComesToTheEnd();
        wokenInAStepStandsBeforeTheOneThatStepped();
        atFirstNoCounts();
        countRises();
        countOfPrints();
        countOfWanted();
        aStepIsOfTheFirstAlone();
        Bench.finish();
    }

    /** "its number rises by 1; the first of the row, if there is one" */
    private static void emptyRow() {
        DrumLayers x = new DrumLayers(4, 1, 1);
        for (int i = 1; i <= 5; i++) {
            Bench.due("a tick without a process", x.tick(1), i);
        }
        for (int k = 0; k < 10; k++) {
            Bench.due("nobody came to the row: " + k, x.process(k, 0), -1);
        }
    }

    /** "If it waits then .. it leaves the row", whatever the quantum is. */
    private static void whoWaitsLeaves() {
        for (int quantum = 1; quantum <= 9; quantum += 4) {
            DrumLayers x = new DrumLayers(4, 1, quantum);
            x.type(10);
            Bench.due("the console is the first", x.process(9, 0), 0);
            x.tick(1);
            Bench.due("it left, quantum " + quantum, x.process(9, 0), -1);
        }
    }

    /** "or is gone, it leaves the row" */
    private static void whoIsGoneLeaves() {
        for (int quantum = 1; quantum <= 9; quantum += 4) {
            DrumLayers x = Bench.begun(quantum, 0, Bench.END);
            x.tick(1);
            Bench.due("ENDING, it stays", x.process(0, 0), 0);
            x.tick(1);
            Bench.due("gone, quantum " + quantum, x.process(0, 0), -1);
            Bench.due("nobody has a step", Bench.order(x, 2), "--");
        }
    }

    /** "if it has done QUANTUM steps one behind the other, it comes to the end of the row" */
    private static void quantumSteps() {
        for (int quantum = 1; quantum <= 9; quantum++) {
            DrumLayers x = loopers(quantum);
            StringBuilder want = new StringBuilder();
            for (int turn = 0; turn < 4; turn++) {
                for (int i = 0; i < quantum; i++) {
                    want.append(turn % 2 == 0 ? '0' : '1');
                }
            }
            Bench.due("turns of " + quantum, Bench.order(x, 4 * quantum), want.toString());
        }
    }

    /** Two jobs that go round and round, and 0 is at the beginning of its turn. */
    private static DrumLayers loopers(int quantum) {
        DrumLayers x = new DrumLayers(4, 1, quantum);
        Bench.submit(x, 0, Bench.JUMP);
        Bench.submit(x, 0, Bench.JUMP);
        Bench.line(x, "A0");
        Bench.line(x, "A1");
        Bench.go(x, 60);
        for (int i = 0; i < 20 && x.process(1, 0) != 0; i++) {
            x.tick(1);
        }
        for (int i = 0; i < 20 && x.process(0, 0) != 0; i++) {
            x.tick(1);
        }
        Bench.due("0 is the first", x.process(0, 0), 0);
        Bench.due("1 is behind it", x.process(1, 0), 1);
        return x;
    }

    private static void aloneItStaysTheFirst() {
        for (int quantum = 1; quantum <= 9; quantum += 4) {
            DrumLayers x = Bench.begun(quantum, 0, Bench.JUMP);
            Bench.due("alone, quantum " + quantum, Bench.order(x, 20), "00000000000000000000");
            Bench.due("a step in each tick", x.job(0, 2), 20);
        }
    }

    /** "(and begins to count anew, as one does that waited)" */
    private static void countsAnewWhenItWaited() {
        DrumLayers x = new DrumLayers(6, 1, 3);
        Bench.submit(x, 0, Bench.ASK, Bench.TAKEX, Bench.ASK, Bench.JUMP + 3);
        Bench.submit(x, 0, Bench.JUMP);
        Bench.submit(x, 0, Bench.JUMP);
        Bench.line(x, "A0");
        Bench.line(x, "A1");
        Bench.line(x, "A2");
        Bench.go(x, 60);
        Bench.due("0 waits for a reply", x.process(0, 1), 5);
        Bench.line(x, "R0 1");
        toTheTurnOf0(x);
        String turns = Bench.order(x, 14);
        boolean goodTurns = turns.equals("00111222111222") || turns.equals("00222111222111");
        Bench.due("turns behind one that waited: " + turns, goodTurns, true);
        Bench.line(x, "R0 1");
        toTheTurnOf0(x);
        Bench.due("it has its three steps again", Bench.order(x, 4).substring(0, 3), "000");
    }

    private static void toTheTurnOf0(DrumLayers x) {
        for (int i = 0; i < 40 && x.process(0, 0) != 0; i++) {
            x.tick(1);
        }
        Bench.due("0 is the first", x.process(0, 0), 0);
    }

    /** "WOKEN: a process comes to the end of the row." */
    private static void wokenComesToTheEnd() {
        DrumLayers x = loopers(9);
        x.type(10);
        Bench.due("behind 0 and 1", x.process(9, 0), 2);
        x.tick(9);
        Bench.due("0 comes behind it", x.process(0, 0), 2);
        Bench.due("the console", x.process(9, 0), 1);
    }

    /** Woken in the last step of a turn, a process stands before the one whose turn ended. */
    private static void wokenInAStepStandsBeforeTheOneThatStepped() {
        DrumLayers x = Bench.begun(1, 6, Bench.GET + 1, Bench.GET + 2, Bench.PRINT, Bench.JUMP + 3);
        x.tick(3);
        Bench.due("PRINTING is the first", x.process(8, 0), 0);
        Bench.due("the job is behind it", x.process(0, 0), 1);
        x = Bench.begun(9, 6, Bench.GET + 1, Bench.GET + 2, Bench.PRINT, Bench.JUMP + 3);
        x.tick(3);
        Bench.due("within its turn the job stays the first", x.process(0, 0), 0);
        Bench.due("PRINTING is behind it", x.process(8, 0), 1);
    }

    /** "At first each waits for its work (WANTED, CARDS, PRINTS, LINES; no counts)." */
    private static void atFirstNoCounts() {
        DrumLayers x = new DrumLayers(4, 6, 1);
        for (int k = 6; k <= 9; k++) {
            Bench.due("its work: " + k, x.process(k, 1), 7);
        }
        Bench.feed(x, Bench.GET, Bench.GET + 1, Bench.GET + 2, Bench.READ, Bench.PRINT,
                Bench.JUMP + 5, 77, 0);
        x.submit(6, 1, 1, 5000, 7);
        Bench.line(x, "A0");
        x.tick(1);
        Bench.due("one line, one step, no count", x.process(9, 1), 7);
        x.tick(2);
        x.done(0);
        x.tick(1);
        Bench.due("one segment, no count", x.process(6, 1), 7);
        x.tick(5);
        x.done(1);
        x.tick(1);
        Bench.due("one card, no count", x.process(7, 1), 7);
        x.tick(6);
        x.done(2);
        x.tick(2);
        Bench.due("one line on paper", x.job(0, 10), 1);
        Bench.due("no count of PRINTS", x.process(8, 1), 7);
    }

    /** "V: if the process waits for that signal it is woken, else the count rises by 1." */
    private static void countRises() {
        DrumLayers x = new DrumLayers(4, 1, 1);
        for (int lines = 1; lines <= 8; lines++) {
            for (int i = 0; i < lines; i++) {
                x.type(10);
            }
            for (int i = 1; i < lines; i++) {
                x.tick(1);
                Bench.due(lines + " lines, step " + i + " goes on", x.process(9, 1), 0);
            }
            x.tick(1);
            Bench.due(lines + " lines: then it waits", x.process(9, 1), 7);
            Bench.due(lines + " lines: none is left", x.about(10), 0);
        }
    }

    /** PRINTS rises while PRINTING waits for the printer, not for PRINTS. */
    private static void countOfPrints() {
        DrumLayers x = Bench.begun(9, 6, Bench.GET + 1, Bench.GET + 2, Bench.PRINT, Bench.PRINT,
                Bench.PRINT, Bench.ASK);
        x.tick(10);
        Bench.due("PRINTING waits for the printer", x.process(8, 1), 8);
        Bench.due("three lines", x.job(0, 11), 3);
        for (int line = 1; line <= 3; line++) {
            Bench.due("the printer works at line " + line, x.done(2), true);
            x.tick(1);
            Bench.due("on paper", x.job(0, 10), line);
            Bench.due("PRINTING goes on or waits", x.process(8, 1), line < 3 ? 0 : 7);
            x.tick(1);
        }
        Bench.due("nothing more is printed", x.done(2), false);
    }

    /** Three jobs want a segment before SEGMENTS has its first step. */
    private static void countOfWanted() {
        DrumLayers x = new DrumLayers(6, 1, 9);
        for (int k = 0; k < 3; k++) {
            Bench.submit(x, 0, Bench.ASK);
            Bench.line(x, "A" + k);
        }
        x.tick(6);
        for (int k = 0; k < 3; k++) {
            Bench.due(k + " waits for its segment", x.process(k, 1), 1);
        }
        for (int k = 0; k < 3; k++) {
            Bench.due("SEGMENTS is the first", x.process(6, 0), 0);
            x.tick(1);
            Bench.due("the drum reads for " + k, x.done(0), true);
            // The one that came before asks first.
            x.tick(k == 0 ? 1 : 2);
            Bench.due("in the order of their asking", x.frame(k, 0), k);
            Bench.due("SEGMENTS goes on or waits", x.process(6, 1), k < 2 ? 0 : 7);
        }
        x.tick(3);
        Bench.dueSaid("each was woken in its order", x, "0?\n1?\n2?\n");
    }

    /** "the first of the row, if there is one, does one STEP": no other process does one with it. */
    private static void aStepIsOfTheFirstAlone() {
        DrumLayers x = new DrumLayers(4, 1, 9);
        Bench.deck(x, new int[] {Bench.GET, Bench.READ, Bench.JUMP + 2}, new int[] {5, 6}, 1, 50, 1);
        Bench.begin(x, 0);
        x.tick(3);
        Bench.due("the reader works", x.about(2), 1);
        Bench.submit(x, 0, Bench.ASK);
        Bench.line(x, "A1");
        x.tick(2);
        Bench.due("SEGMENTS is the first", x.process(6, 0), 0);
        x.tick(1);
        Bench.due("its step is none of READING", x.job(0, 9), 0);
        x.done(0);
        x.tick(2);
        Bench.due("nor is the next one", x.job(0, 9), 0);
        Bench.due("READING waits for the reader", x.process(7, 1), 8);
        x = Bench.begun(9, 6, Bench.GET + 1, Bench.GET + 2, Bench.PRINT, Bench.ASK);
        x.tick(4);
        Bench.due("PRINTING is the first", x.process(8, 0), 0);
        x.type(10);
        x.tick(1);
        Bench.due("its step is none of the console", x.about(10), 1);
        Bench.due("the console is the first then", x.process(9, 0), 0);
        x.tick(1);
        Bench.due("and has its own", x.about(10), 0);
    }
}
