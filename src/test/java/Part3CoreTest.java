/** PART 3: which frame is chosen at the edges, what is PINNED, USED and CHANGED, and the drum. */
public final class Part3CoreTest {
    private static final int[] NO_CARDS = {};

    public static void main(String[] args) {
        theLowestFreeOne();
        freeBeforeOld();
        noneFreeTheLeastLately();
        alikeTheLowest();
        pinnedIsPassedOver();
        allPinnedButOne();
        pinnedUntilDone();
        pinnedWhileEnding();
        changedIsWritten();
        unchangedIsNotWritten();
        changedSinceItCame();
        usedOfAStepThatWaits();
        usedOfAStepWithoutAnInstruction();
        usedOfAPlaceThatTraps();
        usedWhenOthersDoTheInstruction();
        wordsMoveWhenTheDrumIsDone();
        overWhileTheDrumWrites();
        newJobGoesOnWhileTheDrumWrites();
        notOverItIsWritten();
        wantedWhileItIsWritten();
        broughtBackAsWritten();
        theFirstWordIsWritten();
        theWordsBesideStay();
        Bench.finish();
    }

    private static void due(String what, DrumLayers x, int f, int... want) {
        for (int i = 0; i < want.length; i++) {
            Bench.due(what + ": frame(" + f + ", " + i + ")", x.frame(f, i), want[i]);
        }
    }

    /** A job that loads a word of each of the segments told, and asks then. */
    private static int[] visitor(int segments, int... visits) {
        int[] program = new int[16 * segments];
        for (int i = 0; i < visits.length; i++) {
            program[i] = Bench.LOAD + 16 * visits[i];
        }
        program[visits.length] = Bench.ASK;
        return program;
    }

    private static void admit(DrumLayers x, int ticks, int segments, int[] program) {
        int k = Bench.deck(x, program, NO_CARDS, segments, 5000, 0);
        Bench.line(x, "A" + k);
        Bench.go(x, ticks);
    }

    /** Ticks, with a quick drum, until it does what is told; it is not done with that then. */
    private static void untilTheDrum(DrumLayers x, int doing) {
        for (int i = 0; i < 100 && x.about(1) != doing; i++) {
            x.tick(1);
            if (x.about(1) != doing) {
                x.done(0);
            }
        }
        Bench.due("the drum does", x.about(1), doing);
    }

    /** "the lowest FREE one" */
    private static void theLowestFreeOne() {
        DrumLayers x = new DrumLayers(6, 1, 9);
        admit(x, 10, 1, new int[] {Bench.ASK});
        admit(x, 10, 1, new int[] {Bench.ASK});
        due("job 0", x, 0, 0);
        due("job 1", x, 1, 1);
        Bench.line(x, "C0");
        Bench.go(x, 5);
        due("FREE again", x, 0, -1);
        admit(x, 20, 2, visitor(2, 1));
        due("the lowest first", x, 0, 0, 0);
        due("job 1 stays", x, 1, 1, 0);
        due("then the next", x, 2, 0, 1);
        due("FREE", x, 3, -1);
    }

    /** A FREE frame is chosen though others were USED long ago; with the last one none is FREE. */
    private static void freeBeforeOld() {
        for (int frames = 4; frames <= 12; frames++) {
            DrumLayers x = new DrumLayers(frames, 1, 9);
            admit(x, 60, 8, visitor(8, 1, 2, 3, 4, 5, 6, 7));
            for (int f = 0; f < Math.min(frames, 4); f++) {
                boolean filled = x.frame(f, 0) == 0;
                Bench.due(frames + " frames, frame " + f, filled, true);
            }
            Bench.due(frames + " frames: the last one", x.frame(frames - 1, 0), frames <= 8 ? 0 : -1);
            Bench.due(frames + " frames: brought", x.about(9), 8);
            for (int f = 0; f < 8 && frames >= 8; f++) {
                Bench.due("none had to go, frame " + f, x.frame(f, 1), f);
            }
            Bench.due("no frame " + frames, x.frame(frames, 0), -1);
        }
    }

    /** "else of those not BUSY and not PINNED that USED least lately" */
    private static void noneFreeTheLeastLately() {
        DrumLayers x = new DrumLayers(4, 1, 9);
        admit(x, 60, 5, visitor(5, 1, 2, 3, 1, 2, 4));
        int[] segments = {0, 1, 2, 4};
        for (int f = 0; f < 4; f++) {
            Bench.due("3 was used least lately, frame " + f, x.frame(f, 1), segments[f]);
        }
        x = new DrumLayers(4, 1, 9);
        admit(x, 60, 5, visitor(5, 1, 2, 3, 2, 3, 4));
        Bench.due("1 was used least lately", x.frame(1, 1), 4);
        x = new DrumLayers(4, 1, 9);
        admit(x, 60, 5, visitor(5, 1, 2, 3, 3, 1, 4));
        Bench.due("2 was used least lately", x.frame(2, 1), 4);
    }

    /** "(of alike ones the lowest)": own word and operand of one step were used in one tick. */
    private static void alikeTheLowest() {
        DrumLayers x = new DrumLayers(4, 1, 9);
        admit(x, 60, 6, Bench.words(96, 0, Bench.JUMP + 15, 15, Bench.LOAD + 32, 16, Bench.LOAD + 48,
                17, Bench.LOAD + 64, 18, Bench.ASK));
        int[] ownIsLower = {4, 2, 1, 3};
        for (int f = 0; f < 4; f++) {
            Bench.due("0 and 1 are alike and the oldest, frame " + f, x.frame(f, 1), ownIsLower[f]);
        }
        x = new DrumLayers(4, 1, 9);
        admit(x, 60, 5, Bench.words(80, 0, Bench.LOAD + 64, 1, Bench.JUMP + 31, 31, Bench.LOAD + 64,
                32, Bench.JUMP + 2, 2, Bench.TAKEX, 3, Bench.LOAD + 48, 4, Bench.ASK));
        int[] operandIsLower = {0, 3, 1, 2};
        for (int f = 0; f < 4; f++) {
            Bench.due("1 and 2 are alike and the oldest, frame " + f, x.frame(f, 1), operandIsLower[f]);
        }
    }

    /** Job 0 asks: its PINNED frame is the oldest, and stays; FREE ones are used up by job 1. */
    private static void pinnedIsPassedOver() {
        DrumLayers x = new DrumLayers(4, 1, 9);
        admit(x, 10, 1, new int[] {Bench.ASK});
        due("PINNED", x, 0, 0, 0, 0, 1);
        int used = x.frame(0, 4);
        admit(x, 60, 8, visitor(8, 1, 2, 3, 4, 5, 6, 7));
        due("PINNED, still, and as it was", x, 0, 0, 0, 0, 1, used);
        Bench.due("brought", x.about(9) >= 9, true);
        for (int f = 1; f < 4; f++) {
            Bench.due("the others are job 1's", x.frame(f, 0), 1);
        }
        Bench.due("it came to its end", x.process(1, 1), 5);
    }

    /**
     * Job 0 is ENDING with two PINNED frames while its line is printed; job 1 has one PINNED frame
     * and wants another segment: one frame is left.
     */
    private static void allPinnedButOne() {
        DrumLayers x = new DrumLayers(4, 1, 9);
        int[] program = Bench.words(48, 0, Bench.GET + 1, 1, Bench.GET + 2, 2, Bench.PRINT,
                3, Bench.JUMP + 16, 16, Bench.DIV + 32);
        Bench.deck(x, program, NO_CARDS, 3, 100, 6);
        Bench.line(x, "A0");
        for (int i = 0; i < 40; i++) {
            x.tick(1);
            x.done(0);
        }
        Bench.due("job 0 is ENDING", x.process(0, 1), 4);
        due("its first segment", x, 0, 0, 0, 0, 0);
        due("PINNED", x, 1, 0, 1, 0, 1);
        due("PINNED", x, 2, 0, 2, 0, 1);
        Bench.deck(x, visitor(4, 1, 2, 3), NO_CARDS, 4, 100, 0);
        Bench.line(x, "A1");
        for (int i = 0; i < 6; i++) {
            x.tick(1);
            x.done(0);
        }
        due("job 1 took the FREE one", x, 3, 1, 0);
        for (int i = 0; i < 60; i++) {
            x.tick(1);
            x.done(0);
        }
        Bench.due("job 1 came to its end", x.process(1, 1), 5);
        due("PINNED, still", x, 1, 0, 1, 0, 1);
        due("PINNED, still", x, 2, 0, 2, 0, 1);
        Bench.due("frames of job 1", (x.frame(0, 0) == 1 ? 1 : 0) + (x.frame(3, 0) == 1 ? 1 : 0), 2);
        Bench.go(x, 5);
        due("FREE when it is over", x, 1, -1);
        due("FREE when it is over", x, 2, -1);
        Bench.due("it trapped", x.job(0, 1), 4);
    }

    /** "Done, .. of the job's frames none is PINNED any more": all of them, and only the job's. */
    private static void pinnedUntilDone() {
        DrumLayers x = new DrumLayers(6, 1, 9);
        admit(x, 10, 1, new int[] {Bench.ASK});
        Bench.deck(x, Bench.words(32, 0, Bench.LOAD + 16, 1, Bench.JUMP + 1), NO_CARDS, 2, 100, 0);
        Bench.line(x, "A1");
        for (int i = 0; i < 20 && x.frame(2, 0) != 1; i++) {
            x.tick(1);
            x.done(0);
        }
        due("own segment", x, 1, 1, 0, 0, 1);
        due("operand's", x, 2, 1, 1, 0, 1);
        x.tick(1);
        Bench.due("a step", x.job(1, 2), 1);
        due("own segment", x, 1, 1, 0, 0, 0);
        due("operand's", x, 2, 1, 1, 0, 0);
        due("the other job's", x, 0, 0, 0, 0, 1);
    }

    /** A TRAP and a claim that is passed are not done: PINNED stays until the job is over. */
    private static void pinnedWhileEnding() {
        int[] words = {-1, Bench.GET, Bench.READ, Bench.DIV + 9};
        for (int word : words) {
            DrumLayers x = Bench.begun(9, 0, word);
            x.tick(1);
            due("PINNED behind " + word, x, 0, 0, 0, 0, 1);
            x.tick(1);
            due("FREE behind " + word, x, 0, -1, -1, -1, -1);
        }
    }

    /** Changes segment 1, and visits others then until frame 1 is chosen. */
    private static int[] changer(int instruction) {
        return Bench.words(80, 0, Bench.SET + 5, 1, instruction, 2, Bench.LOAD + 32, 3, Bench.LOAD + 48,
                4, Bench.LOAD + 64, 5, Bench.LOAD + 16, 6, Bench.ASK, 16, 3);
    }

    /** "If that was CHANGED the drum begins to write it, .. Behind a writing: .. to read" */
    private static void changedIsWritten() {
        DrumLayers x = new DrumLayers(4, 1, 9);
        Bench.deck(x, changer(Bench.STORE + 16), NO_CARDS, 5, 100, 0);
        Bench.line(x, "A0");
        untilTheDrum(x, 1);
        due("BUSY", x, 1, -2, -1, -1, -1, -1);
        Bench.due("three and the first", x.about(9), 4);
        Bench.due("done", x.done(0), true);
        Bench.due("the drum does nothing", x.about(1), 0);
        due("BUSY", x, 1, -2);
        x.tick(1);
        Bench.due("the drum reads", x.about(1), 2);
        Bench.due("none was brought by the writing", x.about(9), 4);
        due("BUSY", x, 1, -2);
        x.done(0);
        x.tick(1);
        due("it came", x, 1, 0, 4, 0, 1);
        Bench.due("brought", x.about(9), 5);
    }

    /** "else it begins to read the one wanted" */
    private static void unchangedIsNotWritten() {
        DrumLayers x = new DrumLayers(4, 1, 9);
        Bench.deck(x, changer(Bench.LOAD + 16), NO_CARDS, 5, 100, 0);
        Bench.line(x, "A0");
        for (int i = 0; i < 60; i++) {
            x.tick(1);
            Bench.due("the drum never writes", x.about(1) == 1, false);
            x.done(0);
        }
        Bench.due("it came to its end", x.process(0, 1), 5);
        Bench.due("brought", x.about(9), 6);
        Bench.due("A", x.job(0, 4), 3);
    }

    /** "CHANGED since it came": by 2 and by 12, not by what only reads; not when it comes again. */
    private static void changedSinceItCame() {
        int[][] rows = {{Bench.LOAD, 0}, {Bench.STORE, 1}, {Bench.ADD, 0}, {Bench.SUB, 0}, {Bench.MUL, 0},
            {Bench.DIV, 0}, {Bench.SETX, 0}, {Bench.LOADX, 0}, {Bench.STOREX, 1}};
        for (int[] row : rows) {
            DrumLayers x = new DrumLayers(4, 1, 9);
            admit(x, 20, 2, Bench.words(32, 0, row[0] + 16, 1, Bench.ASK, 16, 3));
            due("kind " + row[0] / 256, x, 1, 0, 1, row[1], 0);
            due("the own word's", x, 0, 0, 0, 0, 0);
        }
        DrumLayers x = new DrumLayers(4, 1, 9);
        admit(x, 80, 5, changer(Bench.STORE + 16));
        Bench.due("it came to its end", x.process(0, 1), 5);
        int f = 0;
        for (int i = 0; i < 4; i++) {
            f = x.frame(i, 1) == 1 ? i : f;
        }
        due("it came again, not CHANGED", x, f, 0, 1, 0, 0);
        Bench.due("as it was changed", x.job(0, 4), 5);
    }

    /** "USED: the tick of the latest step .. that found in it the instruction's own word": waiting, too. */
    private static void usedOfAStepThatWaits() {
        DrumLayers x = Bench.begun(9, 0, Bench.ASK);
        due("it came in tick 4", x, 0, 0, 0, 0, 1, 4);
        x.tick(1);
        due("it asks in tick 5", x, 0, 0, 0, 0, 1, 5);
        x.tick(5);
        due("and waits", x, 0, 0, 0, 0, 1, 5);
        x = Bench.begun(9, 6, Bench.GET + 1, Bench.GET + 2, Bench.PRINT, Bench.GIVE + 1, Bench.ASK);
        x.tick(4);
        Bench.due("it waits for empty lines", x.process(0, 1), 4);
        Bench.due("in tick 8", x.frame(0, 4), 8);
    }

    /** A step that only begins to end, or ends, finds no word. */
    private static void usedOfAStepWithoutAnInstruction() {
        DrumLayers x = Bench.begun(9, 0, Bench.JUMP);
        x.tick(3);
        Bench.due("USED in tick 7", x.frame(0, 4), 7);
        Bench.line(x, "C0");
        x.tick(6);
        Bench.due("in its turn until tick 13", x.frame(0, 4), 13);
        Bench.due("the console's turn is next", x.process(9, 0), 0);
        x.tick(2);
        Bench.due("the step that begins to cancel is none", x.frame(0, 4), 13);
        Bench.due("not yet over", x.job(0, 0), 2);
        x = new DrumLayers(4, 1, 9);
        Bench.deck(x, new int[] {Bench.JUMP}, NO_CARDS, 1, 2, 0);
        Bench.begin(x, 0);
        x.tick(3);
        Bench.due("the step that begins to end with LIMIT is none", x.frame(0, 4), 6);
    }

    /** A PLACE behind the segments finds no word in any frame. */
    private static void usedOfAPlaceThatTraps() {
        DrumLayers x = Bench.begun(9, 0, Bench.JUMP + 16);
        x.tick(2);
        due("only the jump used it", x, 0, 0, 0, 0, 0, 5);
    }

    /** What READING or CONSOLE does for the job is no step of the job. */
    private static void usedWhenOthersDoTheInstruction() {
        DrumLayers x = Bench.begun(9, 0, Bench.ASK, Bench.JUMP + 1);
        x.tick(1);
        Bench.line(x, "R0 1");
        x.tick(1);
        Bench.due("done", x.job(0, 2), 1);
        due("USED when it asked, PINNED no more", x, 0, 0, 0, 0, 0, 5);
    }

    /** "The words move when the drum is done (a call says when)" */
    private static void wordsMoveWhenTheDrumIsDone() {
        DrumLayers x = new DrumLayers(4, 1, 9);
        Bench.deck(x, changer(Bench.STORE + 16), NO_CARDS, 5, 100, 0);
        Bench.line(x, "A0");
        untilTheDrum(x, 1);
        x.tick(50);
        Bench.due("it takes its time", x.about(1), 1);
        due("BUSY all the time", x, 1, -2);
        Bench.due("as it is written", x.word(0, 16), 5);
        x.done(0);
        Bench.due("written", x.word(0, 16), 5);
        x.tick(50);
        Bench.due("the drum reads, and takes its time", x.about(1), 2);
        due("BUSY all the time", x, 1, -2);
        Bench.due("nothing was brought", x.about(9), 4);
    }

    /** Job 0 changes word 20 and goes round; job 1 fills the frames until that one is written. */
    private static DrumLayers written() {
        DrumLayers x = new DrumLayers(4, 1, 1);
        Bench.deck(x, Bench.words(32, 0, Bench.SET + 9, 1, Bench.STORE + 20, 2, Bench.JUMP + 2, 20, 4),
                NO_CARDS, 2, 5000, 0);
        Bench.line(x, "A0");
        Bench.go(x, 12);
        Bench.due("changed in core", x.word(0, 20), 9);
        Bench.deck(x, Bench.words(48, 0, Bench.LOAD + 16, 1, Bench.LOAD + 32, 2, Bench.JUMP), NO_CARDS, 3,
                5000, 0);
        Bench.line(x, "A1");
        untilTheDrum(x, 1);
        due("BUSY", x, 1, -2);
        return x;
    }

    /** "of a job that is over by then none are written, also if its number has a new job by then" */
    private static void overWhileTheDrumWrites() {
        DrumLayers x = written();
        Bench.line(x, "C0");
        x.tick(6);
        Bench.due("over", x.job(0, 0), 3);
        due("its other frame is FREE", x, 0, -1);
        due("this one is BUSY, still", x, 1, -2);
        Bench.due("the drum writes, still", x.about(1), 1);
        Bench.due("a new job", Bench.deck(x, Bench.words(32, 0, Bench.LOAD + 20, 1, Bench.ASK, 20, 77),
                NO_CARDS, 2, 100, 0), 0);
        Bench.due("its word", x.word(0, 20), 77);
        Bench.due("done", x.done(0), true);
        Bench.due("its word, not written over", x.word(0, 20), 77);
        Bench.line(x, "A0");
        Bench.go(x, 60);
        Bench.due("and when it came", x.job(0, 4), 77);
        Bench.due("job 1 went on", x.job(1, 2) > 0, true);
    }

    /** It is over and has a new job before, and the drum is done only when that one is admitted. */
    private static void newJobGoesOnWhileTheDrumWrites() {
        DrumLayers x = written();
        Bench.line(x, "C0");
        x.tick(6);
        Bench.deck(x, Bench.words(32, 20, 77), NO_CARDS, 2, 100, 0);
        Bench.line(x, "A0");
        x.tick(6);
        Bench.due("the new one is admitted", x.job(0, 0), 2);
        Bench.due("the drum writes, still", x.about(1), 1);
        Bench.due("the new one's word", x.word(0, 20), 77);
        x.done(0);
        Bench.due("not written over", x.word(0, 20), 77);
    }

    /** Told to cancel, even ENDING, a job is not over yet: its words are written. */
    private static void notOverItIsWritten() {
        DrumLayers x = written();
        Bench.line(x, "C0");
        x.tick(3);
        Bench.due("told, but not over", x.job(0, 0), 2);
        x.done(0);
        Bench.due("so it is written", x.word(0, 20), 9);
    }

    /** A job wants what is just being written: it waits in the row, and has it as written. */
    private static void wantedWhileItIsWritten() {
        DrumLayers x = new DrumLayers(4, 1, 1);
        Bench.deck(x, Bench.words(32, 0, Bench.SET + 9, 1, Bench.STORE + 20, 2, Bench.ASK, 3, Bench.SET,
                4, Bench.LOAD + 20, 5, Bench.ASK), NO_CARDS, 2, 5000, 0);
        Bench.line(x, "A0");
        Bench.go(x, 12);
        Bench.deck(x, Bench.words(64, 0, Bench.LOAD + 16, 1, Bench.LOAD + 32, 2, Bench.LOAD + 48,
                3, Bench.JUMP), NO_CARDS, 4, 5000, 0);
        Bench.line(x, "A1");
        untilTheDrum(x, 1);
        Bench.line(x, "R0 1");
        x.tick(10);
        Bench.due("it waits for the segment", x.process(0, 1), 1);
        Bench.due("as it is written", x.word(0, 20), 9);
        Bench.go(x, 40);
        Bench.due("as it was written", x.job(0, 4), 9);
    }

    /** All 16 words of a segment are written, and come again. */
    private static void broughtBackAsWritten() {
        DrumLayers x = new DrumLayers(4, 1, 9);
        int[] program = Bench.words(96, 0, Bench.SET + 5, 1, Bench.STORE + 80, 2, Bench.STORE + 95,
                3, Bench.LOAD + 16, 4, Bench.LOAD + 32, 5, Bench.LOAD + 48, 6, Bench.LOAD + 64,
                7, Bench.LOAD + 16, 8, Bench.LOAD + 95, 9, Bench.ASK);
        for (int i = 81; i < 95; i++) {
            program[i] = i;
        }
        Bench.deck(x, program, NO_CARDS, 6, 100, 0);
        Bench.line(x, "A0");
        untilTheDrum(x, 1);
        x.done(0);
        for (int i = 80; i < 96; i++) {
            Bench.due("word " + i + " on the drum", x.word(0, i), i == 80 || i == 95 ? 5 : i);
        }
        Bench.due("the word before it", x.word(0, 79), 0);
        Bench.go(x, 60);
        Bench.due("it came again", x.job(0, 4), 5);
        for (int i = 80; i < 96; i++) {
            Bench.due("word " + i + " in core", x.word(0, i), i == 80 || i == 95 ? 5 : i);
        }
    }

    /** Word 0 of a job, and its last word of eight segments, are written and come again like others. */
    private static void theFirstWordIsWritten() {
        DrumLayers x = new DrumLayers(4, 1, 9);
        int[] program = Bench.words(128, 0, Bench.SET + 5, 1, Bench.STORE, 2, Bench.STORE + 127,
                3, Bench.JUMP + 16, 16, Bench.LOAD + 32, 17, Bench.LOAD + 48, 18, Bench.LOAD + 64,
                19, Bench.LOAD + 80, 20, Bench.ADD, 21, Bench.ADD + 127, 22, Bench.ASK);
        Bench.deck(x, program, NO_CARDS, 8, 100, 0);
        Bench.line(x, "A0");
        untilTheDrum(x, 1);
        Bench.due("word 0, as it is written", x.word(0, 0), 5);
        x.done(0);
        Bench.due("word 0, written", x.word(0, 0), 5);
        untilTheDrum(x, 2);
        x.done(0);
        untilTheDrum(x, 1);
        Bench.due("word 127, as it is written", x.word(0, 127), 5);
        x.done(0);
        Bench.due("word 127, written", x.word(0, 127), 5);
        Bench.go(x, 60);
        Bench.due("it came to its end", x.process(0, 1), 5);
        Bench.due("both came again", x.job(0, 4), 10);
    }

    /** What is written is one segment: the word before it, and the one behind it, stay on the drum. */
    private static void theWordsBesideStay() {
        DrumLayers x = new DrumLayers(4, 1, 9);
        int[] program = Bench.words(128, 0, Bench.SET + 5, 1, Bench.STORE + 48, 2, Bench.STORE + 63,
                3, Bench.LOAD + 80, 4, Bench.LOAD + 96, 5, Bench.LOAD + 112, 6, Bench.LOAD + 47,
                7, Bench.ADD + 64, 8, Bench.ASK, 47, 700, 64, 70);
        Bench.deck(x, program, NO_CARDS, 8, 100, 0);
        Bench.line(x, "A0");
        untilTheDrum(x, 1);
        Bench.due("segment 3 is written", x.word(0, 48), 5);
        x.done(0);
        Bench.due("the word before it", x.word(0, 47), 700);
        Bench.due("its first word", x.word(0, 48), 5);
        Bench.due("its second word", x.word(0, 49), 0);
        Bench.due("its last word", x.word(0, 63), 5);
        Bench.due("the word behind it", x.word(0, 64), 70);
        Bench.go(x, 60);
        Bench.due("it came to its end", x.process(0, 1), 5);
        Bench.due("both came as they were", x.job(0, 4), 770);
    }
}
