/** Promise 11: frames, which one is chosen, and what is told of each. */
public final class P11FrameTest {
    public static void main(String[] args) {
        others();
        firstAndLast();
        life();
        usedOfATrap();
        choice();
        wantedOperandLeavesUsed();
        ofAlikeOnesTheLowest();
        pinnedStays();
        Bench.finish();
    }

    private static void due(String what, DrumLayers x, int f, int... want) {
        for (int i = 0; i < want.length; i++) {
            Bench.due(what + ": frame(" + f + ", " + i + ")", x.frame(f, i), want[i]);
        }
    }

    private static void others() {
        DrumLayers x = new DrumLayers(5, 1, 1);
        due("free", x, 0, -1, -1, -1, -1, -1);
        Bench.due("no frame 5", x.frame(5, 0), -1);
        for (int e : Bench.EXTREMES) {
            Bench.due("frame(" + e + ", 0)", x.frame(e, 0), -1);
            Bench.due("frame(0, " + e + ")", x.frame(0, e), -1);
        }
        Bench.due("frame(0, 5)", x.frame(0, 5), -1);
    }

    /** The first and the last frame that there is, and the ones beside them. */
    private static void firstAndLast() {
        for (int frames = 4; frames <= 8; frames++) {
            DrumLayers x = new DrumLayers(frames, 1, 9);
            int[] program = new int[128];
            for (int s = 1; s < frames; s++) {
                program[s - 1] = Bench.LOAD + 16 * s;
            }
            program[frames - 1] = Bench.ASK;
            Bench.feed(x, program);
            x.submit(128, 0, 8, 100, 0);
            Bench.line(x, "A0");
            Bench.go(x, 50);
            due("the first", x, 0, 0, 0);
            due("the last of " + frames, x, frames - 1, 0, frames - 1);
            due("behind the last", x, frames, -1, -1, -1, -1, -1);
            due("before the first", x, -1, -1, -1, -1, -1, -1);
            Bench.due("of the last, what 4", x.frame(frames - 1, 4) > 0, true);
            Bench.due("of the last, what 5", x.frame(frames - 1, 5), -1);
            Bench.due("of the last, what -1", x.frame(frames - 1, -1), -1);
        }
    }

    private static void life() {
        DrumLayers x = new DrumLayers(4, 1, 9);
        int[] program = new int[32];
        program[0] = Bench.LOAD + 20;
        program[1] = Bench.STORE + 21;
        program[2] = Bench.SET + 1;
        program[3] = Bench.END;
        Bench.feed(x, program);
        x.submit(32, 0, 2, 100, 0);
        Bench.line(x, "A0");
        x.tick(3);
        due("busy", x, 0, -2, -1, -1, -1, -1);
        Bench.due("busy, what 5", x.frame(0, 5), -1);
        x.done(0);
        x.tick(1);
        due("it came in tick 4", x, 0, 0, 0, 0, 1, 4);
        Bench.due("what 5", x.frame(0, 5), -1);
        Bench.due("what -1", x.frame(0, -1), -1);
        x.tick(1);
        due("wanted another, so not used, and pinned", x, 0, 0, 0, 0, 1, 4);
        x.tick(1);
        x.done(0);
        x.tick(1);
        due("it came in tick 7", x, 1, 0, 1, 0, 1, 7);
        x.tick(1);
        due("the own word, tick 8", x, 0, 0, 0, 0, 0, 8);
        due("the operand, tick 8", x, 1, 0, 1, 0, 0, 8);
        x.tick(1);
        due("not changed", x, 0, 0, 0, 0, 0, 9);
        due("changed", x, 1, 0, 1, 1, 0, 9);
        x.tick(1);
        due("no operand", x, 1, 0, 1, 1, 0, 9);
        due("the own word, tick 10", x, 0, 0, 0, 0, 0, 10);
        x.tick(1);
        due("the end is an instruction", x, 0, 0, 0, 0, 0, 11);
        x.tick(1);
        due("free again", x, 0, -1, -1, -1, -1, -1);
        due("free again", x, 1, -1, -1, -1, -1, -1);
    }

    private static void usedOfATrap() {
        int[] traps = {-1, 20 * 256, Bench.LOAD + 16, Bench.DIV + 9, Bench.READ, Bench.GIVE,
            Bench.GET + 9, Bench.GET};
        for (int trap : traps) {
            DrumLayers x = new DrumLayers(4, 1, 1);
            Bench.submit(x, 0, trap);
            Bench.line(x, "A0");
            x.tick(3);
            x.done(0);
            x.tick(2);
            due("trap of " + trap + " in tick 5, pinned until it is over", x, 0, 0, 0, 0, 1, 5);
            x.tick(1);
            due("trap of " + trap, x, 0, -1);
        }
    }

    /** One job goes through six segments with four frames. */
    private static void choice() {
        DrumLayers x = new DrumLayers(4, 1, 9);
        int[] program = new int[96];
        program[0] = Bench.LOAD + 16;
        program[1] = Bench.LOAD + 32;
        program[2] = Bench.LOAD + 48;
        program[3] = Bench.LOAD + 16;
        program[4] = Bench.LOAD + 64;
        program[5] = Bench.LOAD + 80;
        program[6] = Bench.JUMP + 6;
        Bench.feed(x, program);
        x.submit(96, 0, 6, 100, 0);
        Bench.line(x, "A0");
        Bench.go(x, 100);
        int[] segments = {0, 1, 4, 5};
        for (int f = 0; f < 4; f++) {
            Bench.due("segment of frame " + f, x.frame(f, 1), segments[f]);
        }
        Bench.due("brought", x.about(9), 6);
    }

    /**
     * A step that wants a segment does not use the frame of its own word: here that frame is the
     * least lately used one, is taken for the operand, and the own segment has to come again.
     */
    private static void wantedOperandLeavesUsed() {
        DrumLayers x = new DrumLayers(4, 1, 1);
        int[] program = new int[80];
        program[0] = Bench.JUMP + 16;
        program[1] = Bench.LOAD + 64;
        program[2] = Bench.JUMP + 2;
        program[16] = Bench.JUMP + 32;
        program[32] = Bench.JUMP + 48;
        program[48] = Bench.JUMP + 1;
        Bench.feed(x, program);
        x.submit(80, 0, 5, 100, 0);
        Bench.line(x, "A0");
        Bench.go(x, 80);
        Bench.due("the operand's segment", x.frame(0, 1), 4);
        Bench.due("the own segment", x.frame(1, 1), 0);
        Bench.due("brought", x.about(9), 6);
    }

    /** Own word and operand were used in the same tick, the other frames later. */
    private static void ofAlikeOnesTheLowest() {
        DrumLayers x = new DrumLayers(4, 1, 1);
        int[] program = new int[96];
        program[0] = Bench.JUMP + 15;
        program[15] = Bench.LOAD + 32;
        program[16] = Bench.LOAD + 48;
        program[17] = Bench.LOAD + 64;
        program[18] = Bench.JUMP + 18;
        Bench.feed(x, program);
        x.submit(96, 0, 6, 100, 0);
        Bench.line(x, "A0");
        Bench.go(x, 80);
        Bench.due("frames 0 and 1 were used in one tick: 0 is chosen", x.frame(0, 1), 4);
        Bench.due("and 1 is left", x.frame(1, 1), 2);
    }

    /** Job 0 has a PINNED frame while it asks, and job 1 goes through many segments: it stays. */
    private static void pinnedStays() {
        DrumLayers x = new DrumLayers(4, 1, 1);
        Bench.submit(x, 0, Bench.ASK, Bench.JUMP);
        int[] program = new int[128];
        for (int i = 0; i < 7; i++) {
            program[i] = Bench.LOAD + 16 * (i + 1);
        }
        program[7] = Bench.JUMP + 7;
        Bench.feed(x, program);
        x.submit(128, 0, 8, 100, 0);
        Bench.line(x, "A0");
        Bench.go(x, 10);
        due("pinned", x, 0, 0, 0, 0, 1);
        Bench.line(x, "A1");
        Bench.go(x, 100);
        Bench.due("brought", x.about(9), 9);
        due("pinned still", x, 0, 0, 0, 0, 1);
        Bench.line(x, "R0 1");
        Bench.go(x, 3);
        Bench.due("replied", x.job(0, 2) > 0, true);
        due("pinned no more", x, 0, 0, 0, 0, 0);
    }
}
