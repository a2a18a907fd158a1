/** Promise 10: words in core, on the drum, and on their way there. */
public final class P10WordTest {
    public static void main(String[] args) {
        others();
        coreAndDrum();
        firstAndLast();
        atTheEndOfTheSegments();
        Bench.finish();
    }

    private static void others() {
        DrumLayers x = new DrumLayers(4, 1, 1);
        Bench.due("no job", x.word(0, 0), 0);
        Bench.feed(x, 11, 12, 13, 14);
        x.submit(4, 0, 2, 10, 0);
        Bench.due("on the drum", x.word(0, 3), 14);
        Bench.due("behind the program", x.word(0, 4), 0);
        Bench.due("the last one", x.word(0, 31), 0);
        Bench.due("behind the segments", x.word(0, 32), 0);
        Bench.due("before them", x.word(0, -1), 0);
        Bench.due("no such job", x.word(6, 0), 0);
        for (int e : Bench.EXTREMES) {
            Bench.due("word(" + e + ", 0)", x.word(e, 0), 0);
            Bench.due("word(0, " + e + ")", x.word(0, e), 0);
        }
        Bench.line(x, "A0");
        Bench.go(x, 30);
        Bench.due("over", x.job(0, 0), 3);
        Bench.due("of one that is over", x.word(0, 3), 0);
    }

    /** Word 16 is changed in core, goes to the drum, and comes back. */
    private static void coreAndDrum() {
        DrumLayers x = new DrumLayers(4, 1, 9);
        int[] program = new int[80];
        program[0] = Bench.SET + 5;
        program[1] = Bench.STORE + 16;
        program[2] = Bench.LOAD + 32;
        program[3] = Bench.LOAD + 48;
        program[4] = Bench.LOAD + 64;
        program[5] = Bench.LOAD + 16;
        program[6] = Bench.JUMP + 6;
        program[16] = 3;
        program[64] = 8;
        Bench.feed(x, program);
        x.submit(80, 0, 5, 100, 0);
        Bench.due("as fed", x.word(0, 16), 3);
        Bench.line(x, "A0");
        for (int i = 0; i < 40 && x.about(1) != 1; i++) {
            x.tick(1);
            if (x.about(1) != 1) {
                x.done(0);
            }
        }
        Bench.due("the drum writes", x.about(1), 1);
        Bench.due("it is in core no more", x.frame(1, 0), -2);
        Bench.due("as it is written", x.word(0, 16), 5);
        x.done(0);
        Bench.due("as it is on the drum", x.word(0, 16), 5);
        x.tick(1);
        Bench.due("the drum reads", x.about(1), 2);
        Bench.due("the frame is BUSY", x.frame(1, 0), -2);
        Bench.due("what is read is on the drum still", x.word(0, 64), 8);
        x.done(0);
        Bench.due("also then", x.word(0, 64), 8);
        x.tick(2);
        Bench.due("it came", x.job(0, 4), 8);
        Bench.go(x, 10);
        Bench.due("what was written came back", x.job(0, 4), 5);
        Bench.due("and is there", x.word(0, 16), 5);
        Bench.due("the other words", x.word(0, 6), Bench.JUMP + 6);
    }

    private static void firstAndLast() {
        DrumLayers x = new DrumLayers(12, 1, 1);
        for (int k = 0; k < 6; k++) {
            Bench.due("no job " + k, x.word(k, 0), 0);
            Bench.submit(x, 0, 100 + k, 200 + k);
        }
        for (int k = 0; k < 6; k++) {
            Bench.due("word 0 of " + k, x.word(k, 0), 100 + k);
            Bench.due("word 1 of " + k, x.word(k, 1), 200 + k);
        }
        Bench.due("no job 6", x.word(6, 0), 0);
        Bench.due("no job -1", x.word(-1, 0), 0);
    }

    /** "0 when there is none such": the last word of so many segments, on the drum and in core. */
    private static void atTheEndOfTheSegments() {
        for (int segments = 1; segments <= 8; segments++) {
            DrumLayers x = new DrumLayers(4, 1, 9);
            int last = 16 * segments - 1;
            int[] program = Bench.words(16 * segments, 0, Bench.SET + 9, 1, Bench.STORE + last,
                    2, Bench.ASK, last, 77);
            Bench.deck(x, program, new int[0], segments, 50, 0);
            Bench.due("on the drum, word " + last, x.word(0, last), 77);
            Bench.due("on the drum, behind it", x.word(0, last + 1), 0);
            Bench.line(x, "A0");
            Bench.go(x, 20);
            Bench.due("in core, word " + last, x.word(0, last), 9);
            Bench.due("in core, behind it", x.word(0, last + 1), 0);
            Bench.due("in core, the first", x.word(0, 0), Bench.SET + 9);
            Bench.due("in core, before it", x.word(0, -1), 0);
            Bench.due("before it by a segment", x.word(0, -16), 0);
        }
    }
}
