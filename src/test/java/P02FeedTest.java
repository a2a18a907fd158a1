/** Promise 2: four ints at a time, never more than 200. */
public final class P02FeedTest {
    public static void main(String[] args) {
        DrumLayers x = new DrumLayers(4, 1, 1);
        for (int i = 1; i <= 50; i++) {
            Bench.due("feed " + i, x.feed(4 * i - 3, 4 * i - 2, 4 * i - 1, 4 * i), 4 * i);
        }
        Bench.due("feed beyond 200", x.feed(-7, -7, -7, -7), -1);
        Bench.due("feed beyond 200 again", x.feed(0, 0, 0, 0), -1);
        Bench.due("all is there in its order", x.submit(128, 40, 8, 1, 1), 0);
        for (int i = 0; i < 128; i++) {
            Bench.due("word " + i, x.word(0, i), i + 1);
        }
        Bench.due("the tape is empty then", x.feed(1, 2, 3, 4), 4);
        Bench.due("extremes", x.feed(Integer.MIN_VALUE, Integer.MAX_VALUE, -1, 0), 8);
        x.submit(8, 0, 1, 1, 0);
        Bench.due("word 0", x.word(1, 0), 1);
        Bench.due("word 4", x.word(1, 4), Integer.MIN_VALUE);
        Bench.due("word 5", x.word(1, 5), Integer.MAX_VALUE);
        Bench.due("word 6", x.word(1, 6), -1);
        refusedDoesNothing();
        refusedLeavesRoomForNone();
        Bench.finish();
    }

    private static void refusedDoesNothing() {
        DrumLayers x = new DrumLayers(4, 1, 1);
        for (int i = 0; i < 49; i++) {
            x.feed(i, i, i, i);
        }
        Bench.due("196 and 4", x.feed(1, 1, 1, 1), 200);
        Bench.due("200 and 4", x.feed(9, 9, 9, 9), -1);
        x.submit(128, 0, 8, 1, 0);
        Bench.due("the last word", x.word(0, 127), 31);
    }

    /** "NONE, doing nothing: there would be more than 200": what was there is taken as it was. */
    private static void refusedLeavesRoomForNone() {
        DrumLayers x = new DrumLayers(4, 1, 1);
        for (int i = 0; i < 50; i++) {
            x.feed(i, i, i, i);
        }
        for (int i = 0; i < 3; i++) {
            Bench.due("refused each time", x.feed(-1, -1, -1, -1), -1);
        }
        Bench.due("128 of 200 for a program", x.submit(128, 40, 8, 1, 0), 0);
        for (int i = 0; i < 128; i++) {
            Bench.due("word " + i, x.word(0, i), i / 4);
        }
        Bench.due("the tape begins anew", x.feed(7, 7, 7, 7), 4);
        Bench.due("with what was fed behind it", x.submit(4, 0, 1, 1, 0), 1);
        Bench.due("the first word", x.word(1, 0), 7);
    }
}
