/** Promise 1: the bounds of frames, pages and quantum, and how all stands at first. */
public final class P01NewObjectTest {
    public static void main(String[] args) {
        int[][] frames = {{Integer.MIN_VALUE, 4}, {-1, 4}, {0, 4}, {3, 4}, {4, 4}, {5, 5}, {11, 11},
            {12, 12}, {13, 12}, {Integer.MAX_VALUE, 12}};
        for (int[] row : frames) {
            Bench.due("frames " + row[0], framesOf(new DrumLayers(row[0], 1, 1)), row[1]);
        }
        int[][] pages = {{Integer.MIN_VALUE, 1}, {0, 1}, {1, 1}, {2, 2}, {6, 6}, {7, 6},
            {Integer.MAX_VALUE, 6}};
        for (int[] row : pages) {
            Bench.due("pages " + row[0], new DrumLayers(4, row[0], 1).about(6), row[1]);
        }
        int[][] quanta = {{Integer.MIN_VALUE, 1}, {0, 1}, {1, 1}, {2, 2}, {9, 9}, {10, 9},
            {Integer.MAX_VALUE, 9}};
        for (int[] row : quanta) {
            Bench.due("quantum " + row[0], quantumOf(row[0]), row[1]);
        }
        atFirst();
        Bench.due("NONE", DrumLayers.NONE, -1);
        Bench.finish();
    }

    /** A frame that is not there can't become BUSY: as many as can be filled are there. */
    private static int framesOf(DrumLayers x) {
        int[] program = new int[128];
        for (int s = 0; s < 7; s++) {
            program[s] = Bench.LOAD + 16 * (s + 1);
        }
        program[7] = Bench.JUMP + 7;
        for (int job = 0; job < 2; job++) {
            Bench.feed(x, program);
            x.submit(128, 0, 8, 100, 0);
            Bench.line(x, "A" + job);
        }
        Bench.go(x, 85);
        int most = 0;
        for (int f = 0; f < 14; f++) {
            most = x.frame(f, 0) >= 0 ? f + 1 : most;
        }
        return most;
    }

    /** How many steps one of two jobs that go round and round does one behind the other. */
    private static int quantumOf(int quantum) {
        DrumLayers x = new DrumLayers(4, 1, quantum);
        Bench.submit(x, 0, Bench.JUMP);
        Bench.submit(x, 0, Bench.JUMP);
        Bench.line(x, "A0");
        Bench.line(x, "A1");
        Bench.go(x, 60);
        int most = 0;
        int run = 0;
        for (int i = 0; i < 40; i++) {
            int before = x.job(0, 2);
            x.tick(1);
            run = x.job(0, 2) > before ? run + 1 : 0;
            most = Math.max(most, run);
        }
        return most;
    }

    private static void atFirst() {
        DrumLayers x = new DrumLayers(4, 3, 1);
        int[] about = {0, 0, 0, 0, 1, 1, 3, 0, 0, 0, 0};
        for (int what = 0; what < about.length; what++) {
            Bench.due("about " + what, x.about(what), about[what]);
        }
        for (int k = 0; k < 10; k++) {
            Bench.due("place of " + k, x.process(k, 0), -1);
            Bench.due("wait of " + k, x.process(k, 1), k < 6 ? 0 : 7);
        }
        for (int k = 0; k < 6; k++) {
            Bench.due("state of job " + k, x.job(k, 0), 0);
            Bench.due("word of job " + k, x.word(k, 0), 0);
            Bench.due("paper of job " + k, x.paper(k, 0), 0);
        }
        for (int f = 0; f < 4; f++) {
            Bench.due("frame " + f, x.frame(f, 0), -1);
        }
        Bench.due("octet", x.octet(0), -1);
    }
}
