/** Promise 5: the devices are done when a call says so, and only when they do something. */
public final class P05DoneTest {
    public static void main(String[] args) {
        idle();
        drum();
        reader();
        printer();
        overWhileWritten();
        falseDoesNothing();
        aDoneIsForOneDevice();
        Bench.finish();
    }

    private static void idle() {
        DrumLayers x = new DrumLayers(4, 1, 1);
        for (int device = -1; device <= 3; device++) {
            Bench.due("done(" + device + ") at first", x.done(device), false);
        }
        for (int e : Bench.EXTREMES) {
            Bench.due("done(" + e + ")", x.done(e), false);
        }
        x.tick(5);
        Bench.due("nobody was woken", x.process(6, 0), -1);
    }

    private static void drum() {
        DrumLayers x = new DrumLayers(4, 1, 1);
        Bench.submit(x, 0, Bench.END);
        Bench.line(x, "A0");
        x.tick(2);
        Bench.due("asked, but not begun", x.done(0), false);
        x.tick(1);
        Bench.due("not the reader", x.done(1), false);
        Bench.due("not the printer", x.done(2), false);
        Bench.due("the drum", x.done(0), true);
        Bench.due("once", x.done(0), false);
        Bench.due("it does nothing then", x.about(1), 0);
        Bench.due("the frame is BUSY until the step behind it", x.frame(0, 0), -2);
        x.tick(1);
        Bench.due("the frame is the job's", x.frame(0, 0), 0);
    }

    private static void reader() {
        DrumLayers x = new DrumLayers(4, 1, 1);
        x.feed(Bench.GET, Bench.READ, Bench.END, 64);
        x.submit(3, 1, 1, 50, 1);
        Bench.line(x, "A0");
        x.tick(3);
        x.done(0);
        x.tick(3);
        Bench.due("it waits for a card", x.process(0, 1), 2);
        Bench.due("READING is ready", x.process(7, 0), 0);
        Bench.due("not yet begun", x.done(1), false);
        x.tick(1);
        Bench.due("the reader works", x.about(2), 1);
        Bench.due("READING waits for it", x.process(7, 1), 8);
        x.tick(9);
        Bench.due("it takes its time", x.job(0, 9), 0);
        Bench.due("done", x.done(1), true);
        Bench.due("it works no more", x.about(2), 0);
        Bench.due("the card is not yet read", x.job(0, 9), 0);
        x.tick(1);
        Bench.due("the card is read", x.job(0, 9), 1);
        Bench.due("A", x.job(0, 4), 64);
        Bench.due("the instruction is done", x.job(0, 3), 2);
        Bench.due("a step", x.job(0, 2), 2);
        Bench.due("the job is ready", x.process(0, 0), 0);
        Bench.due("READING waits for its work", x.process(7, 1), 7);
    }

    private static void printer() {
        DrumLayers x = new DrumLayers(4, 1, 1);
        Bench.submit(x, 6, Bench.GET + 1, Bench.GET + 2, Bench.SET + 3, Bench.PRINT, Bench.SET + 4,
                Bench.PRINT, Bench.END);
        Bench.line(x, "A0");
        x.tick(3);
        x.done(0);
        x.tick(5);
        Bench.due("a line", x.job(0, 11), 1);
        Bench.due("PRINTING is ready", x.process(8, 0) >= 0, true);
        Bench.due("not yet begun", x.done(2), false);
        x.tick(8);
        Bench.due("the printer works", x.about(3), 1);
        Bench.due("two lines", x.job(0, 11), 2);
        Bench.due("the ending waits for empty lines", x.process(0, 1), 4);
        Bench.due("done", x.done(2), true);
        Bench.due("not yet on paper", x.job(0, 10), 0);
        x.tick(1);
        Bench.due("on paper", x.job(0, 10), 1);
        Bench.due("the line", x.paper(0, 0), 3);
        Bench.due("one line is left, so it waits", x.process(0, 1), 4);
        Bench.due("PRINTING goes on, for the count was above 0", x.process(8, 0), 0);
        x.tick(1);
        Bench.due("done again", x.done(2), true);
        x.tick(1);
        Bench.due("on paper", x.job(0, 10), 2);
        Bench.due("woken", x.process(0, 0), 0);
        x.tick(1);
        Bench.due("over", x.job(0, 0), 3);
    }

    /**
     * Job 0 changes segment 1 and goes on in segment 0; job 1 fills the other frames until the
     * changed one is written; job 0 is over before the drum is done, and its number is used again.
     */
    private static void overWhileWritten() {
        for (int anew = 0; anew < 2; anew++) {
            DrumLayers x = new DrumLayers(4, 1, 1);
            int[] zero = new int[32];
            zero[0] = Bench.SET + 9;
            zero[1] = Bench.STORE + 20;
            zero[2] = Bench.JUMP + 2;
            Bench.feed(x, zero);
            x.submit(32, 0, 2, 5000, 0);
            int[] one = new int[64];
            one[0] = Bench.LOAD + 16;
            one[1] = Bench.LOAD + 32;
            one[2] = Bench.JUMP;
            Bench.feed(x, one);
            x.submit(64, 0, 4, 5000, 0);
            Bench.line(x, "A0");
            Bench.go(x, 12);
            Bench.due("the word in core", x.word(0, 20), 9);
            Bench.line(x, "A1");
            for (int i = 0; i < 60 && x.about(1) != 1; i++) {
                x.tick(1);
                if (x.about(1) != 1) {
                    x.done(0);
                }
            }
            Bench.due("the drum writes", x.about(1), 1);
            Bench.due("as it is written", x.word(0, 20), 9);
            Bench.line(x, "C0");
            x.tick(6);
            Bench.due("over", x.job(0, 0), 3);
            Bench.due("no word of one that is over", x.word(0, 20), 0);
            if (anew == 1) {
                x.submit(0, 0, 2, 5, 0);
                Bench.due("the new job's word", x.word(0, 20), 0);
            }
            Bench.due("the frame is BUSY still", busyFrames(x), 1);
            Bench.due("done with it", x.done(0), true);
            Bench.due("nothing was written", x.word(0, 20), 0);
            x.tick(1);
            Bench.due("the drum reads what was wanted", x.about(1), 2);
            x.done(0);
            x.tick(1);
            Bench.due("it came", busyFrames(x), 0);
            if (anew == 1) {
                Bench.due("the new job's word", x.word(0, 20), 0);
            }
        }
    }

    private static int busyFrames(DrumLayers x) {
        int count = 0;
        for (int f = 0; f < 12; f++) {
            count += x.frame(f, 0) == -2 ? 1 : 0;
        }
        return count;
    }

    /** "false when it does nothing, or there is none such": nobody is woken, no signal is counted. */
    private static void falseDoesNothing() {
        DrumLayers x = new DrumLayers(4, 1, 1);
        for (int device = -1; device <= 3; device++) {
            Bench.due("done(" + device + ")", x.done(device), false);
        }
        Bench.feed(x, Bench.GET, Bench.GET + 1, Bench.GET + 2, Bench.READ, Bench.PRINT, Bench.ASK, 5);
        x.submit(6, 1, 1, 50, 7);
        Bench.line(x, "A0");
        x.tick(3);
        Bench.due("the drum was not done before", x.process(6, 1), 8);
        Bench.due("the drum reads", x.about(1), 2);
        Bench.due("done(3) is none such", x.done(3), false);
        Bench.due("done(-1) is none such", x.done(-1), false);
        Bench.due("the drum reads, still", x.about(1), 2);
        x.done(0);
        x.tick(6);
        Bench.due("the reader was not done before", x.process(7, 1), 8);
        Bench.due("the reader works", x.about(2), 1);
        x.done(1);
        Bench.due("the second time nothing is done", x.done(1), false);
        x.tick(10);
        Bench.due("no count of READER", x.job(0, 9), 1);
        Bench.due("the printer was not done before", x.process(8, 1), 8);
        Bench.due("the printer works", x.about(3), 1);
        x.done(2);
        Bench.due("the second time nothing is done", x.done(2), false);
        x.tick(10);
        Bench.due("one line on paper", x.job(0, 10), 1);
        Bench.due("PRINTING waits for its work", x.process(8, 1), 7);
    }

    /** All three work: each is done by its own call. */
    private static void aDoneIsForOneDevice() {
        int[] order = {0, 1, 2, 0, 2, 1, 1, 0, 2, 1, 2, 0, 2, 0, 1, 2, 1, 0};
        for (int i = 0; i < order.length; i += 3) {
            DrumLayers x = allWork();
            for (int j = 0; j < 3; j++) {
                Bench.due("device " + order[i + j] + " works", x.done(order[i + j]), true);
                Bench.due("once", x.done(order[i + j]), false);
                int left = (x.about(1) == 0 ? 0 : 1) + x.about(2) + x.about(3);
                Bench.due("so many work still", left, 2 - j);
            }
        }
    }

    private static DrumLayers allWork() {
        DrumLayers x = new DrumLayers(6, 1, 1);
        Bench.feed(x, Bench.GET, Bench.READ, Bench.END, 5);
        x.submit(3, 1, 1, 50, 1);
        Bench.submit(x, 6, Bench.GET + 1, Bench.GET + 2, Bench.PRINT, Bench.ASK);
        Bench.submit(x, 0, Bench.END);
        for (int k = 0; k < 3; k++) {
            Bench.line(x, "A" + k);
            for (int i = 0; i < 12 && k < 2; i++) {
                x.tick(1);
                x.done(0);
            }
        }
        x.tick(10);
        Bench.due("the drum reads", x.about(1), 2);
        Bench.due("the reader works", x.about(2), 1);
        Bench.due("the printer works", x.about(3), 1);
        return x;
    }
}
