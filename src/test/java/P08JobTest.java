/** Promise 8: what a job tells of itself, and who gets which resource. */
public final class P08JobTest {
    public static void main(String[] args) {
        others();
        othersInEachState();
        theLastJob();
        noJob();
        overStays();
        claim();
        safety();
        givenOn();
        printingTwoPages();
        Bench.finish();
    }

    private static void others() {
        DrumLayers x = new DrumLayers(4, 1, 1);
        x.submit(0, 0, 1, 1, 0);
        for (int e : Bench.EXTREMES) {
            Bench.due("job(" + e + ", 0)", x.job(e, 0), -1);
            Bench.due("job(0, " + e + ")", x.job(0, e), -1);
        }
        Bench.due("job(6, 0)", x.job(6, 0), -1);
        Bench.due("job(0, 13)", x.job(0, 13), -1);
        Bench.due("job(0, 12)", x.job(0, 12), 0);
    }

    private static void noJob() {
        DrumLayers x = new DrumLayers(4, 1, 1);
        for (int k = 0; k < 6; k++) {
            for (int what = 0; what <= 12; what++) {
                Bench.due("job(" + k + ", " + what + ")", x.job(k, what), 0);
            }
        }
    }

    private static void overStays() {
        DrumLayers x = new DrumLayers(4, 3, 2);
        Bench.feed(x, Bench.GET, Bench.GET + 1, Bench.GET + 2, Bench.GET + 2, Bench.READ,
                Bench.PRINT, Bench.SETX + 10, Bench.PRINT, Bench.SET + 8, Bench.END, -44, 31, 32);
        x.submit(11, 2, 1, 100, 3 + 12);
        Bench.line(x, "A0");
        Bench.go(x, 60);
        int[] want = {3, 1, 10, 10, 8, -44, 1, 1, 2, 1, 2, 0, 0};
        for (int what = 0; what < want.length; what++) {
            Bench.due("what " + what, x.job(0, what), want[what]);
        }
        Bench.due("the reader is free", x.about(4), 1);
        Bench.due("the printer is free", x.about(5), 1);
        Bench.due("the pages are free", x.about(6), 3);
    }

    private static void claim() {
        DrumLayers x = Bench.ran(1, Bench.GET, Bench.GET);
        Bench.due("a second reader", x.job(0, 1), 3);
        Bench.due("no step for it", x.job(0, 2), 1);
        Bench.due("PLACE", x.job(0, 3), 1);
        x = Bench.ran(1, Bench.GET, Bench.GIVE, Bench.GET);
        Bench.due("once more, behind a GIVE", x.job(0, 1), 1);
    }

    /** Reader and printer, asked for crosswise: the second one waits though its own is free. */
    private static void safety() {
        DrumLayers x = new DrumLayers(4, 1, 1);
        Bench.submit(x, 3, Bench.GET, Bench.ASK, Bench.GET + 1, Bench.ASK);
        Bench.submit(x, 3, Bench.GET + 1, Bench.GET, Bench.JUMP + 2);
        Bench.line(x, "A0");
        Bench.go(x, 10);
        Bench.due("0 has the reader", x.job(0, 6), 1);
        Bench.line(x, "A1");
        Bench.go(x, 12);
        Bench.due("the printer is free", x.about(5), 1);
        Bench.due("but 1 waits for it", x.process(1, 1), 6);
        Bench.line(x, "R0 1");
        Bench.go(x, 3);
        Bench.due("0 has both", x.job(0, 7), 1);
        Bench.due("1 has nothing", x.job(1, 7), 0);
        Bench.line(x, "R0 1");
        Bench.go(x, 3);
        Bench.due("0 is over", x.job(0, 0), 3);
        Bench.due("1 has the printer", x.job(1, 7), 1);
        Bench.due("its instruction is done", x.job(1, 3), 1);
        Bench.due("a step", x.job(1, 2), 1);
        Bench.go(x, 3);
        Bench.due("and the reader", x.job(1, 6), 1);
        pages();
    }

    /** Two jobs that claim all three pages: while one has one, the other may not begin. */
    private static void pages() {
        DrumLayers x = new DrumLayers(4, 3, 1);
        Bench.submit(x, 12, Bench.GET + 2, Bench.JUMP + 1);
        Bench.submit(x, 12, Bench.GET + 2, Bench.JUMP + 1);
        Bench.line(x, "A0");
        Bench.go(x, 10);
        Bench.line(x, "A1");
        Bench.go(x, 15);
        Bench.due("0 has a page", x.job(0, 8), 1);
        Bench.due("two are free", x.about(6), 2);
        Bench.due("1 has to wait", x.process(1, 1), 6);
        x = new DrumLayers(4, 3, 1);
        Bench.submit(x, 12, Bench.GET + 2, Bench.JUMP + 1);
        Bench.submit(x, 8, Bench.GET + 2, Bench.JUMP + 1);
        Bench.line(x, "A0");
        Bench.go(x, 10);
        Bench.line(x, "A1");
        Bench.go(x, 15);
        Bench.due("one that claims two may have one", x.job(1, 8), 1);
    }

    /** The row of GETS is gone through once, from its beginning; who can't have is passed over. */
    private static void givenOn() {
        DrumLayers x = new DrumLayers(8, 1, 1);
        Bench.submit(x, 3, Bench.GET, Bench.GET + 1, Bench.ASK, Bench.GIVE + 1, Bench.ASK, Bench.GIVE,
                Bench.JUMP + 6);
        Bench.submit(x, 1, Bench.GET, Bench.JUMP + 1);
        Bench.submit(x, 2, Bench.GET + 1, Bench.JUMP + 1);
        Bench.submit(x, 2, Bench.GET + 1, Bench.JUMP + 1);
        Bench.line(x, "A0");
        Bench.go(x, 12);
        for (int k = 1; k <= 3; k++) {
            Bench.line(x, "A" + k);
            Bench.go(x, 12);
            Bench.due(k + " waits", x.process(k, 1), 6);
        }
        Bench.line(x, "R0 1");
        Bench.go(x, 8);
        Bench.due("1 waits for the reader, still", x.process(1, 1), 6);
        Bench.due("2 has the printer", x.job(2, 7), 1);
        Bench.due("3 has not", x.job(3, 7), 0);
        Bench.due("0 has it no more", x.job(0, 7), 0);
        Bench.line(x, "R0 1");
        Bench.go(x, 12);
        Bench.due("1 has the reader", x.job(1, 6), 1);
        Bench.due("3 waits, still", x.process(3, 1), 6);
    }

    private static void printingTwoPages() {
        DrumLayers x = new DrumLayers(4, 2, 9);
        int[] program = new int[16];
        java.util.Arrays.fill(program, Bench.PRINT);
        program[0] = Bench.GET + 1;
        program[1] = Bench.GET + 2;
        program[2] = Bench.GET + 2;
        Bench.submit(x, 2 + 8, program);
        Bench.line(x, "A0");
        x.tick(3);
        x.done(0);
        x.tick(100);
        Bench.due("eight lines", x.job(0, 11), 8);
        Bench.due("room", x.process(0, 1), 3);
        Bench.due("none on paper", x.job(0, 10), 0);
    }

    /** "NONE for others": of no job, one that waits for admission, an admitted one, one that is over. */
    private static void othersInEachState() {
        DrumLayers x = new DrumLayers(4, 1, 9);
        Bench.submit(x, 0, Bench.END);
        Bench.submit(x, 0, Bench.ASK);
        Bench.submit(x, 0, Bench.ASK);
        Bench.line(x, "A0");
        Bench.line(x, "A1");
        Bench.go(x, 20);
        int[] states = {3, 2, 1, 0, 0, 0};
        for (int k = -1; k <= 6; k++) {
            Bench.due("job(" + k + ", -1)", x.job(k, -1), -1);
            Bench.due("job(" + k + ", 13)", x.job(k, 13), -1);
            Bench.due("job(" + k + ", 0)", x.job(k, 0), k >= 0 && k < 6 ? states[k] : -1);
            Bench.due("job(" + k + ", 12)", x.job(k, 12), k >= 0 && k < 6 ? 0 : -1);
        }
    }

    private static void theLastJob() {
        DrumLayers x = new DrumLayers(4, 1, 9);
        for (int k = 0; k < 6; k++) {
            Bench.submit(x, 6, Bench.GET + 1, Bench.GET + 2, Bench.SET + 9, Bench.PRINT, Bench.END);
        }
        Bench.line(x, "A5");
        Bench.go(x, 30);
        int[] want = {3, 1, 5, 5, 9, 0, 0, 1, 1, 0, 1, 0, 0};
        for (int what = 0; what < want.length; what++) {
            Bench.due("job(5, " + what + ")", x.job(5, what), want[what]);
            Bench.due("job(4, " + what + ")", x.job(4, what), what == 0 ? 1 : 0);
            Bench.due("job(6, " + what + ")", x.job(6, what), -1);
        }
        Bench.due("paper(5, 0)", x.paper(5, 0), 9);
        Bench.due("paper(5, 1)", x.paper(5, 1), 0);
        Bench.due("paper(5, -1)", x.paper(5, -1), 0);
        Bench.due("paper(4, 0)", x.paper(4, 0), 0);
        Bench.due("paper(6, 0)", x.paper(6, 0), 0);
    }
}
