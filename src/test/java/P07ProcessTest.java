/** Promise 7: places in the ready row, and what each process waits for. */
public final class P07ProcessTest {
    public static void main(String[] args) {
        others();
        firstAndLast();
        theWholeRow();
        causes();
        signalsAreCounted();
        roomAndEmptyLines();
        Bench.finish();
    }

    private static void others() {
        DrumLayers x = new DrumLayers(4, 1, 1);
        for (int e : Bench.EXTREMES) {
            Bench.due("process(" + e + ", 0)", x.process(e, 0), -1);
            Bench.due("process(" + e + ", 1)", x.process(e, 1), -1);
            Bench.due("process(6, " + e + ")", x.process(6, e), -1);
        }
        Bench.due("process(10, 0)", x.process(10, 0), -1);
        Bench.due("process(10, 1)", x.process(10, 1), -1);
        Bench.due("process(9, 1)", x.process(9, 1), 7);
        Bench.due("process(9, 2)", x.process(9, 2), -1);
        x.submit(0, 0, 1, 1, 0);
        Bench.due("one that waits for admission, its place", x.process(0, 0), -1);
        Bench.due("one that waits for admission", x.process(0, 1), 0);
    }

    private static void causes() {
        DrumLayers x = new DrumLayers(6, 1, 1);
        x.feed(Bench.GET, Bench.READ, Bench.ASK, 5);
        x.submit(3, 1, 1, 50, 1);
        Bench.submit(x, 1, Bench.GET);
        Bench.line(x, "A0");
        x.tick(1);
        Bench.due("ready", x.process(0, 1), 0);
        x.tick(1);
        Bench.due("a segment", x.process(0, 1), 1);
        x.tick(1);
        x.done(0);
        x.tick(3);
        Bench.due("a card", x.process(0, 1), 2);
        Bench.due("no place", x.process(0, 0), -1);
        Bench.line(x, "A1");
        x.tick(5);
        x.done(0);
        x.tick(2);
        Bench.due("a resource", x.process(1, 1), 6);
        Bench.due("no place", x.process(1, 0), -1);
        x.done(1);
        x.tick(2);
        Bench.due("a reply", x.process(0, 1), 5);
        Bench.due("no place", x.process(0, 0), -1);
        Bench.line(x, "R0 1");
        x.tick(3);
        Bench.due("over", x.job(0, 0), 3);
        Bench.due("nothing, when it is over", x.process(0, 1), 0);
        Bench.due("1 has the reader then", x.job(1, 6), 1);
        Bench.due("and is first", x.process(1, 0), 0);
    }

    /** Both jobs ask before SEGMENTS has a step: the second signal is counted, none is lost. */
    private static void signalsAreCounted() {
        DrumLayers x = new DrumLayers(4, 1, 2);
        Bench.submit(x, 0, Bench.JUMP);
        Bench.submit(x, 0, Bench.JUMP);
        Bench.line(x, "A0");
        Bench.line(x, "A1");
        x.tick(2);
        Bench.due("0 is second, for the console had its quantum or waited", x.process(0, 0), 0);
        Bench.due("1 is behind it", x.process(1, 0), 1);
        x.tick(2);
        Bench.due("0 waits", x.process(0, 1), 1);
        Bench.due("1 waits", x.process(1, 1), 1);
        Bench.due("SEGMENTS is ready", x.process(6, 0), 0);
        x.tick(1);
        Bench.due("the first frame", x.frame(0, 0), -2);
        x.done(0);
        x.tick(1);
        Bench.due("0 came first", x.frame(0, 0), 0);
        Bench.due("SEGMENTS goes on", x.process(6, 1), 0);
        Bench.due("SEGMENTS has its second step of two, so it stands behind 0 or before it",
                x.process(6, 0) + x.process(0, 0), 1);
        x.tick(3);
        x.done(0);
        x.tick(4);
        Bench.due("1 came, too", x.frame(1, 0), 1);
    }

    private static void roomAndEmptyLines() {
        DrumLayers x = new DrumLayers(4, 2, 9);
        Bench.submit(x, 2 + 8, Bench.GET + 1, Bench.GET + 2, Bench.PRINT, Bench.PRINT, Bench.PRINT,
                Bench.PRINT, Bench.PRINT, Bench.GET + 2, Bench.GIVE + 2, Bench.JUMP + 9);
        Bench.line(x, "A0");
        x.tick(3);
        x.done(0);
        x.tick(30);
        Bench.due("four lines for one page", x.job(0, 11), 4);
        Bench.due("room", x.process(0, 1), 3);
        Bench.due("PLACE of the fifth", x.job(0, 3), 6);
        x.done(2);
        x.tick(1);
        Bench.due("woken", x.process(0, 1), 0);
        x.tick(30);
        Bench.due("four lines again", x.job(0, 11), 4);
        Bench.due("another page", x.job(0, 8), 2);
        Bench.due("empty lines", x.process(0, 1), 4);
        for (int i = 0; i < 3; i++) {
            x.done(2);
            x.tick(5);
            Bench.due("empty lines, still", x.process(0, 1), 4);
        }
        x.done(2);
        x.tick(1);
        Bench.due("woken", x.process(0, 1), 0);
        x.tick(2);
        Bench.due("a page was given", x.job(0, 8), 1);
        Bench.due("it is free", x.about(6), 1);
    }

    /** "NONE for others": processes 0 and 9 and the numbers beside them, and so for what. */
    private static void firstAndLast() {
        DrumLayers x = Bench.begun(9, 0, Bench.ASK, Bench.JUMP + 1);
        for (int k = -1; k <= 10; k++) {
            Bench.due("process(" + k + ", -1)", x.process(k, -1), -1);
            Bench.due("process(" + k + ", 2)", x.process(k, 2), -1);
        }
        Bench.due("process(0, 0)", x.process(0, 0), 0);
        Bench.due("process(0, 1)", x.process(0, 1), 0);
        Bench.due("process(-1, 0)", x.process(-1, 0), -1);
        Bench.due("process(-1, 1)", x.process(-1, 1), -1);
        Bench.due("process(5, 1) of no job", x.process(5, 1), 0);
        Bench.due("process(6, 1)", x.process(6, 1), 7);
        Bench.due("process(9, 0)", x.process(9, 0), -1);
        x.type(10);
        Bench.due("process(9, 0), woken", x.process(9, 0), 1);
        Bench.due("process(9, 1), woken", x.process(9, 1), 0);
        Bench.due("process(10, 0)", x.process(10, 0), -1);
        Bench.due("process(10, 1)", x.process(10, 1), -1);
    }

    /** Six jobs and the console: places 0 to 6, the console being the last. */
    private static void theWholeRow() {
        DrumLayers x = new DrumLayers(12, 1, 1);
        for (int k = 0; k < 6; k++) {
            Bench.submit(x, 0, Bench.JUMP);
            Bench.line(x, "A" + k);
            Bench.go(x, 6);
        }
        Bench.go(x, 60);
        x.type(10);
        boolean[] taken = new boolean[7];
        for (int k = 0; k < 6; k++) {
            int place = x.process(k, 0);
            boolean good = place >= 0 && place <= 5 && !taken[place];
            Bench.due("place of " + k + " is " + place, good, true);
            if (good) {
                taken[place] = true;
            }
        }
        Bench.due("the console is the last", x.process(9, 0), 6);
    }
}
