/** Promise 9: the lines on the paper of each job. */
public final class P09PaperTest {
    public static void main(String[] args) {
        DrumLayers x = new DrumLayers(4, 1, 1);
        Bench.submit(x, 6, Bench.GET + 1, Bench.GET + 2, Bench.LOAD + 11, Bench.PRINT, Bench.SET + 20,
                Bench.PRINT, Bench.SET, Bench.PRINT, Bench.SET + 3, Bench.PRINT, Bench.END, -1);
        Bench.submit(x, 6, Bench.GET + 1, Bench.GET + 2, Bench.SET + 70, Bench.PRINT, Bench.END);
        Bench.line(x, "A0");
        Bench.line(x, "A1");
        Bench.go(x, 90);
        int[] want = {-1, 20, 0, 3};
        for (int i = 0; i < want.length; i++) {
            Bench.due("paper(0, " + i + ")", x.paper(0, i), want[i]);
        }
        Bench.due("lines", x.job(0, 10), 4);
        Bench.due("no line 4", x.paper(0, 4), 0);
        Bench.due("the other's line", x.paper(1, 0), 70);
        Bench.due("the other has one", x.job(1, 10), 1);
        Bench.due("no line 1", x.paper(1, 1), 0);
        Bench.due("of no job", x.paper(2, 0), 0);
        Bench.due("no such job", x.paper(6, 0), 0);
        for (int e : Bench.EXTREMES) {
            Bench.due("paper(" + e + ", 0)", x.paper(e, 0), 0);
            Bench.due("paper(0, " + e + ")", x.paper(0, e), 0);
        }
        x.submit(0, 0, 1, 1, 0);
        Bench.due("gone with the old job", x.paper(0, 0), 0);
        Bench.due("the other's stays", x.paper(1, 0), 70);
        many();
        notYetOnPaper();
        Bench.finish();
    }

    private static void many() {
        DrumLayers x = new DrumLayers(4, 6, 9);
        Bench.submit(x, 6, Bench.GET + 1, Bench.GET + 2, Bench.LOAD + 8, Bench.ADD + 7, Bench.STORE + 8,
                Bench.PRINT, Bench.JUMP + 2, 1, 0);
        Bench.line(x, "A0");
        x.tick(3);
        x.done(0);
        int lines = 0;
        for (int i = 0; i < 400 && lines < 150; i++) {
            x.tick(20);
            lines += x.done(2) ? 1 : 0;
        }
        x.tick(5);
        Bench.due("lines on paper", x.job(0, 10), 150);
        for (int i = 0; i < 150; i += 7) {
            Bench.due("line " + i, x.paper(0, i), i + 1);
        }
    }

    /** "0 when there is none": a line that is printed, but not yet on paper, is none. */
    private static void notYetOnPaper() {
        DrumLayers x = Bench.begun(9, 6, Bench.GET + 1, Bench.GET + 2, Bench.SET + 5, Bench.PRINT,
                Bench.SET + 6, Bench.PRINT, Bench.ASK);
        Bench.due("no line at first", x.paper(0, 0), 0);
        x.tick(20);
        Bench.due("two lines", x.job(0, 11), 2);
        Bench.due("the printer works: none is there", x.paper(0, 0), 0);
        x.done(2);
        Bench.due("nor when it is done", x.paper(0, 0), 0);
        x.tick(1);
        Bench.due("but behind PRINTING's step", x.paper(0, 0), 5);
        Bench.due("the next is none", x.paper(0, 1), 0);
        x.tick(1);
        x.done(2);
        x.tick(1);
        Bench.due("the next one", x.paper(0, 1), 6);
        Bench.due("the first, still", x.paper(0, 0), 5);
        Bench.due("no third", x.paper(0, 2), 0);
        Bench.due("none before the first", x.paper(0, -1), 0);
    }
}
