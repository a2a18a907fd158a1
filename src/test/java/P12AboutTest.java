/** Promise 12: what is told of the whole. */
public final class P12AboutTest {
    public static void main(String[] args) {
        DrumLayers x = new DrumLayers(4, 3, 1);
        for (int e : Bench.EXTREMES) {
            Bench.due("about(" + e + ")", x.about(e), -1);
        }
        Bench.due("about(11)", x.about(11), -1);
        Bench.feed(x, Bench.GET, Bench.GET + 1, Bench.GET + 2, Bench.READ, Bench.PRINT, Bench.ASK,
                Bench.GIVE, Bench.GIVE + 1, Bench.GIVE + 2, Bench.END, 5, 0);
        x.submit(10, 1, 1, 100, 3 + 12);
        due("submitted", x, 0, 0, 0, 0, 1, 1, 3, 0, 0, 0, 0);
        Bench.line(x, "A0");
        due("typed", x, 0, 0, 0, 0, 1, 1, 3, 0, 0, 0, 1);
        x.tick(1);
        due("admitted", x, 1, 0, 0, 0, 1, 1, 3, 0, 1, 0, 0);
        x.tick(2);
        due("the drum reads", x, 3, 2, 0, 0, 1, 1, 3, 0, 1, 0, 0);
        x.done(0);
        due("counted at the step behind it", x, 3, 0, 0, 0, 1, 1, 3, 0, 1, 0, 0);
        x.tick(1);
        due("brought", x, 4, 0, 0, 0, 1, 1, 3, 0, 1, 1, 0);
        x.tick(3);
        due("had", x, 7, 0, 0, 0, 0, 0, 2, 0, 1, 1, 0);
        x.tick(2);
        due("the reader works", x, 9, 0, 1, 0, 0, 0, 2, 0, 1, 1, 0);
        x.done(1);
        x.tick(2);
        due("printed", x, 11, 0, 0, 0, 0, 0, 2, 0, 1, 1, 0);
        x.tick(2);
        Bench.due("the printer works", x.about(3), 1);
        Bench.due("asked", x.about(7), 3);
        x.done(2);
        x.tick(1);
        Bench.line(x, "R0 4");
        x.tick(2);
        due("the reader is given", x, 16, 0, 0, 0, 1, 0, 2, 3, 1, 1, 0);
        x.tick(1);
        due("the printer is given", x, 17, 0, 0, 0, 1, 1, 2, 3, 1, 1, 0);
        x.tick(1);
        due("the page is given", x, 18, 0, 0, 0, 1, 1, 3, 3, 1, 1, 0);
        x.tick(2);
        due("over", x, 20, 0, 0, 0, 1, 1, 3, 7, 0, 1, 0);
        Bench.due("about(11)", x.about(11), -1);
        Bench.due("about(-1)", x.about(-1), -1);
        eachEdge();
        Bench.finish();
    }

    private static void due(String when, DrumLayers x, int... want) {
        for (int what = 0; what < want.length; what++) {
            Bench.due(when + ": about(" + what + ")", x.about(what), want[what]);
        }
    }

    /** All, and none, of what can be free; the drum's three doings; lines from 0 to 8. */
    private static void eachEdge() {
        DrumLayers x = Bench.begun(9, 3 + 24, Bench.GET, Bench.GET + 1, Bench.GET + 2, Bench.GET + 2,
                Bench.GET + 2, Bench.GET + 2, Bench.GET + 2, Bench.GET + 2, Bench.ASK);
        for (int page = 6; page >= 0; page--) {
            x.tick(page == 6 ? 2 : 1);
            Bench.due("no reader is free", x.about(4), 0);
            Bench.due("no printer is free", x.about(5), 0);
            Bench.due("pages that are free", x.about(6), page);
        }
        x.tick(1);
        for (int lines = 1; lines <= 9; lines++) {
            x.type(10);
            Bench.due("lines that wait", x.about(10), Math.min(lines, 8));
        }
        for (int lines = 7; lines >= 0; lines--) {
            x.tick(1);
            Bench.due("lines that wait still", x.about(10), lines);
            Bench.due("bytes said", x.about(7), 3 + 2 * (8 - lines));
        }
        Bench.line(x, "C0");
        x.tick(3);
        due("all is free again", x, x.about(0), 0, 0, 0, 1, 1, 6, 23, 0, 1, 0);
        x = new DrumLayers(12, 1, 1);
        for (int k = 0; k < 6; k++) {
            Bench.submit(x, 0, Bench.ASK);
            Bench.line(x, "A" + k);
            Bench.go(x, 6);
            Bench.due("admitted", x.about(8), k + 1);
            Bench.due("brought", x.about(9), k + 1);
        }
        for (int k = 0; k < 6; k++) {
            Bench.line(x, "C" + k);
            Bench.go(x, 4);
            Bench.due("admitted and not over", x.about(8), 5 - k);
        }
    }
}
