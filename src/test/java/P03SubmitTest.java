/** Promise 3: decks that are taken and decks that are not. */
public final class P03SubmitTest {
    public static void main(String[] args) {
        bounds();
        numbers();
        tapeIsEmptyInAnyCase();
        programAndCards();
        claims();
        anewGone();
        segmentsAndPrograms();
        pagesThatThereAre();
        notSoManyInts();
        tapeIsEmptyOnEachGround();
        refusedLeavesTheJobs();
        lowestOfThose();
        Bench.finish();
    }

    private static void bounds() {
        due(16, 0, 1, 1, 0, 0);
        due(17, 0, 1, 1, 0, -1);
        due(128, 0, 8, 1, 0, 0);
        due(129, 0, 8, 1, 0, -1);
        due(0, 0, 1, 1, 0, 0);
        due(-1, 0, 1, 1, 0, -1);
        due(1, 40, 1, 1, 0, 0);
        due(1, 41, 1, 1, 0, -1);
        due(1, -1, 1, 1, 0, -1);
        due(1, 0, 0, 1, 0, -1);
        due(0, 0, 0, 1, 0, -1);
        due(1, 0, 9, 1, 0, -1);
        due(1, 0, -1, 1, 0, -1);
        due(1, 0, 1, 0, 0, -1);
        due(1, 0, 1, -5, 0, -1);
        due(1, 0, 1, 5000, 0, 0);
        due(1, 0, 1, 5001, 0, -1);
        due(1, 0, 1, 1, 11, 0);
        due(1, 0, 1, 1, 12, -1);
        due(1, 0, 1, 1, -1, -1);
        for (int e : Bench.EXTREMES) {
            due(e, 0, 1, 1, 0, -1);
            due(1, e, 1, 1, 0, -1);
            due(e, e, 8, 1, 0, -1);
            due(1, 0, e, 1, 0, -1);
            due(1, 0, 1, 1, e, -1);
            due(1, 0, 1, e, 0, e == 1000 ? 0 : -1);
        }
        DrumLayers x = new DrumLayers(4, 2, 1);
        x.feed(1, 2, 3, 4);
        Bench.due("4 ints for 2 and 2", x.submit(2, 2, 1, 1, 0), 0);
        x.feed(1, 2, 3, 4);
        Bench.due("4 ints for 3 and 2", x.submit(3, 2, 1, 1, 0), -1);
        Bench.due("no ints for none", x.submit(0, 0, 1, 1, 0), 1);
        Bench.due("no ints for one", x.submit(1, 0, 1, 1, 0), -1);
    }

    /** On an object with 2 pages and 200 ints on the tape. */
    private static void due(int program, int cards, int segments, int limit, int claims, int want) {
        DrumLayers x = new DrumLayers(4, 2, 1);
        for (int i = 0; i < 50; i++) {
            x.feed(0, 0, 0, 0);
        }
        String call = "submit(" + program + ", " + cards + ", " + segments + ", " + limit + ", "
                + claims + ")";
        Bench.due(call, x.submit(program, cards, segments, limit, claims), want);
        Bench.due(call + " leaves a job", x.job(0, 0), want == 0 ? 1 : 0);
        Bench.due(call + " leaves the tape", x.feed(0, 0, 0, 0), 4);
    }

    private static void numbers() {
        DrumLayers x = new DrumLayers(12, 1, 1);
        for (int k = 0; k < 6; k++) {
            Bench.due("number " + k, x.submit(0, 0, 1, 1, 0), k);
        }
        Bench.due("no number is left", x.submit(0, 0, 1, 1, 0), -1);
        Bench.line(x, "A4");
        Bench.line(x, "A2");
        Bench.due("admitted or not, none is left", x.submit(0, 0, 1, 1, 0), -1);
        Bench.go(x, 30);
        Bench.due("4 is over", x.job(4, 0), 3);
        Bench.due("2 is over", x.job(2, 0), 3);
        Bench.due("the lowest that is over", x.submit(0, 0, 1, 1, 0), 2);
        Bench.due("the next one", x.submit(0, 0, 1, 1, 0), 4);
        Bench.due("and none", x.submit(0, 0, 1, 1, 0), -1);
    }

    private static void tapeIsEmptyInAnyCase() {
        DrumLayers x = new DrumLayers(4, 1, 1);
        x.feed(1, 2, 3, 4);
        Bench.due("wrong limit", x.submit(4, 0, 1, 0, 0), -1);
        Bench.due("nothing is left behind it", x.submit(1, 0, 1, 1, 0), -1);
        x.feed(1, 2, 3, 4);
        Bench.due("some of it", x.submit(1, 1, 1, 1, 0), 0);
        Bench.due("the rest is gone", x.feed(5, 6, 7, 8), 4);
    }

    private static void programAndCards() {
        DrumLayers x = new DrumLayers(4, 1, 9);
        Bench.feed(x, Bench.GET, Bench.READ, Bench.STORE + 31, Bench.READ, 77, -88, 99);
        Bench.due("number", x.submit(4, 2, 2, 50, 1), 0);
        Bench.due("the last word of the program", x.word(0, 3), Bench.READ);
        Bench.due("behind it 0", x.word(0, 4), 0);
        Bench.line(x, "A0");
        Bench.go(x, 60);
        Bench.due("ended", x.job(0, 1), 1);
        Bench.due("the second card", x.job(0, 4), -88);
        Bench.due("cards read", x.job(0, 9), 2);
    }

    private static void claims() {
        Bench.due("no reader claimed", Bench.ran(2 + 4, Bench.GET).job(0, 1), 3);
        Bench.due("reader claimed", Bench.ran(1, Bench.GET).job(0, 1), 1);
        Bench.due("no printer claimed", Bench.ran(1 + 4, Bench.GET + 1).job(0, 1), 3);
        Bench.due("printer claimed", Bench.ran(2, Bench.GET + 1).job(0, 1), 1);
        Bench.due("no page claimed", Bench.ran(3, Bench.GET + 2).job(0, 1), 3);
        DrumLayers x = Bench.ran(8, Bench.GET + 2, Bench.GET + 2, Bench.GET + 2);
        Bench.due("two pages claimed", x.job(0, 1), 3);
        Bench.due("two pages had", x.job(0, 8), 2);
    }

    private static void anewGone() {
        DrumLayers x = Bench.ran(6, Bench.GET + 1, Bench.GET + 2, Bench.SET + 9, Bench.PRINT,
                Bench.SETX + 4, Bench.JUMP + 99);
        Bench.line(x, "C0");
        Bench.go(x, 5);
        Bench.due("it trapped", x.job(0, 1), 4);
        Bench.due("it printed", x.paper(0, 0), 9);
        Bench.due("anew", x.submit(0, 0, 1, 1, 0), 0);
        for (int what = 0; what <= 12; what++) {
            Bench.due("anew, what " + what, x.job(0, what), what == 0 ? 1 : 0);
        }
        Bench.due("no paper any more", x.paper(0, 0), 0);
        Bench.due("no words any more", x.word(0, 0), 0);
        Bench.due("not in the row", x.process(0, 0), -1);
        Bench.due("waits for nothing told", x.process(0, 1), 0);
    }

    /** "a program longer than its segments": as long as they are it may be. */
    private static void segmentsAndPrograms() {
        for (int segments = 1; segments <= 8; segments++) {
            due(16 * segments, 0, segments, 1, 0, 0);
            due(16 * segments + 1, 0, segments, 1, 0, -1);
        }
        due(0, 0, 8, 1, 0, 0);
        due(0, 0, 9, 1, 0, -1);
        due(0, 40, 1, 1, 0, 0);
        due(0, 41, 1, 1, 0, -1);
        due(128, 40, 8, 5000, 11, 0);
    }

    /** "claims (below 0, more pages than there are)": with each number of pages. */
    private static void pagesThatThereAre() {
        for (int pages = 1; pages <= 6; pages++) {
            for (int claims = 0; claims <= 31; claims++) {
                DrumLayers x = new DrumLayers(4, pages, 1);
                int want = claims / 4 <= pages ? 0 : -1;
                Bench.due(pages + " pages, claims " + claims, x.submit(0, 0, 1, 1, claims), want);
            }
            DrumLayers x = new DrumLayers(4, pages, 1);
            Bench.due("claims below 0", x.submit(0, 0, 1, 1, -4), -1);
        }
        DrumLayers x = new DrumLayers(4, 1, 1);
        Bench.submit(x, 4, Bench.GET + 2, Bench.ASK);
        Bench.line(x, "A0");
        Bench.go(x, 10);
        Bench.due("no page is free", x.about(6), 0);
        Bench.due("there is one, though it is not free", x.submit(0, 0, 1, 1, 4), 1);
    }

    /** "not so many ints": program and cards together may be all that are on the tape. */
    private static void notSoManyInts() {
        for (int fours = 0; fours <= 3; fours++) {
            int ints = 4 * fours;
            for (int program = 0; program <= 16; program++) {
                for (int cards = 0; cards <= 16; cards += 4) {
                    DrumLayers x = new DrumLayers(4, 1, 1);
                    for (int i = 0; i < fours; i++) {
                        x.feed(1, 1, 1, 1);
                    }
                    String call = program + " and " + cards + " of " + ints;
                    int want = program + cards <= ints ? 0 : -1;
                    Bench.due(call, x.submit(program, cards, 1, 1, 0), want);
                    Bench.due(call + ", the tape", x.feed(1, 1, 1, 1), 4);
                }
            }
        }
    }

    /** "(the tape is empty then, in any case)": on each ground for NONE by itself. */
    private static void tapeIsEmptyOnEachGround() {
        int[][] decks = {{5, 0, 1, 1, 0}, {0, 5, 1, 1, 0}, {17, 0, 1, 1, 0}, {-1, 0, 1, 1, 0},
            {0, 41, 1, 1, 0}, {0, -1, 1, 1, 0}, {0, 0, 0, 1, 0}, {0, 0, 9, 1, 0}, {0, 0, 1, 0, 0},
            {0, 0, 1, 5001, 0}, {0, 0, 1, 1, -1}, {0, 0, 1, 1, 8}};
        for (int[] d : decks) {
            DrumLayers x = new DrumLayers(4, 1, 1);
            x.feed(1, 2, 3, 4);
            String call = java.util.Arrays.toString(d);
            Bench.due(call, x.submit(d[0], d[1], d[2], d[3], d[4]), -1);
            Bench.due(call + " leaves nothing on the tape", x.submit(1, 0, 1, 1, 0), -1);
            Bench.due(call + " leaves no job", x.job(0, 0), 0);
            Bench.due(call + " and takes no number", x.submit(0, 0, 1, 1, 0), 0);
        }
        DrumLayers x = new DrumLayers(4, 1, 1);
        for (int k = 0; k < 6; k++) {
            x.submit(0, 0, 1, 1, 0);
        }
        x.feed(1, 2, 3, 4);
        Bench.due("no number is left", x.submit(4, 0, 1, 1, 0), -1);
        Bench.due("then the tape is empty, too", x.feed(1, 2, 3, 4), 4);
    }

    private static void refusedLeavesTheJobs() {
        DrumLayers x = new DrumLayers(4, 1, 1);
        Bench.submit(x, 0, Bench.SET + 5, Bench.END);
        Bench.line(x, "A0");
        Bench.go(x, 20);
        x.feed(1, 2, 3, 4);
        Bench.due("refused", x.submit(4, 0, 1, 0, 0), -1);
        Bench.due("the one that is over tells all, still", x.job(0, 4), 5);
        Bench.due("its outcome", x.job(0, 1), 1);
        for (int k = 0; k < 6; k++) {
            x.submit(0, 0, 1, 1 + k, 0);
        }
        x.feed(9, 9, 9, 9);
        Bench.due("no number is left", x.submit(4, 0, 1, 1, 0), -1);
        for (int k = 0; k < 6; k++) {
            Bench.due("job " + k + " waits for admission", x.job(k, 0), 1);
            Bench.due("job " + k + " has its own words", x.word(k, 0), 0);
        }
    }

    /** "the lowest of those that are no job or over": one over above a number that is no job. */
    private static void lowestOfThose() {
        DrumLayers x = new DrumLayers(4, 1, 1);
        x.submit(0, 0, 1, 1, 0);
        x.submit(0, 0, 1, 1, 0);
        Bench.line(x, "A1");
        Bench.go(x, 20);
        Bench.due("1 is over", x.job(1, 0), 3);
        Bench.due("1 before 2, that is no job", x.submit(0, 0, 1, 1, 0), 1);
        Bench.due("then 2", x.submit(0, 0, 1, 1, 0), 2);
        Bench.line(x, "A0");
        Bench.go(x, 20);
        Bench.due("then 0, for it is over", x.submit(0, 0, 1, 1, 0), 0);
        for (int k = 3; k < 6; k++) {
            Bench.due("then " + k, x.submit(0, 0, 1, 1, 0), k);
        }
        Bench.line(x, "A5");
        Bench.due("not before it is over", x.submit(0, 0, 1, 1, 0), -1);
        Bench.go(x, 20);
        Bench.due("the last number again", x.submit(0, 0, 1, 1, 0), 5);
    }
}
