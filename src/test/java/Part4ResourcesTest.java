/** PART 4: claims just reached and passed, what is just SAFE, GIVE, and the row of GETS. */
public final class Part4ResourcesTest {
    private static final int[] NO_CARDS = {};

    public static void main(String[] args) {
        getOfWhatThereIs();
        claimJustReached();
        claimPassed();
        trapBeforeClaim();
        claimBeforeWaiting();
        noneIsFree();
        lastPage();
        justSafe();
        safeInALongOrder();
        safeInTheLongestOrder();
        onlyAdmittedJobsCount();
        endingJobsCount();
        giveOfWhatItHasNot();
        giveAndGetAgain();
        giveOfTheReaderDoesNotWait();
        giveWaitsForEmptyLines();
        rowFromItsBeginning();
        rowPassesOver();
        rowGivesToSeveral();
        rowWhenOneIsOver();
        grantedIsDoneAndWoken();
        cancelLeavesTheRow();
        Bench.finish();
    }

    /** A job of one segment that is in core then; devices other than the drum take their time. */
    private static void admit(DrumLayers x, int claims, int... program) {
        int k = Bench.deck(x, program, NO_CARDS, 1, 5000, claims);
        Bench.line(x, "A" + k);
        drumOnly(x, 14);
    }

    private static void drumOnly(DrumLayers x, int ticks) {
        for (int i = 0; i < ticks; i++) {
            x.tick(1);
            x.done(0);
        }
    }

    private static void reply(DrumLayers x, int k) {
        Bench.line(x, "R" + k + " 1");
        drumOnly(x, 12);
    }

    private static void free(String when, DrumLayers x, int readers, int printers, int pages) {
        Bench.due(when + ": readers", x.about(4), readers);
        Bench.due(when + ": printers", x.about(5), printers);
        Bench.due(when + ": pages", x.about(6), pages);
    }

    /** "GET a (0 reader, 1 printer, 2 a page; TRAP for others)" */
    private static void getOfWhatThereIs() {
        for (int a = 0; a <= 255; a++) {
            DrumLayers x = Bench.begun(9, 7, Bench.GET + a, Bench.JUMP + 1);
            x.tick(1);
            Bench.due("GET " + a + ": a step", x.job(0, 2), a <= 2 ? 1 : 0);
            for (int what = 6; what <= 8; what++) {
                Bench.due("GET " + a + ": what " + what, x.job(0, what), what - 6 == a ? 1 : 0);
            }
            free("GET " + a, x, a == 0 ? 0 : 1, a == 1 ? 0 : 1, a == 2 ? 5 : 6);
            x.tick(1);
            Bench.due("GET " + a + ": TRAP", x.job(0, 1), a <= 2 ? 0 : 4);
        }
    }

    private static int[] gets(int a, int times) {
        int[] program = new int[times + 1];
        java.util.Arrays.fill(program, Bench.GET + a);
        program[times] = Bench.JUMP + times;
        return program;
    }

    /** "if the job would hold more than it claims": as many as it claims it may hold. */
    private static void claimJustReached() {
        for (int pages = 1; pages <= 6; pages++) {
            DrumLayers x = new DrumLayers(4, pages, 9);
            admit(x, 4 * pages, gets(2, pages));
            Bench.due(pages + " pages", x.job(0, 8), pages);
            Bench.due(pages + " pages, admitted still", x.job(0, 0), 2);
            free(pages + " pages", x, 1, 1, 0);
        }
        for (int a = 0; a <= 1; a++) {
            DrumLayers x = new DrumLayers(4, 1, 9);
            admit(x, 1 + a, gets(a, 1));
            Bench.due("claimed: GET " + a, x.job(0, 6 + a), 1);
            Bench.due("claimed: GET " + a + ", admitted still", x.job(0, 0), 2);
        }
    }

    /** ".. more than it claims: it begins to end with 3 (no step)." */
    private static void claimPassed() {
        for (int pages = 0; pages <= 6; pages++) {
            DrumLayers x = new DrumLayers(4, 6, 9);
            admit(x, 3 + 4 * pages, gets(2, pages + 1));
            Bench.due(pages + " pages and one more", x.job(0, 1), 3);
            Bench.due("it held", x.job(0, 8), pages);
            Bench.due("steps", x.job(0, 2), pages);
            Bench.due("PLACE", x.job(0, 3), pages);
            free("given back", x, 1, 1, 6);
        }
        int[] allButOne = {2 + 24, 1 + 24};
        for (int a = 0; a <= 1; a++) {
            DrumLayers x = new DrumLayers(4, 6, 9);
            admit(x, allButOne[a], gets(a, 1));
            Bench.due("not claimed: GET " + a, x.job(0, 1), 3);
            Bench.due("not claimed: GET " + a + ", no step", x.job(0, 2), 0);
            x = new DrumLayers(4, 6, 9);
            admit(x, 27, gets(a, 2));
            Bench.due("twice: GET " + a, x.job(0, 1), 3);
            Bench.due("twice: GET " + a + ", one step", x.job(0, 2), 1);
        }
    }

    private static void trapBeforeClaim() {
        DrumLayers x = new DrumLayers(4, 1, 9);
        admit(x, 0, Bench.GET + 3);
        Bench.due("GET 3 without claims is a TRAP", x.job(0, 1), 4);
    }

    /** What passes the claim does not wait, though none is free. */
    private static void claimBeforeWaiting() {
        DrumLayers x = new DrumLayers(4, 1, 9);
        admit(x, 1, Bench.GET, Bench.ASK);
        admit(x, 2, Bench.GET);
        Bench.due("none is free", x.about(4), 0);
        Bench.due("CLAIM", x.job(1, 1), 3);
    }

    /** "If one is free .. Else it waits in the row of GETS." */
    private static void noneIsFree() {
        for (int a = 0; a <= 2; a++) {
            DrumLayers x = new DrumLayers(4, 1, 9);
            int claims = 1 << a;
            admit(x, claims, Bench.GET + a, Bench.ASK);
            admit(x, claims, Bench.GET + a, Bench.ASK);
            Bench.due("GET " + a + ": 1 waits", x.process(1, 1), 6);
            Bench.due("GET " + a + ": no step", x.job(1, 2), 0);
            Bench.due("GET " + a + ": PLACE", x.job(1, 3), 0);
            Bench.due("GET " + a + ": not in the ready row", x.process(1, 0), -1);
            Bench.due("GET " + a + ": it holds nothing", x.job(1, 6 + a), 0);
        }
    }

    /** The last page may be had, by one that needs no more. */
    private static void lastPage() {
        DrumLayers x = new DrumLayers(6, 2, 9);
        admit(x, 4, Bench.GET + 2, Bench.ASK);
        admit(x, 4, Bench.GET + 2, Bench.ASK);
        admit(x, 4, Bench.GET + 2, Bench.ASK);
        Bench.due("0 has one", x.job(0, 8), 1);
        Bench.due("1 has the last", x.job(1, 8), 1);
        Bench.due("2 waits", x.process(2, 1), 6);
        free("none is left", x, 1, 1, 0);
    }

    /** Of so many pages 0 claims and holds some; may 1, with its claims, have one? */
    private static void justSafe() {
        dueSafe(3, 3, 1, 3, false);
        dueSafe(3, 3, 1, 2, true);
        dueSafe(3, 3, 1, 1, true);
        dueSafe(3, 3, 2, 1, true);
        dueSafe(3, 3, 2, 2, false);
        dueSafe(3, 2, 1, 3, true);
        dueSafe(3, 2, 1, 2, true);
        dueSafe(3, 2, 2, 3, true);
        dueSafe(3, 1, 1, 3, true);
        dueSafe(2, 2, 1, 2, false);
        dueSafe(2, 2, 1, 1, true);
        dueSafe(2, 1, 1, 2, true);
        dueSafe(6, 6, 5, 1, true);
        dueSafe(6, 6, 5, 2, false);
        dueSafe(6, 6, 1, 5, true);
        dueSafe(6, 6, 1, 6, false);
        dueSafe(6, 4, 3, 4, true);
        dueSafe(6, 5, 3, 6, true);
        dueSafe(6, 6, 3, 4, false);
        dueSafe(6, 6, 3, 3, true);
    }

    private static void dueSafe(int pages, int claims, int holds, int otherClaims, boolean safe) {
        DrumLayers x = new DrumLayers(4, pages, 9);
        int[] program = gets(2, holds);
        program[holds] = Bench.ASK;
        admit(x, 4 * claims, program);
        Bench.due("0 holds", x.job(0, 8), holds);
        admit(x, 4 * otherClaims, Bench.GET + 2, Bench.ASK);
        String what = pages + " pages, 0 claims " + claims + " and holds " + holds + ", 1 claims " + otherClaims;
        Bench.due(what, x.job(1, 8), safe ? 1 : 0);
        Bench.due(what + ", waits", x.process(1, 1), safe ? 5 : 6);
        Bench.due(what + ", free", x.about(6), pages - holds - (safe ? 1 : 0));
    }

    /** "in an order such that each one's claims, less what it holds, ..": 2, then 1, then 0 can end. */
    private static void safeInALongOrder() {
        for (int claimsOf2 = 2; claimsOf2 <= 3; claimsOf2++) {
            DrumLayers x = new DrumLayers(6, 5, 9);
            admit(x, 4 * 5, Bench.GET + 2, Bench.GET + 2, Bench.ASK);
            admit(x, 4 * 3, Bench.GET + 2, Bench.ASK);
            Bench.due("0 holds two", x.job(0, 8), 2);
            Bench.due("1 holds one", x.job(1, 8), 1);
            admit(x, 4 * claimsOf2, Bench.GET + 2, Bench.ASK);
            Bench.due("2 claims " + claimsOf2, x.job(2, 8), claimsOf2 == 2 ? 1 : 0);
        }
        DrumLayers x = new DrumLayers(6, 1, 9);
        admit(x, 3, Bench.GET, Bench.ASK);
        admit(x, 2 + 4, Bench.GET + 2, Bench.ASK, Bench.GET + 1, Bench.ASK);
        Bench.due("1 has the page", x.job(1, 8), 1);
        admit(x, 1 + 4, Bench.GET, Bench.ASK);
        Bench.due("2 waits for the reader", x.process(2, 1), 6);
        reply(x, 1);
        Bench.due("1 may have the printer: it ends, then 0, then 2", x.job(1, 7), 1);
    }

    /** "all admitted jobs that are not over": claims of one that waits, or is over, do not count. */
    private static void onlyAdmittedJobsCount() {
        DrumLayers x = new DrumLayers(6, 3, 9);
        Bench.deck(x, new int[] {Bench.END}, NO_CARDS, 1, 100, 3 + 12);
        Bench.line(x, "A0");
        Bench.go(x, 12);
        Bench.due("0 is over", x.job(0, 0), 3);
        admit(x, 3 + 12, gets(2, 3));
        Bench.due("its number is used again", x.job(0, 8), 3);
        x = new DrumLayers(6, 3, 9);
        admit(x, 3 + 12, Bench.GET + 2, Bench.ASK, Bench.GET + 2, Bench.ASK);
        Bench.deck(x, new int[] {Bench.END}, NO_CARDS, 1, 100, 3 + 12);
        Bench.due("1 waits for admission", x.job(1, 0), 1);
        reply(x, 0);
        Bench.due("0 has a second page", x.job(0, 8), 2);
        x = new DrumLayers(6, 3, 9);
        admit(x, 12, Bench.GET + 2, Bench.END);
        Bench.due("over, and tells of a page", x.job(0, 8), 1);
        admitSecond(x);
        Bench.due("1 has three, though 0 tells of one", x.job(1, 8), 3);
    }

    private static void admitSecond(DrumLayers x) {
        Bench.due("the number of the one that is over is taken first",
                Bench.deck(x, new int[] {Bench.END}, NO_CARDS, 1, 100, 12), 0);
        int k = Bench.deck(x, gets(2, 3), NO_CARDS, 1, 100, 12);
        Bench.line(x, "A" + k);
        drumOnly(x, 14);
    }

    /** One that is ENDING is not over: its claims count until it is. */
    private static void endingJobsCount() {
        DrumLayers x = new DrumLayers(4, 2, 9);
        admit(x, 2 + 8, Bench.GET + 1, Bench.GET + 2, Bench.PRINT, Bench.END);
        Bench.due("0 is ENDING", x.process(0, 1), 4);
        admit(x, 8, Bench.GET + 2, Bench.ASK);
        Bench.due("a page is free", x.about(6), 1);
        Bench.due("but it would not be SAFE", x.process(1, 1), 6);
        x.done(2);
        drumOnly(x, 3);
        Bench.due("0 is over", x.job(0, 0), 3);
        Bench.due("1 has it", x.job(1, 8), 1);
    }

    /** "GIVE a (TRAP if it holds none, or a is above 2)" */
    private static void giveOfWhatItHasNot() {
        for (int a = 0; a <= 255; a++) {
            DrumLayers x = Bench.begun(9, 7, Bench.GIVE + a);
            x.tick(2);
            Bench.due("GIVE " + a + " of none", x.job(0, 1), 4);
            Bench.due("GIVE " + a + " of none, no step", x.job(0, 2), 0);
            if (a > 2) {
                x = Bench.begun(9, 7, Bench.GET, Bench.GET + 1, Bench.GET + 2, Bench.GIVE + a);
                x.tick(5);
                Bench.due("GIVE " + a + " when it holds all", x.job(0, 1), 4);
            }
        }
        for (int a = 0; a <= 2; a++) {
            int[] program = {Bench.GET, Bench.GET + 1, Bench.GET + 2, Bench.GIVE + a, Bench.GIVE + a};
            DrumLayers x = Bench.begun(9, 7, program);
            x.tick(6);
            Bench.due("GIVE " + a + " twice", x.job(0, 1), 4);
            Bench.due("GIVE " + a + " twice, steps", x.job(0, 2), 4);
            Bench.due("GIVE " + a + ", it holds none", x.job(0, 6 + a), 0);
        }
    }

    private static void giveAndGetAgain() {
        for (int a = 0; a <= 2; a++) {
            DrumLayers x = Bench.begun(9, 7, Bench.GET + a, Bench.GIVE + a, Bench.GET + a, Bench.JUMP + 3);
            x.tick(1);
            free("had", x, a == 0 ? 0 : 1, a == 1 ? 0 : 1, a == 2 ? 5 : 6);
            x.tick(1);
            free("given", x, 1, 1, 6);
            Bench.due("GIVE " + a + " is a step", x.job(0, 2), 2);
            Bench.due("GIVE " + a + " goes on", x.process(0, 0), 0);
            x.tick(1);
            Bench.due("within its claim again", x.job(0, 6 + a), 1);
        }
    }

    /** "of a printer or a page: while its LINES are not empty it waits": the reader is given at once. */
    private static void giveOfTheReaderDoesNotWait() {
        DrumLayers x = Bench.begun(9, 7, Bench.GET, Bench.GET + 1, Bench.GET + 2, Bench.PRINT, Bench.GIVE,
                Bench.JUMP + 5);
        x.tick(5);
        Bench.due("a line is not yet on paper", x.job(0, 11), 1);
        Bench.due("the reader is given", x.job(0, 6), 0);
        free("given", x, 1, 0, 5);
    }

    private static void giveWaitsForEmptyLines() {
        for (int a = 1; a <= 2; a++) {
            DrumLayers x = Bench.begun(9, 2 + 8, Bench.GET + 1, Bench.GET + 2, Bench.GET + 2, Bench.PRINT,
                    Bench.PRINT, Bench.GIVE + a, Bench.JUMP + 6);
            x.tick(6);
            Bench.due("GIVE " + a + " waits", x.process(0, 1), 4);
            Bench.due("no step", x.job(0, 2), 5);
            free("not given", x, 1, 0, 4);
            x.tick(3);
            Bench.due("the first line", x.done(2), true);
            x.tick(3);
            Bench.due("one line is left: it waits", x.process(0, 1), 4);
            Bench.due("the second line", x.done(2), true);
            x.tick(1);
            Bench.due("woken", x.process(0, 1), 0);
            Bench.due("but not done", x.job(0, 2), 5);
            free("not given", x, 1, 0, 4);
            x.tick(1);
            Bench.due("tried anew, and done", x.job(0, 2), 6);
            free("given", x, 1, a == 1 ? 1 : 0, a == 2 ? 5 : 4);
        }
    }

    /** "the row of GETS is gone through from its beginning": who waited first has it. */
    private static void rowFromItsBeginning() {
        for (int first = 1; first <= 2; first++) {
            DrumLayers x = new DrumLayers(6, 1, 9);
            admit(x, 1, Bench.GET, Bench.ASK, Bench.GIVE, Bench.ASK);
            Bench.deck(x, new int[] {Bench.GET, Bench.ASK}, NO_CARDS, 1, 100, 1);
            Bench.deck(x, new int[] {Bench.GET, Bench.ASK}, NO_CARDS, 1, 100, 1);
            Bench.line(x, "A" + first);
            drumOnly(x, 12);
            Bench.line(x, "A" + (3 - first));
            drumOnly(x, 12);
            reply(x, 0);
            Bench.due(first + " came first and has it", x.job(first, 6), 1);
            Bench.due("the other waits", x.process(3 - first, 1), 6);
        }
    }

    /** "whoever can have what it waits for": one that can't does not stop those behind it. */
    private static void rowPassesOver() {
        DrumLayers x = new DrumLayers(8, 1, 9);
        admit(x, 7, Bench.GET, Bench.GET + 1, Bench.GET + 2, Bench.ASK, Bench.GIVE + 2, Bench.ASK);
        admit(x, 1, Bench.GET, Bench.ASK);
        admit(x, 2, Bench.GET + 1, Bench.ASK);
        admit(x, 4, Bench.GET + 2, Bench.ASK);
        reply(x, 0);
        Bench.due("1 waits for the reader", x.process(1, 1), 6);
        Bench.due("2 waits for the printer", x.process(2, 1), 6);
        Bench.due("3 has the page", x.job(3, 8), 1);
    }

    /** One GIVE makes it SAFE for two that waited: both have a page, in the order of the row. */
    private static void rowGivesToSeveral() {
        DrumLayers x = new DrumLayers(6, 3, 9);
        admit(x, 12, Bench.GET + 2, Bench.GET + 2, Bench.GET + 2, Bench.ASK, Bench.GIVE + 2,
                Bench.GIVE + 2, Bench.JUMP + 6);
        admit(x, 4, Bench.GET + 2, Bench.ASK);
        admit(x, 4, Bench.GET + 2, Bench.ASK);
        Bench.line(x, "R0 1");
        drumOnly(x, 30);
        Bench.due("1 has a page", x.job(1, 8), 1);
        Bench.due("2 has a page", x.job(2, 8), 1);
        Bench.due("0 has one", x.job(0, 8), 1);
        Bench.dueSaid("in their order", x, "0?\n1?\n2?\n");
    }

    /** PART 6: what one that is over held is given on in the same step, to all that can have it. */
    private static void rowWhenOneIsOver() {
        DrumLayers x = new DrumLayers(8, 2, 9);
        admit(x, 3 + 8, Bench.GET, Bench.GET + 1, Bench.GET + 2, Bench.GET + 2, Bench.ASK, Bench.END);
        admit(x, 4, Bench.GET + 2, Bench.ASK);
        admit(x, 1, Bench.GET, Bench.ASK);
        admit(x, 4, Bench.GET + 2, Bench.ASK);
        for (int k = 1; k <= 3; k++) {
            Bench.due(k + " waits", x.process(k, 1), 6);
        }
        Bench.line(x, "R0 1");
        x.tick(2);
        Bench.due("0 is ENDING", x.job(0, 0), 2);
        Bench.due("nothing is given on yet", x.process(1, 1), 6);
        x.tick(1);
        Bench.due("0 is over", x.job(0, 0), 3);
        for (int k = 1; k <= 3; k++) {
            Bench.due(k + " has what it waited for", x.job(k, k == 2 ? 6 : 8), 1);
            Bench.due(k + " stands in the ready row in its order", x.process(k, 0), k - 1);
        }
        free("all is given on but the printer", x, 0, 1, 0);
    }

    /** "has it (its instruction is done), and is woken" */
    private static void grantedIsDoneAndWoken() {
        DrumLayers x = new DrumLayers(4, 1, 9);
        admit(x, 1, Bench.GET, Bench.ASK, Bench.GIVE, Bench.JUMP + 3);
        admit(x, 1, Bench.GET, Bench.JUMP + 1);
        Bench.due("PINNED while it waits", x.frame(1, 3), 1);
        Bench.line(x, "R0 1");
        x.tick(2);
        Bench.due("1 has the reader", x.job(1, 6), 1);
        Bench.due("a step", x.job(1, 2), 1);
        Bench.due("PLACE", x.job(1, 3), 1);
        Bench.due("none PINNED", x.frame(1, 3), 0);
        Bench.due("waits for nothing", x.process(1, 1), 0);
        Bench.due("at the end of the ready row", x.process(1, 0), 1);
        Bench.due("0 goes on", x.process(0, 0), 0);
        Bench.due("GIVE was a step", x.job(0, 2), 3);
    }

    /** "in the row of GETS (it leaves it), it is woken": what comes free is not for it. */
    private static void cancelLeavesTheRow() {
        DrumLayers x = new DrumLayers(6, 1, 9);
        admit(x, 1, Bench.GET, Bench.ASK, Bench.GIVE, Bench.JUMP + 3);
        admit(x, 1, Bench.GET, Bench.ASK);
        admit(x, 1, Bench.GET, Bench.ASK);
        Bench.line(x, "R0 1");
        Bench.line(x, "C1");
        x.tick(2);
        Bench.due("1 is told", x.job(1, 12), 1);
        Bench.due("1 is woken, behind 0", x.process(1, 0), 1);
        Bench.due("its GET is not done", x.job(1, 2), 0);
        x.tick(1);
        Bench.due("0 gave the reader to 2", x.job(2, 6), 1);
        Bench.due("not to 1", x.job(1, 6), 0);
        drumOnly(x, 20);
        Bench.due("1 is cancelled", x.job(1, 1), 5);
        Bench.due("2 asks", x.process(2, 1), 5);
    }

    /** Six jobs that hold a page each, none being free: 5 can end, then 4, and so on, 0 the last. */
    private static void safeInTheLongestOrder() {
        for (int claimsOf5 = 1; claimsOf5 <= 2; claimsOf5++) {
            DrumLayers x = new DrumLayers(12, 6, 9);
            for (int k = 0; k < 6; k++) {
                admit(x, 4 * (k < 5 ? 6 - k : claimsOf5), Bench.ASK, Bench.GET + 2, Bench.ASK);
            }
            for (int k = 5; k >= 1; k--) {
                reply(x, k);
                Bench.due(k + " has a page", x.job(k, 8), 1);
            }
            Bench.due("one page is left", x.about(6), 1);
            reply(x, 0);
            Bench.due("0 has it only if 5 needs no more", x.job(0, 8), claimsOf5 == 1 ? 1 : 0);
            Bench.due("or waits", x.process(0, 1), claimsOf5 == 1 ? 5 : 6);
        }
    }
}
