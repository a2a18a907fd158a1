/** PART 5: cards, lines, replies and typed lines at their edges. */
public final class Part5DevicesTest {
    private static final int[] NO_CARDS = {};

    public static void main(String[] args) {
        readWithoutTheReader();
        noCardLeft();
        fortyCards();
        cardsOfTwoJobs();
        readTakesItsTime();
        printWithoutThePrinter();
        printWithoutAPage();
        fourLinesForEachPage();
        roomGrowsWithAPage();
        fullLinesTakeNothing();
        wokenForRoom();
        wokenForEmptyLines();
        linesComeInTheirOrder();
        printsForTheOneThatHoldsThePrinter();
        cardsOfANewJob();
        asking();
        repliesOfSoManyDigits();
        repliesAreNotWaitedFor();
        linesOfTheirLength();
        nothingOfEarlierLines();
        jobsOfTheirNumber();
        admissionJustReached();
        admissionCountsThoseNotOver();
        cancelOnlyTheAdmitted();
        cancelOfOneInTheReadyRow();
        cancelOfOneThatWaits();
        cancelOfOneThatWaitsForAReply();
        Bench.finish();
    }

    private static void drumOnly(DrumLayers x, int ticks) {
        for (int i = 0; i < ticks; i++) {
            x.tick(1);
            x.done(0);
        }
    }

    private static DrumLayers withCards(int cards, int claims, int... program) {
        DrumLayers x = new DrumLayers(4, 6, 9);
        int[] all = new int[cards];
        for (int i = 0; i < cards; i++) {
            all[i] = 100 + i;
        }
        Bench.deck(x, program, all, 1, 5000, claims);
        Bench.begin(x, 0);
        return x;
    }

    /** "READ: TRAP without the reader": claimed but not had, given back, another's. */
    private static void readWithoutTheReader() {
        DrumLayers x = withCards(2, 1, Bench.READ);
        x.tick(2);
        Bench.due("claimed, not had", x.job(0, 1), 4);
        Bench.due("no step", x.job(0, 2), 0);
        x = withCards(2, 1, Bench.GET, Bench.READ, Bench.GIVE, Bench.READ);
        Bench.go(x, 12);
        Bench.due("given back", x.job(0, 1), 4);
        Bench.due("steps", x.job(0, 2), 3);
        Bench.due("one card was read", x.job(0, 9), 1);
        x = withCards(2, 7, Bench.GET + 1, Bench.GET + 2, Bench.READ);
        x.tick(4);
        Bench.due("printer and page are no reader", x.job(0, 1), 4);
    }

    /** "or when no card is left" */
    private static void noCardLeft() {
        for (int cards = 0; cards <= 3; cards++) {
            DrumLayers x = withCards(cards, 1, Bench.GET, Bench.READ, Bench.JUMP + 1);
            Bench.go(x, 40);
            Bench.due(cards + " cards: TRAP", x.job(0, 1), 4);
            Bench.due(cards + " cards: read", x.job(0, 9), cards);
            Bench.due(cards + " cards: A", x.job(0, 4), cards == 0 ? 0 : 99 + cards);
            Bench.due(cards + " cards: PLACE", x.job(0, 3), 1);
            Bench.due(cards + " cards: steps", x.job(0, 2), 1 + 2 * cards);
            Bench.due(cards + " cards: READING waits for its work", x.process(7, 1), 7);
            Bench.due(cards + " cards: the reader does nothing", x.about(2), 0);
        }
        DrumLayers x = withCards(1, 1, Bench.GET, Bench.READ, Bench.ASK);
        Bench.go(x, 20);
        Bench.due("the last card is no TRAP", x.process(0, 1), 5);
    }

    private static void fortyCards() {
        DrumLayers x = withCards(40, 1, Bench.GET, Bench.READ, Bench.JUMP + 1);
        x.tick(1);
        for (int read = 1; read <= 40; read++) {
            x.tick(2);
            Bench.due("the reader works for card " + read, x.done(1), true);
            x.tick(1);
            Bench.due("card " + read, x.job(0, 4), 99 + read);
            Bench.due("so many were read", x.job(0, 9), read);
            x.tick(1);
        }
        x.tick(2);
        Bench.due("forty were read", x.job(0, 9), 40);
        Bench.due("then TRAP", x.job(0, 1), 4);
    }

    /** Each job has its own cards. */
    private static void cardsOfTwoJobs() {
        DrumLayers x = new DrumLayers(4, 1, 1);
        int[] program = {Bench.GET, Bench.READ, Bench.GIVE, Bench.ASK};
        Bench.deck(x, program, new int[] {Integer.MIN_VALUE}, 1, 100, 1);
        Bench.deck(x, program, new int[] {Integer.MAX_VALUE}, 1, 100, 1);
        Bench.line(x, "A0");
        Bench.line(x, "A1");
        Bench.go(x, 50);
        Bench.due("the least card", x.job(0, 4), Integer.MIN_VALUE);
        Bench.due("the greatest card", x.job(1, 4), Integer.MAX_VALUE);
    }

    /** "waits": nothing goes on until a call says that the reader is done, and READING has its step. */
    private static void readTakesItsTime() {
        DrumLayers x = withCards(1, 1, Bench.GET, Bench.READ, Bench.JUMP + 2);
        x.tick(2);
        Bench.due("a card", x.process(0, 1), 2);
        Bench.due("READING is woken", x.process(7, 0), 0);
        x.tick(20);
        Bench.due("the reader works", x.about(2), 1);
        Bench.due("READING waits for the device", x.process(7, 1), 8);
        Bench.due("no card yet", x.job(0, 9), 0);
        x.done(1);
        Bench.due("READING is woken", x.process(7, 0), 0);
        Bench.due("no card yet", x.job(0, 4), 0);
        x.tick(1);
        Bench.due("its next card", x.job(0, 4), 100);
        Bench.due("its instruction is done", x.job(0, 2), 2);
        Bench.due("it is woken", x.process(0, 0), 0);
    }

    /** "PRINT: TRAP without the printer or a page." */
    private static void printWithoutThePrinter() {
        DrumLayers x = Bench.begun(9, 6, Bench.PRINT);
        x.tick(2);
        Bench.due("with nothing", x.job(0, 1), 4);
        x = Bench.begun(9, 7, Bench.GET + 2, Bench.GET, Bench.PRINT);
        x.tick(4);
        Bench.due("page and reader", x.job(0, 1), 4);
        Bench.due("no line", x.job(0, 11), 0);
        x = Bench.begun(9, 6, Bench.GET + 1, Bench.GET + 2, Bench.GIVE + 1, Bench.PRINT);
        x.tick(5);
        Bench.due("the printer is given back", x.job(0, 1), 4);
        Bench.due("steps", x.job(0, 2), 3);
    }

    private static void printWithoutAPage() {
        DrumLayers x = Bench.begun(9, 7, Bench.GET + 1, Bench.GET, Bench.PRINT);
        x.tick(4);
        Bench.due("printer and reader", x.job(0, 1), 4);
        x = Bench.begun(9, 6, Bench.GET + 1, Bench.GET + 2, Bench.GIVE + 2, Bench.PRINT);
        x.tick(5);
        Bench.due("the page is given back", x.job(0, 1), 4);
        x = Bench.begun(9, 10, Bench.GET + 1, Bench.GET + 2, Bench.GET + 2, Bench.GIVE + 2, Bench.PRINT,
                Bench.JUMP + 5);
        x.tick(5);
        Bench.due("one page of two is left", x.job(0, 11), 1);
    }

    /** Gets the printer and so many pages, and prints 1, 2, 3 .. without an end. */
    private static int[] printer(int pages) {
        int[] program = new int[pages + 9];
        program[0] = Bench.GET + 1;
        for (int i = 1; i <= pages; i++) {
            program[i] = Bench.GET + 2;
        }
        program[pages + 1] = Bench.LOAD + pages + 7;
        program[pages + 2] = Bench.ADD + pages + 8;
        program[pages + 3] = Bench.STORE + pages + 7;
        program[pages + 4] = Bench.PRINT;
        program[pages + 5] = Bench.JUMP + pages + 1;
        program[pages + 8] = 1;
        return program;
    }

    /** "if they are 4 for each page it holds it waits" */
    private static void fourLinesForEachPage() {
        for (int pages = 1; pages <= 6; pages++) {
            DrumLayers x = Bench.begun(9, 2 + 4 * pages, printer(pages));
            for (int i = 0; i < 200 && x.process(0, 1) != 3; i++) {
                x.tick(1);
                Bench.due("never more than 4 for each page", x.job(0, 11) <= 4 * pages, true);
            }
            Bench.due(pages + " pages: it waits for room", x.process(0, 1), 3);
            Bench.due(pages + " pages: lines", x.job(0, 11), 4 * pages);
            Bench.due(pages + " pages: none on paper", x.job(0, 10), 0);
            Bench.due(pages + " pages: A is the one that waits", x.job(0, 4), 4 * pages + 1);
            Bench.due(pages + " pages: PLACE", x.job(0, 3), pages + 4);
        }
    }

    /** Lines are counted by what it holds when it prints, not by what it claims. */
    private static void roomGrowsWithAPage() {
        DrumLayers x = Bench.begun(9, 2 + 8, Bench.GET + 1, Bench.GET + 2, Bench.PRINT, Bench.PRINT,
                Bench.PRINT, Bench.PRINT, Bench.GET + 2, Bench.PRINT, Bench.PRINT, Bench.PRINT, Bench.PRINT,
                Bench.PRINT);
        x.tick(40);
        Bench.due("eight lines for two pages", x.job(0, 11), 8);
        Bench.due("the ninth waits", x.process(0, 1), 3);
        Bench.due("PLACE", x.job(0, 3), 11);
    }

    /** A PRINT that waits is no step, and does nothing to A, to the lines, or to PRINTS. */
    private static void fullLinesTakeNothing() {
        DrumLayers x = Bench.begun(9, 6, Bench.GET + 1, Bench.GET + 2, Bench.PRINT, Bench.PRINT,
                Bench.PRINT, Bench.PRINT, Bench.PRINT, Bench.ASK);
        x.tick(20);
        int steps = x.job(0, 2);
        Bench.due("six steps", steps, 6);
        x.tick(20);
        Bench.due("no step while it waits", x.job(0, 2), 6);
        int done = 0;
        for (int i = 0; i < 60; i++) {
            x.tick(1);
            done += x.done(2) ? 1 : 0;
        }
        Bench.due("the printer was begun for each line, once", done, 5);
        Bench.due("five on paper", x.job(0, 10), 5);
        Bench.due("none is left", x.job(0, 11), 0);
    }

    /** "the job is woken if it waits for room" */
    private static void wokenForRoom() {
        DrumLayers x = Bench.begun(9, 6, printer(1));
        x.tick(40);
        Bench.due("it waits for room", x.process(0, 1), 3);
        x.done(2);
        Bench.due("not by the printer", x.process(0, 1), 3);
        x.tick(1);
        Bench.due("by PRINTING's step", x.process(0, 1), 0);
        Bench.due("three lines", x.job(0, 11), 3);
        Bench.due("one on paper", x.job(0, 10), 1);
        Bench.due("PRINTING goes on, and is before it", x.process(0, 0), 1);
        x.tick(2);
        Bench.due("tried anew: four lines", x.job(0, 11), 4);
    }

    /** "or if it waits for empty lines and they are" */
    private static void wokenForEmptyLines() {
        DrumLayers x = Bench.begun(9, 6, Bench.GET + 1, Bench.GET + 2, Bench.PRINT, Bench.PRINT,
                Bench.PRINT, Bench.PRINT, Bench.END);
        x.tick(20);
        for (int left = 3; left >= 0; left--) {
            Bench.due(left + 1 + " lines: ENDING, it waits", x.process(0, 1), 4);
            Bench.due("the printer works", x.done(2), true);
            x.tick(1);
            Bench.due("lines left", x.job(0, 11), left);
            Bench.due("woken with the last one alone", x.process(0, 1), left == 0 ? 0 : 4);
            x.tick(1);
        }
        Bench.due("over", x.job(0, 0), 3);
    }

    private static void linesComeInTheirOrder() {
        DrumLayers x = Bench.begun(9, 6, printer(1));
        for (int i = 0; i < 200; i++) {
            x.tick(1);
            x.done(2);
        }
        int lines = x.job(0, 10);
        Bench.due("many lines", lines > 10, true);
        for (int i = 0; i < lines; i++) {
            Bench.due("line " + i, x.paper(0, i), i + 1);
        }
    }

    /** "ASK: the console says "k?", 10 (k the job's digit); the job waits for a reply." */
    private static void asking() {
        DrumLayers x = Bench.begun(9, 0, Bench.SET + 6, Bench.ASK, Bench.JUMP + 2);
        x.tick(2);
        Bench.dueSaid("job 0", x, "0?\n");
        Bench.due("a reply", x.process(0, 1), 5);
        Bench.due("no step", x.job(0, 2), 1);
        Bench.due("A is as it was", x.job(0, 4), 6);
        x.tick(50);
        Bench.dueSaid("once", x, "0?\n");
        x = new DrumLayers(4, 1, 9);
        for (int k = 0; k < 6; k++) {
            Bench.submit(x, 0, Bench.ASK);
        }
        Bench.line(x, "A5");
        Bench.go(x, 10);
        Bench.dueSaid("job 5", x, "5?\n");
    }

    private static DrumLayers asked() {
        DrumLayers x = Bench.begun(9, 0, Bench.SET + 50, Bench.ASK, Bench.JUMP + 2);
        x.tick(2);
        return x;
    }

    /** "R", digit, a blank, perhaps "-", 1 to 9 digits: of none, of each number of them, of 10 and more. */
    private static void repliesOfSoManyDigits() {
        StringBuilder digits = new StringBuilder();
        for (int count = 0; count <= 12; count++) {
            for (int sign = 0; sign <= 1; sign++) {
                DrumLayers x = asked();
                Bench.line(x, "R0 " + (sign == 1 ? "-" : "") + digits);
                boolean good = count >= 1 && count <= 9;
                x.tick(1);
                long number = good ? Long.parseLong(digits.toString()) : 50;
                String what = count + " digits" + (sign == 1 ? " behind a -" : "");
                Bench.due(what + ": A", x.job(0, 4), good && sign == 1 ? -number : number);
                Bench.due(what + ": the wait", x.process(0, 1), good ? 0 : 5);
                Bench.due(what + ": steps", x.job(0, 2), good ? 2 : 1);
                Bench.dueSaid(what, x, good ? "0?\n" : "0?\n?\n");
            }
            digits.append((char) ('0' + (9 - count % 10)));
        }
        DrumLayers x = asked();
        Bench.line(x, "R0 0000000001");
        x.tick(1);
        Bench.due("ten digits, though a small number", x.process(0, 1), 5);
        x = asked();
        Bench.line(x, "R0 000000001");
        x.tick(1);
        Bench.due("nine digits, a small number", x.job(0, 4), 1);
        for (int b = 32; b <= 126; b++) {
            boolean isDigit = b >= '0' && b <= '9';
            x = asked();
            Bench.line(x, "R0 4" + (char) b);
            x.tick(1);
            Bench.due("a digit and sign " + b, x.job(0, 4), isDigit ? 40 + b - '0' : 50);
            x = asked();
            Bench.line(x, "R0 " + (char) b);
            x.tick(1);
            Bench.due("sign " + b + " alone", x.job(0, 4), isDigit ? b - '0' : 50);
            x = asked();
            Bench.line(x, "R0" + (char) b + "7");
            x.tick(1);
            Bench.due("sign " + b + " where the blank is", x.job(0, 4), b == ' ' ? 7 : 50);
        }
    }

    /** "a job that waits for a reply": not one that waits for something else, or for nothing. */
    private static void repliesAreNotWaitedFor() {
        DrumLayers x = Bench.begun(1, 1, Bench.GET, Bench.JUMP + 1);
        Bench.line(x, "R0 7");
        x.tick(6);
        Bench.dueSaid("one that is ready", x, "?\n");
        Bench.due("A", x.job(0, 4), 0);
        x = withCards(1, 1, Bench.GET, Bench.READ, Bench.JUMP + 2);
        x.tick(3);
        Bench.line(x, "R0 7");
        x.tick(1);
        Bench.dueSaid("one that waits for a card", x, "?\n");
        Bench.due("it waits, still", x.process(0, 1), 2);
        x = new DrumLayers(4, 1, 9);
        Bench.submit(x, 0, Bench.ASK);
        Bench.line(x, "R0 7");
        x.tick(1);
        Bench.dueSaid("one that waits for admission", x, "?\n");
        Bench.line(x, "R1 7");
        x.tick(1);
        Bench.dueSaid("no job", x, "?\n?\n");
        x = Bench.begun(9, 0, Bench.END);
        x.tick(2);
        Bench.line(x, "R0 7");
        x.tick(1);
        Bench.dueSaid("one that is over", x, "0=1\n?\n");
    }

    /** "Any other line": too short, too long, of another letter. */
    private static void linesOfTheirLength() {
        String[] wrong = {"", "A", "C", "R", "A0 ", "A00", "A0A", " A0", "C0 ", "C00", "R0", "R0 ", "a0", "c0",
            "B0", "D0", "@0", "A 0", "A-0", "0", "00", "?", "A0A0A0A0A0A0A0A0A0A0", "12345678901234567890"};
        for (String text : wrong) {
            DrumLayers x = asked();
            Bench.submit(x, 0, Bench.ASK);
            Bench.line(x, text.replace('0', text.startsWith("A") ? '1' : '0'));
            x.tick(1);
            Bench.dueSaid("line <" + text + ">", x, "0?\n?\n");
            Bench.due("line <" + text + ">: 0 waits", x.process(0, 1), 5);
            Bench.due("line <" + text + ">: 0 is not told", x.job(0, 12), 0);
            Bench.due("line <" + text + ">: 1 is not admitted", x.job(1, 0), 1);
        }
    }

    /** The digit of a job is 0 to 5: 6 to 9, and the signs beside 0 and 9, are no job's. */
    private static void jobsOfTheirNumber() {
        for (int b = 32; b <= 126; b++) {
            DrumLayers x = new DrumLayers(12, 1, 9);
            for (int k = 0; k < 6; k++) {
                Bench.submit(x, 0, Bench.ASK);
            }
            boolean good = b >= '0' && b <= '5';
            Bench.line(x, "A" + (char) b);
            Bench.go(x, 8);
            Bench.due("A and sign " + b, x.about(8), good ? 1 : 0);
            Bench.line(x, "R" + (char) b + " 7");
            Bench.line(x, "C" + (char) b);
            Bench.go(x, 8);
            for (int k = 0; k < 6; k++) {
                Bench.due("R and sign " + b + " for " + k, x.job(k, 4), b - '0' == k ? 7 : 0);
                Bench.due("C and sign " + b + " for " + k, x.job(k, 12), b - '0' == k ? 1 : 0);
            }
            Bench.due("? for sign " + b, x.octet(0) == '?', !good);
        }
    }

    /** "twice as many jobs as are admitted (not over) then are not more than frames" */
    private static void admissionJustReached() {
        for (int frames = 4; frames <= 12; frames++) {
            DrumLayers x = new DrumLayers(frames, 1, 9);
            for (int k = 0; k < 6; k++) {
                Bench.submit(x, 0, Bench.ASK);
            }
            int said = 0;
            for (int k = 0; k < 6; k++) {
                Bench.line(x, "A" + k);
                x.tick(1);
                boolean good = 2 * (k + 1) <= frames;
                said += good ? 0 : 2;
                Bench.due(frames + " frames: job " + k, x.job(k, 0), good ? 2 : 1);
                Bench.due(frames + " frames: said behind " + k, x.about(7), said);
                drumOnly(x, 8);
                said += good ? 3 : 0;
            }
            Bench.due(frames + " frames: admitted", x.about(8), frames / 2);
        }
    }

    /** One that is over makes room for another, one that is ENDING does not. */
    private static void admissionCountsThoseNotOver() {
        DrumLayers x = new DrumLayers(4, 1, 9);
        for (int k = 0; k < 4; k++) {
            Bench.submit(x, 6, Bench.GET + 1, Bench.GET + 2, Bench.PRINT, Bench.END);
        }
        Bench.line(x, "A0");
        Bench.line(x, "A1");
        drumOnly(x, 20);
        Bench.due("0 is ENDING", x.process(0, 1), 4);
        Bench.line(x, "A2");
        x.tick(1);
        Bench.dueSaid("two are not over", x, "?\n");
        x.done(2);
        drumOnly(x, 12);
        Bench.due("0 is over", x.job(0, 0), 3);
        Bench.line(x, "A2");
        x.tick(2);
        Bench.due("2 is admitted", x.job(2, 0), 2);
        Bench.line(x, "A3");
        x.tick(2);
        Bench.due("3 is not", x.job(3, 0), 1);
    }

    /** ""Ck": a job that is admitted, not over" */
    private static void cancelOnlyTheAdmitted() {
        DrumLayers x = new DrumLayers(4, 1, 9);
        Bench.line(x, "C0");
        x.tick(1);
        Bench.dueSaid("no job", x, "?\n");
        Bench.submit(x, 0, Bench.END);
        Bench.line(x, "C0");
        x.tick(1);
        Bench.dueSaid("it waits for admission", x, "?\n?\n");
        Bench.due("not told", x.job(0, 12), 0);
        Bench.begin(x, 0);
        x.tick(2);
        Bench.due("over", x.job(0, 0), 3);
        Bench.line(x, "C0");
        x.tick(1);
        Bench.dueSaid("it is over", x, "?\n?\n0=1\n?\n");
        Bench.due("not told", x.job(0, 12), 0);
    }

    /** One in the ready row is told, keeps its place, and ends in its own step. */
    private static void cancelOfOneInTheReadyRow() {
        DrumLayers x = Bench.begun(1, 0, Bench.JUMP);
        Bench.line(x, "C0");
        x.tick(1);
        Bench.due("the console is the first", x.process(9, 0), 0);
        int steps = x.job(0, 2);
        x.tick(1);
        Bench.due("told", x.job(0, 12), 1);
        Bench.due("its place", x.process(0, 0), 0);
        Bench.due("not twice in the row", Bench.order(x, 2), "00");
        Bench.due("no step more", x.job(0, 2), steps);
        Bench.dueSaid("cancelled", x, "0=5\n");
        Bench.due("gone", Bench.order(x, 2), "--");
    }

    /** "if it waits for a reply, or in the row of GETS .., it is woken": for nothing else. */
    private static void cancelOfOneThatWaits() {
        DrumLayers x = withCards(1, 1, Bench.GET, Bench.READ, Bench.JUMP + 2);
        x.tick(3);
        dueToldNotWoken("a card", x, 2);
        x.done(1);
        x.tick(1);
        Bench.due("the card came first", x.job(0, 9), 1);
        Bench.due("and READ was done", x.job(0, 2), 2);
        x.tick(2);
        Bench.due("then it is cancelled", x.job(0, 1), 5);
        x = Bench.begun(9, 6, printer(1));
        x.tick(40);
        dueToldNotWoken("room", x, 3);
        int steps = x.job(0, 2);
        Bench.go(x, 20);
        Bench.due("cancelled without the line that waited", x.job(0, 10), 4);
        Bench.due("no step more", x.job(0, 2), steps);
        Bench.due("cancelled", x.job(0, 1), 5);
        x = Bench.begun(9, 6, Bench.GET + 1, Bench.GET + 2, Bench.PRINT, Bench.GIVE + 1, Bench.JUMP + 4);
        x.tick(10);
        dueToldNotWoken("empty lines", x, 4);
        Bench.go(x, 8);
        Bench.due("the GIVE was not done", x.job(0, 2), 3);
        Bench.due("cancelled", x.job(0, 1), 5);
        Bench.due("it held the printer", x.job(0, 7), 1);
    }

    private static void dueToldNotWoken(String what, DrumLayers x, int cause) {
        Bench.due("it waits for " + what, x.process(0, 1), cause);
        Bench.line(x, "C0");
        x.tick(2);
        Bench.due("told while it waits for " + what, x.job(0, 12), 1);
        Bench.due("it waits, still, for " + what, x.process(0, 1), cause);
        Bench.due("not in the ready row", x.process(0, 0), -1);
    }

    private static void cancelOfOneThatWaitsForAReply() {
        DrumLayers x = asked();
        Bench.line(x, "C0");
        Bench.line(x, "R0 7");
        x.tick(2);
        Bench.due("woken", x.process(0, 1), 0);
        Bench.dueSaid("then it waits for a reply no more", x, "0?\n?\n");
        Bench.due("A is as it was", x.job(0, 4), 50);
        x.tick(2);
        Bench.due("cancelled", x.job(0, 1), 5);
        Bench.due("ASK was not done", x.job(0, 2), 1);
    }

    /** "the first line of the job that holds it": not of others, also if they hold pages, or held it. */
    private static void printsForTheOneThatHoldsThePrinter() {
        DrumLayers x = new DrumLayers(6, 3, 9);
        Bench.submit(x, 2 + 4, Bench.GET + 2, Bench.ASK);
        Bench.submit(x, 2 + 4, Bench.GET + 1, Bench.GET + 2, Bench.SET + 9, Bench.PRINT, Bench.SET + 8,
                Bench.PRINT, Bench.ASK);
        Bench.submit(x, 2 + 4, Bench.GET + 2, Bench.ASK);
        for (int k = 0; k < 3; k++) {
            Bench.line(x, "A" + k);
            Bench.go(x, 14);
        }
        int[] pages = {1, 1, 1};
        int[] lines = {0, 2, 0};
        for (int k = 0; k < 3; k++) {
            Bench.due("pages of " + k, x.job(k, 8), pages[k]);
            Bench.due("lines on the paper of " + k, x.job(k, 10), lines[k]);
            Bench.due("lines not yet there of " + k, x.job(k, 11), 0);
        }
        Bench.due("the first line", x.paper(1, 0), 9);
        Bench.due("the second line", x.paper(1, 1), 8);
        x = new DrumLayers(4, 1, 9);
        Bench.submit(x, 6, Bench.GET + 1, Bench.GET + 2, Bench.SET + 1, Bench.PRINT, Bench.GIVE + 1,
                Bench.GIVE + 2, Bench.ASK);
        Bench.submit(x, 6, Bench.GET + 1, Bench.GET + 2, Bench.SET + 2, Bench.PRINT, Bench.ASK);
        for (int k = 0; k < 2; k++) {
            Bench.line(x, "A" + k);
            Bench.go(x, 20);
            Bench.due("one line of " + k, x.job(k, 10), 1);
            Bench.due("its line", x.paper(k, 0), k + 1);
        }
        Bench.due("0 has one, still", x.job(0, 10), 1);
    }

    /** A new job of a number has its own cards, from the first one on. */
    private static void cardsOfANewJob() {
        DrumLayers x = withCards(2, 1, Bench.GET, Bench.READ, Bench.READ, Bench.END);
        Bench.go(x, 20);
        Bench.due("two cards were read", x.job(0, 9), 2);
        Bench.due("over", x.job(0, 0), 3);
        Bench.deck(x, new int[] {Bench.GET, Bench.READ, Bench.ASK, Bench.READ}, new int[] {77}, 1, 50, 1);
        Bench.due("none was read of the new ones", x.job(0, 9), 0);
        Bench.line(x, "A0");
        Bench.go(x, 12);
        Bench.due("its first card", x.job(0, 4), 77);
        Bench.due("one was read", x.job(0, 9), 1);
        Bench.line(x, "R0 1");
        Bench.go(x, 4);
        Bench.due("no card is left", x.job(0, 1), 4);
    }

    /** A line is what was typed for it: nothing is left of longer lines that came before. */
    private static void nothingOfEarlierLines() {
        String[][] rows = {{"A1", "A"}, {"A1", ""}, {"C0", "C"}, {"C0", ""}, {"R0 7", "R0 "}, {"R0 7", "R0"},
            {"R0 7", "R"}, {"R0 7", ""}, {"R0 -7", "R0 -"}, {"R0 -7", "R0 "}};
        for (String[] row : rows) {
            DrumLayers x = new DrumLayers(4, 1, 9);
            Bench.submit(x, 0, Bench.SET + 50, Bench.ASK);
            for (int i = 0; i < 8; i++) {
                Bench.line(x, row[0]);
            }
            x.tick(8);
            Bench.due("all are wrong before 0 is admitted", x.about(7), 16);
            Bench.begin(x, 0);
            x.tick(2);
            Bench.due("0 waits for a reply", x.process(0, 1), 5);
            Bench.submit(x, 0, Bench.ASK);
            for (int i = 0; i < 8; i++) {
                Bench.line(x, row[1]);
                x.tick(1);
            }
            String what = "<" + row[1] + "> behind <" + row[0] + ">";
            Bench.due(what + " is wrong", x.about(7), 16 + 3 + 16);
            Bench.due(what + ": 0 waits for a reply, still", x.process(0, 1), 5);
            Bench.due(what + ": 0 is not told", x.job(0, 12), 0);
            Bench.due(what + ": 1 waits for admission", x.job(1, 0), 1);
        }
    }
}
