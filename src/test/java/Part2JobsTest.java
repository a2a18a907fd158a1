/** PART 2: the edges of addresses, words, arithmetic, of the LIMIT, and what comes first of two. */
public final class Part2JobsTest {
    private static final int[] NO_CARDS = {};
    private static final int MIN = Integer.MIN_VALUE;
    private static final int MAX = Integer.MAX_VALUE;

    public static void main(String[] args) {
        operandAtTheEndOfTheSegments();
        operandMovedByX();
        placeAtTheEndOfTheSegments();
        offTheEnd();
        jumpsAreTriedInTheNextStep();
        addressesThatStandInNoBrackets();
        wordsBelowZero();
        kinds();
        goingRound();
        divisions();
        divisionByZero();
        jumpsOnA();
        onlyWhatIsTold();
        limitJustReached();
        limitOf5000();
        limitCountsWhatOthersDid();
        limitBeforeTrap();
        cancelBeforeLimit();
        endingBeforeCancel();
        anEndIsDoneLikeOthers();
        trapIsNoStep();
        wantedIsNotDone();
        ownSegmentFirst();
        admittedAnew();
        behindTheProgramZero();
        Bench.finish();
    }

    private static DrumLayers ran(int segments, int... program) {
        DrumLayers x = new DrumLayers(4, 1, 9);
        Bench.deck(x, program, NO_CARDS, segments, 5000, 0);
        Bench.line(x, "A0");
        Bench.go(x, 60);
        return x;
    }

    /** "the address of what stands in [ ] below, are in the job's segments, or TRAP" */
    private static void operandAtTheEndOfTheSegments() {
        int[] kinds = {1, 2, 3, 4, 5, 6, 10};
        for (int segments = 1; segments <= 8; segments++) {
            int last = 16 * segments - 1;
            for (int kind : kinds) {
                DrumLayers x = ran(segments, Bench.words(16 * segments, 0, kind * 256 + last, last, 3));
                Bench.due("kind " + kind + ", the last word of " + segments, x.job(0, 1), 1);
                x = ran(segments, Bench.words(16 * segments, 0, kind * 256 + last + 1, last, 3));
                Bench.due("kind " + kind + ", the word behind " + segments, x.job(0, 1), 4);
                Bench.due("no step", x.job(0, 2), 0);
            }
        }
        for (int kind : kinds) {
            Bench.due("kind " + kind + ", address 255", ran(8, kind * 256 + 255).job(0, 1), 4);
        }
        Bench.due("the first word", ran(1, Bench.LOAD).job(0, 4), Bench.LOAD);
    }

    /** "11 A = [a + X]. 12 [a + X] = A.": at both ends of the segments, and beyond them. */
    private static void operandMovedByX() {
        for (int kind = 11; kind <= 12; kind++) {
            dueMoved(kind, 2, 0, -1, 4);
            dueMoved(kind, 2, 0, 0, 1);
            dueMoved(kind, 2, 5, -5, 1);
            dueMoved(kind, 2, 5, -6, 4);
            dueMoved(kind, 2, 255, -255, 1);
            dueMoved(kind, 2, 255, -256, 4);
            dueMoved(kind, 2, 0, 31, 1);
            dueMoved(kind, 2, 0, 32, 4);
            dueMoved(kind, 2, 31, 0, 1);
            dueMoved(kind, 2, 31, 1, 4);
            dueMoved(kind, 2, 255, -224, 1);
            dueMoved(kind, 2, 255, -223, 4);
            dueMoved(kind, 8, 127, 0, 1);
            dueMoved(kind, 8, 127, 1, 4);
            dueMoved(kind, 8, 255, MAX, 4);
            dueMoved(kind, 8, 0, MAX, 4);
            dueMoved(kind, 8, 255, MIN, 4);
            dueMoved(kind, 8, 0, MIN, 4);
        }
        Bench.due("A = [31]", ran(2, Bench.words(32, 0, Bench.SETX + 3, 1, Bench.LOADX + 255, 3, -224, 31, 66))
                .job(0, 4), 66);
    }

    private static void dueMoved(int kind, int segments, int a, int x, int outcome) {
        DrumLayers o = ran(segments, Bench.SETX + 3, kind * 256 + a, Bench.END, x);
        String what = "kind " + kind + ", " + segments + " segments, " + a + " + " + x;
        Bench.due(what, o.job(0, 1), outcome);
        Bench.due(what + ", steps", o.job(0, 2), outcome == 4 ? 1 : 3);
    }

    /** "PLACE .. in the job's segments, or TRAP": an instruction in the last word, and one behind it. */
    private static void placeAtTheEndOfTheSegments() {
        for (int segments = 1; segments <= 8; segments++) {
            int last = 16 * segments - 1;
            DrumLayers x = ran(segments, Bench.JUMP + last);
            Bench.due("PLACE at the last word of " + segments, x.job(0, 1), 1);
            Bench.due("PLACE behind the end", x.job(0, 3), last + 1);
            x = ran(segments, Bench.JUMP + last + 1);
            Bench.due("PLACE behind the last word of " + segments, x.job(0, 1), 4);
            Bench.due("PLACE is as it was", x.job(0, 3), last + 1);
            Bench.due("only the jump was a step", x.job(0, 2), 1);
        }
    }

    private static void offTheEnd() {
        DrumLayers x = ran(1, Bench.words(16, 0, Bench.JUMP + 15, 15, Bench.SET + 7));
        Bench.due("off the end, outcome", x.job(0, 1), 4);
        Bench.due("off the end, PLACE", x.job(0, 3), 16);
        Bench.due("the last word was done", x.job(0, 4), 7);
    }

    /** "7 PLACE = a": the jump itself is done, wherever it goes. */
    private static void jumpsAreTriedInTheNextStep() {
        DrumLayers x = Bench.begun(9, 0, Bench.JUMP + 255);
        x.tick(1);
        Bench.due("PLACE", x.job(0, 3), 255);
        Bench.due("a step", x.job(0, 2), 1);
        x.tick(1);
        Bench.due("TRAP: it is ENDING", x.job(0, 0), 2);
        Bench.due("no step more", x.job(0, 2), 1);
        x.tick(1);
        Bench.dueSaid("TRAP", x, "0=4\n");
    }

    /** Jumps that are not done, 0, 13 to 15, 18 and 19 look at no word of their address. */
    private static void addressesThatStandInNoBrackets() {
        DrumLayers x = new DrumLayers(4, 1, 1);
        int[] program = {Bench.GET, Bench.GET + 1, Bench.GET + 2, Bench.READ + 255, Bench.PRINT + 255,
            Bench.BELOW + 255, Bench.SET + 255, Bench.ZERO + 255, Bench.TAKEX + 255, Bench.ASK + 255,
            Bench.END + 255};
        Bench.deck(x, program, new int[] {9}, 1, 100, 7);
        Bench.line(x, "A0");
        Bench.go(x, 40);
        Bench.line(x, "R0 8");
        Bench.go(x, 20);
        Bench.due("outcome", x.job(0, 1), 1);
        Bench.due("steps", x.job(0, 2), program.length);
        Bench.due("the line", x.paper(0, 0), 9);
    }

    /** "(below 0, or a kind that is not told: TRAP)" */
    private static void wordsBelowZero() {
        int[] below = {-1, -255, -256, -257, -5 * 256, -18 * 256 - 7, MIN, MIN + 1};
        for (int word : below) {
            DrumLayers x = ran(1, word);
            Bench.due("word " + word, x.job(0, 1), 4);
            Bench.due("word " + word + ", no step", x.job(0, 2), 0);
            Bench.due("word " + word + ", PLACE", x.job(0, 3), 0);
        }
        Bench.due("word 0", ran(1, 0).job(0, 1), 1);
        Bench.due("word 255", ran(1, 255).job(0, 1), 1);
    }

    private static void kinds() {
        Bench.due("the last word that is told", ran(1, 19 * 256 + 255).job(0, 1), 1);
        Bench.due("the first one that is not", ran(1, 20 * 256).job(0, 1), 4);
        Bench.due("kind 20, address 255", ran(1, 20 * 256 + 255).job(0, 1), 4);
        Bench.due("kind 255", ran(1, 65535).job(0, 1), 4);
        Bench.due("kind 256 is not kind 0", ran(1, 65536).job(0, 1), 4);
        Bench.due("kind 65536 + 18", ran(1, (65536 + 18) * 256).job(0, 1), 4);
        Bench.due("the greatest word", ran(1, MAX).job(0, 1), 4);
    }

    /** "A + [a], A - [a], A * [a] (going round)" */
    private static void goingRound() {
        int[] some = {0, 1, -1, 2, -2, 46341, -46341, 65536, -65536, 1000000007, MAX, MAX - 1, MIN, MIN + 1};
        for (int a : some) {
            for (int b : some) {
                dueResult(Bench.ADD, a, b, round((long) a + b));
                dueResult(Bench.SUB, a, b, round((long) a - b));
                dueResult(Bench.MUL, a, b, round((long) a * b));
            }
        }
    }

    /** What is left of a number when it goes round at 2 to the 32nd, without Java's own cast. */
    private static long round(long value) {
        long low = Math.floorMod(value, 4294967296L);
        return low >= 2147483648L ? low - 4294967296L : low;
    }

    private static void dueResult(int instruction, int a, int b, long want) {
        DrumLayers x = Bench.begun(9, 0, Bench.LOAD + 3, instruction + 4, Bench.END, a, b);
        x.tick(2);
        Bench.due("kind " + instruction / 256 + " of " + a + " and " + b, x.job(0, 4), want);
        Bench.due("two steps", x.job(0, 2), 2);
    }

    /** "cut towards 0, -2147483648 / -1 is -2147483648" */
    private static void divisions() {
        int[][] rows = {{7, 2, 3}, {-7, 2, -3}, {7, -2, -3}, {-7, -2, 3}, {1, 2, 0}, {-1, 2, 0},
            {1, -2, 0}, {0, 5, 0}, {0, -1, 0}, {6, 3, 2}, {-6, 3, -2}, {MIN, -1, MIN}, {MIN, 1, MIN},
            {MIN, MIN, 1}, {MIN, MAX, -1}, {MAX, MIN, 0}, {MAX, -1, -MAX}, {MIN + 1, -1, MAX},
            {MIN, 2, -1073741824}, {MIN, -2, 1073741824}, {-1, MIN, 0}};
        for (int[] row : rows) {
            dueResult(Bench.DIV, row[0], row[1], row[2]);
        }
    }

    /** "by 0 TRAP" */
    private static void divisionByZero() {
        int[] some = {0, 1, -1, MIN, MAX};
        for (int a : some) {
            DrumLayers x = ran(1, Bench.LOAD + 3, Bench.DIV + 4, Bench.END, a, 0);
            Bench.due(a + " by 0", x.job(0, 1), 4);
            Bench.due(a + " by 0, A is as it was", x.job(0, 4), a);
            Bench.due(a + " by 0, no step", x.job(0, 2), 1);
            Bench.due(a + " by 0, PLACE", x.job(0, 3), 1);
        }
    }

    /** "8, 9 likewise if A is below 0, if A is 0" */
    private static void jumpsOnA() {
        int[] some = {MIN, -1, 0, 1, MAX};
        for (int a : some) {
            DrumLayers x = Bench.begun(9, 0, Bench.LOAD + 3, Bench.BELOW + 9, Bench.END, a);
            x.tick(2);
            Bench.due("8 with A " + a, x.job(0, 3), a < 0 ? 9 : 2);
            x = Bench.begun(9, 0, Bench.LOAD + 3, Bench.ZERO + 9, Bench.END, a);
            x.tick(2);
            Bench.due("9 with A " + a, x.job(0, 3), a == 0 ? 9 : 2);
        }
    }

    private static DrumLayers limited(int quantum, int limit, int claims, int... program) {
        DrumLayers x = new DrumLayers(4, 6, quantum);
        Bench.deck(x, program, new int[] {41, 42}, 1, limit, claims);
        Bench.begin(x, 0);
        return x;
    }

    /** "If it has done LIMIT instructions: with 2." */
    private static void limitJustReached() {
        for (int limit = 1; limit <= 4; limit++) {
            DrumLayers x = limited(9, limit, 0, Bench.TAKEX, Bench.TAKEX, Bench.END);
            Bench.go(x, 10);
            Bench.due("three steps to the end, limit " + limit, x.job(0, 1), limit < 3 ? 2 : 1);
            Bench.due("steps, limit " + limit, x.job(0, 2), Math.min(limit, 3));
        }
        DrumLayers x = limited(9, 2, 0, Bench.JUMP);
        x.tick(2);
        Bench.due("two steps", x.job(0, 2), 2);
        x.tick(1);
        Bench.due("the third is none", x.job(0, 2), 2);
        Bench.due("it is ENDING", x.job(0, 0), 2);
        x.tick(1);
        Bench.dueSaid("LIMIT", x, "0=2\n");
    }

    private static void limitOf5000() {
        DrumLayers x = limited(9, 5000, 0, Bench.JUMP);
        for (int i = 0; i < 24; i++) {
            x.tick(200);
        }
        x.tick(199);
        Bench.due("4999 steps", x.job(0, 2), 4999);
        x.tick(1);
        Bench.due("5000 steps", x.job(0, 2), 5000);
        Bench.due("admitted", x.job(0, 0), 2);
        x.tick(2);
        Bench.due("LIMIT", x.job(0, 1), 2);
        Bench.due("5000 steps, still", x.job(0, 2), 5000);
    }

    /** READ, ASK and a GET that waited are instructions, though other processes do them. */
    private static void limitCountsWhatOthersDid() {
        DrumLayers x = limited(1, 2, 1, Bench.GET, Bench.READ, Bench.TAKEX);
        Bench.go(x, 20);
        Bench.due("READ was the last one", x.job(0, 1), 2);
        Bench.due("its card came", x.job(0, 4), 41);
        x = limited(1, 1, 0, Bench.ASK, Bench.TAKEX);
        x.tick(1);
        Bench.line(x, "R0 5");
        Bench.go(x, 5);
        Bench.due("ASK was the last one", x.job(0, 1), 2);
        Bench.due("its reply came", x.job(0, 4), 5);
    }

    /** LIMIT is looked at before PLACE is. */
    private static void limitBeforeTrap() {
        DrumLayers x = limited(9, 1, 0, Bench.JUMP + 255);
        x.tick(3);
        Bench.dueSaid("LIMIT before TRAP", x, "0=2\n");
        x = limited(9, 2, 0, Bench.JUMP + 255);
        x.tick(3);
        Bench.dueSaid("TRAP within the LIMIT", x, "0=4\n");
    }

    /** "If it is told to cancel: it begins to end with 5. If it has done LIMIT instructions: with 2." */
    private static void cancelBeforeLimit() {
        DrumLayers x = limited(9, 1, 0, Bench.ASK);
        x.tick(1);
        Bench.line(x, "R0 5");
        Bench.line(x, "C0");
        x.tick(2);
        Bench.due("LIMIT is reached", x.job(0, 2), 1);
        Bench.due("told to cancel", x.job(0, 12), 1);
        x.tick(2);
        Bench.dueSaid("CANCELLED before LIMIT", x, "0?\n0=5\n");
    }

    /** "if it is ENDING: PART 6. If it is told to cancel": an outcome that has begun stays. */
    private static void endingBeforeCancel() {
        int[][] rows = {{Bench.END, 1}, {Bench.GET, 3}, {-1, 4}};
        for (int[] row : rows) {
            DrumLayers x = Bench.begun(1, 0, row[0]);
            Bench.line(x, "C0");
            x.tick(2);
            Bench.due("told to cancel", x.job(0, 12), 1);
            Bench.due("ENDING", x.job(0, 0), 2);
            x.tick(1);
            Bench.due("the outcome is as it began", x.job(0, 1), row[1]);
            Bench.due("told to cancel, still", x.job(0, 12), 1);
        }
        DrumLayers x = limited(1, 1, 0, Bench.JUMP);
        x.tick(1);
        Bench.line(x, "C0");
        x.tick(3);
        Bench.due("LIMIT had begun", x.job(0, 1), 2);
    }

    /** "Kind 0: .. (it is done like others: a step, PLACE by 1, none PINNED)" */
    private static void anEndIsDoneLikeOthers() {
        DrumLayers x = Bench.begun(9, 0, Bench.END);
        Bench.due("PINNED when it came", x.frame(0, 3), 1);
        x.tick(1);
        Bench.due("a step", x.job(0, 2), 1);
        Bench.due("PLACE by 1", x.job(0, 3), 1);
        Bench.due("none PINNED", x.frame(0, 3), 0);
        Bench.due("not over in this step", x.job(0, 0), 2);
        Bench.due("nothing said in this step", x.about(7), 0);
        x.tick(1);
        Bench.due("over in its next one", x.job(0, 0), 3);
    }

    /** "TRAP: with 4 (no step)": what it did before stays. */
    private static void trapIsNoStep() {
        DrumLayers x = Bench.begun(9, 0, Bench.SET + 9, Bench.SETX + 3, -1, 77);
        x.tick(2);
        x.tick(1);
        Bench.due("steps", x.job(0, 2), 2);
        Bench.due("PLACE", x.job(0, 3), 2);
        Bench.due("ENDING", x.job(0, 0), 2);
        x.tick(1);
        int[] want = {3, 4, 2, 2, 9, 77};
        for (int what = 0; what < want.length; what++) {
            Bench.due("behind a TRAP, what " + what, x.job(0, what), want[what]);
        }
    }

    /** "A segment that is not in core is WANTED: the instruction is not done; .. tries .. anew." */
    private static void wantedIsNotDone() {
        DrumLayers x = new DrumLayers(4, 1, 9);
        Bench.deck(x, Bench.words(32, 0, Bench.ADD + 31, 31, 6), NO_CARDS, 2, 1, 0);
        Bench.begin(x, 0);
        x.tick(1);
        Bench.due("it waits", x.process(0, 1), 1);
        Bench.due("no step", x.job(0, 2), 0);
        Bench.due("PLACE", x.job(0, 3), 0);
        Bench.due("A", x.job(0, 4), 0);
        x.tick(1);
        x.done(0);
        x.tick(1);
        Bench.due("woken, not done", x.job(0, 2), 0);
        Bench.due("none waits", x.process(0, 1), 0);
        x.tick(1);
        Bench.due("done, once", x.job(0, 4), 6);
        Bench.due("a step within a LIMIT of 1", x.job(0, 2), 1);
    }

    /** "First the word's own segment, then that of the operand." */
    private static void ownSegmentFirst() {
        DrumLayers x = new DrumLayers(4, 1, 9);
        Bench.deck(x, Bench.words(48, 0, Bench.JUMP + 16, 16, Bench.LOAD + 32, 17, Bench.ASK), NO_CARDS,
                3, 9, 0);
        Bench.line(x, "A0");
        Bench.go(x, 30);
        Bench.due("the own segment came", x.frame(1, 1), 1);
        Bench.due("then the operand's", x.frame(2, 1), 2);
        Bench.due("brought", x.about(9), 3);
    }

    /** "ADMITTED .. it is woken, with A, X, PLACE 0, no steps, nothing held." */
    private static void admittedAnew() {
        DrumLayers x = Bench.ran(7, Bench.GET, Bench.GET + 1, Bench.GET + 2, Bench.SET + 5,
                Bench.SETX + 5, 33);
        Bench.due("the first one is over", x.job(0, 0), 3);
        Bench.submit(x, 7, Bench.JUMP);
        Bench.line(x, "A0");
        x.tick(1);
        Bench.due("admitted", x.job(0, 0), 2);
        for (int what = 1; what <= 12; what++) {
            Bench.due("admitted anew, what " + what, x.job(0, what), 0);
        }
        Bench.due("woken", x.process(0, 0), 0);
    }

    /** "its segments are on the drum: the program, behind it 0" also where an earlier job had words. */
    private static void behindTheProgramZero() {
        DrumLayers x = new DrumLayers(4, 1, 1);
        int[] full = new int[128];
        java.util.Arrays.fill(full, -7);
        Bench.deck(x, full, NO_CARDS, 8, 1, 0);
        Bench.due("the first job's last word", x.word(0, 127), -7);
        Bench.line(x, "A0");
        Bench.go(x, 20);
        Bench.due("over", x.job(0, 0), 3);
        Bench.deck(x, new int[] {5, 6, 7}, NO_CARDS, 8, 1, 0);
        Bench.due("the program's last word", x.word(0, 2), 7);
        for (int i = 3; i < 128; i++) {
            Bench.due("behind the program, word " + i, x.word(0, i), 0);
        }
    }

    /** Each kind sets A, X or PLACE as told, and leaves the others as they were. */
    private static void onlyWhatIsTold() {
        int[][] rows = {{Bench.LOAD, 3, 20}, {Bench.STORE, 12, 20}, {Bench.ADD, 15, 20}, {Bench.SUB, 9, 20},
            {Bench.MUL, 36, 20}, {Bench.DIV, 4, 20}, {Bench.SETX, 12, 3}, {Bench.SET, 31, 20},
            {Bench.TAKEX, 20, 20}, {Bench.BELOW, 12, 20}, {Bench.ZERO, 12, 20}};
        for (int[] row : rows) {
            DrumLayers x = new DrumLayers(4, 1, 9);
            Bench.deck(x, Bench.words(32, 0, Bench.SETX + 8, 1, Bench.SET + 12, 2, row[0] + 31, 3, Bench.ASK,
                    8, 20, 31, 3), NO_CARDS, 2, 50, 0);
            Bench.line(x, "A0");
            Bench.go(x, 20);
            String what = "kind " + row[0] / 256;
            Bench.due(what + ", A", x.job(0, 4), row[1]);
            Bench.due(what + ", X", x.job(0, 5), row[2]);
            Bench.due(what + ", PLACE", x.job(0, 3), 3);
            Bench.due(what + ", steps", x.job(0, 2), 3);
            Bench.due(what + ", the word", x.word(0, 31), row[0] == Bench.STORE ? 12 : 3);
        }
    }
}
