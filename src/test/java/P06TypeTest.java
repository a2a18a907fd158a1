/** Promise 6: bytes, lines, and what the console does with them. */
public final class P06TypeTest {
    public static void main(String[] args) {
        bytes();
        byteEdges();
        refusedByteIsNotInTheLine();
        lengths();
        twentyBytesAndEightLines();
        rows();
        wrongLines();
        admission();
        cancelling();
        replies();
        Bench.finish();
    }

    private static void bytes() {
        DrumLayers x = new DrumLayers(4, 1, 1);
        for (int b = -3; b <= 300; b++) {
            Bench.due("type(" + b + ")", x.type(b), b == 10 || b >= 32 && b <= 126 && b < 52);
        }
        for (int e : Bench.EXTREMES) {
            Bench.due("type(" + e + ")", x.type(e), false);
        }
        DrumLayers y = new DrumLayers(4, 1, 1);
        for (int b = 32; b <= 126; b++) {
            Bench.due("type(" + b + ") on a new line", y.type(b), true);
            y.type(10);
            y.tick(1);
        }
    }

    /** "A byte is typed (10, 32 to 126): true. False: another byte": each on a line of its own. */
    private static void byteEdges() {
        int[] good = {10, 32, 33, 125, 126};
        int[] wrong = {-246, -1, 0, 9, 11, 13, 31, 127, 128, 255, 266, 288, 382, 65546, Integer.MIN_VALUE,
            Integer.MAX_VALUE};
        for (int b : good) {
            Bench.due("type(" + b + ")", new DrumLayers(4, 1, 1).type(b), true);
        }
        for (int b : wrong) {
            DrumLayers x = new DrumLayers(4, 1, 1);
            Bench.due("type(" + b + ")", x.type(b), false);
            Bench.due("type(" + b + ") is no line", x.about(10), 0);
            Bench.due("type(" + b + ") wakes nobody", x.process(9, 0), -1);
        }
    }

    private static void refusedByteIsNotInTheLine() {
        int[] wrong = {9, 11, 31, 127, -1, 255};
        for (int b : wrong) {
            DrumLayers x = new DrumLayers(4, 1, 1);
            x.submit(0, 0, 1, 1, 0);
            x.type('A');
            Bench.due("type(" + b + ")", x.type(b), false);
            x.type('0');
            x.type(10);
            x.tick(1);
            Bench.due("the line is A0", x.job(0, 0), 2);
        }
    }

    /** "a line of 20 bytes already (but for 10), or 8 lines in the row (for 10)": both at once. */
    private static void twentyBytesAndEightLines() {
        DrumLayers x = new DrumLayers(4, 1, 1);
        for (int i = 0; i < 8; i++) {
            x.type(10);
        }
        for (int i = 1; i <= 21; i++) {
            Bench.due("byte " + i + " behind eight lines", x.type('x'), i <= 20);
        }
        Bench.due("no ninth line", x.type(10), false);
        Bench.due("no byte 21 either", x.type('x'), false);
        Bench.due("eight wait", x.about(10), 8);
        x.tick(1);
        Bench.due("no byte 21, still", x.type('x'), false);
        Bench.due("but the line", x.type(10), true);
        Bench.due("a byte of the next line", x.type('x'), true);
        Bench.due("no ninth line again", x.type(10), false);
        x.tick(8);
        Bench.due("nine wrong lines", x.about(7), 18);
        Bench.due("none waits", x.about(10), 0);
        Bench.due("the line that was refused", x.type(10), true);
        x.tick(1);
        Bench.due("ten wrong lines", x.about(7), 20);
    }

    /** "a line of 20 bytes already (but for 10)" */
    private static void lengths() {
        DrumLayers x = new DrumLayers(4, 1, 1);
        for (int i = 1; i <= 22; i++) {
            Bench.due("byte " + i, x.type('x'), i <= 20);
        }
        Bench.due("the end of the line", x.type(10), true);
        Bench.due("a new line", x.type('x'), true);
        x.submit(0, 0, 1, 1, 0);
        x.type(10);
        Bench.line(x, "A0");
        x.tick(3);
        Bench.dueSaid("both are wrong", x, "?\n?\n");
        Bench.due("the third is right", x.job(0, 0), 2);
    }

    private static void rows() {
        DrumLayers x = new DrumLayers(4, 1, 1);
        x.submit(0, 0, 1, 1, 0);
        for (int i = 1; i <= 8; i++) {
            x.type('q');
            Bench.due("line " + i, x.type(10), true);
            Bench.due("lines that wait", x.about(10), i);
        }
        Bench.due("a byte behind eight lines", x.type('A'), true);
        Bench.due("another", x.type('0'), true);
        Bench.due("but no line", x.type(10), false);
        Bench.due("eight wait", x.about(10), 8);
        x.tick(1);
        Bench.due("seven wait", x.about(10), 7);
        Bench.due("the line is as it was", x.type(10), true);
        Bench.due("eight wait again", x.about(10), 8);
        x.tick(7);
        Bench.due("not yet admitted", x.job(0, 0), 1);
        x.tick(1);
        Bench.due("in the order of their typing", x.job(0, 0), 2);
        Bench.due("none waits", x.about(10), 0);
        Bench.due("what was said", x.about(7), 16);
    }

    private static void wrongLines() {
        String[] lines = {"", "A", "a0", "A0 ", " A0", "A00", "A6", "A9", "AA", "C", "C0", "C00", "R0 1",
            "R0", "R0 ", "B0", "?", "A1", "0", "A-", "R0 5", "C5", "A:", "A/"};
        for (String text : lines) {
            DrumLayers x = new DrumLayers(4, 1, 1);
            x.submit(0, 0, 1, 1, 0);
            Bench.line(x, text);
            x.tick(2);
            Bench.dueSaid("line <" + text + ">", x, "?\n");
            Bench.due("line <" + text + "> leaves the job", x.job(0, 0), 1);
        }
    }

    private static void admission() {
        int[][] most = {{4, 2}, {5, 2}, {6, 3}, {7, 3}, {8, 4}, {11, 5}, {12, 6}};
        for (int[] row : most) {
            DrumLayers x = new DrumLayers(row[0], 1, 1);
            for (int k = 0; k < 6; k++) {
                Bench.submit(x, 0, Bench.JUMP);
            }
            for (int k = 5; k >= 0; k--) {
                Bench.line(x, "A" + k);
                x.tick(20);
            }
            Bench.due("admitted with " + row[0] + " frames", x.about(8), row[1]);
            Bench.due("the others were refused", x.about(7), 2 * (6 - row[1]));
            Bench.due("the last one", x.job(6 - row[1], 0), 2);
        }
        DrumLayers x = new DrumLayers(4, 1, 1);
        x.submit(0, 0, 1, 1, 0);
        Bench.line(x, "A0");
        Bench.line(x, "A0");
        x.tick(4);
        Bench.dueSaid("admitted already", x, "?\n");
        Bench.go(x, 20);
        Bench.line(x, "A0");
        Bench.go(x, 2);
        Bench.dueSaid("over already", x, "?\n0=1\n?\n");
    }

    private static void cancelling() {
        DrumLayers x = new DrumLayers(4, 1, 1);
        Bench.submit(x, 0, Bench.ASK, Bench.JUMP);
        Bench.line(x, "A0");
        Bench.go(x, 10);
        Bench.due("it waits for a reply", x.process(0, 1), 5);
        Bench.line(x, "C0");
        x.tick(1);
        Bench.due("told", x.job(0, 12), 1);
        Bench.due("woken", x.process(0, 1), 0);
        Bench.due("ready", x.process(0, 0), 0);
        x.tick(1);
        Bench.due("not yet over", x.job(0, 0), 2);
        x.tick(1);
        Bench.due("over", x.job(0, 0), 3);
        Bench.due("cancelled", x.job(0, 1), 5);
        Bench.due("no step", x.job(0, 2), 0);
        Bench.due("told, still", x.job(0, 12), 1);
        Bench.line(x, "C0");
        x.tick(1);
        Bench.dueSaid("over", x, "0?\n0=5\n?\n");
        whileItWaitsForASegment();
        whileItWaitsForAResource();
    }

    private static void whileItWaitsForASegment() {
        DrumLayers x = new DrumLayers(4, 1, 1);
        Bench.submit(x, 0, Bench.JUMP);
        Bench.line(x, "A0");
        x.tick(3);
        Bench.line(x, "C0");
        Bench.line(x, "C0");
        x.tick(5);
        Bench.due("told", x.job(0, 12), 1);
        Bench.due("it waits still", x.process(0, 1), 1);
        Bench.dueSaid("told twice is no fault", x, "");
        x.done(0);
        x.tick(3);
        Bench.dueSaid("then it ends", x, "0=5\n");
    }

    private static void whileItWaitsForAResource() {
        DrumLayers x = new DrumLayers(6, 1, 1);
        Bench.submit(x, 1, Bench.GET, Bench.ASK, Bench.GIVE, Bench.JUMP + 3);
        Bench.submit(x, 1, Bench.GET, Bench.JUMP + 1);
        Bench.submit(x, 1, Bench.GET, Bench.JUMP + 1);
        Bench.line(x, "A0");
        Bench.go(x, 10);
        Bench.line(x, "A1");
        Bench.line(x, "A2");
        Bench.go(x, 30);
        Bench.due("1 waits for the reader", x.process(1, 1), 6);
        Bench.due("2 waits for the reader", x.process(2, 1), 6);
        Bench.line(x, "C1");
        x.tick(1);
        Bench.due("1 is woken", x.process(1, 1), 0);
        Bench.due("1 is ready", x.process(1, 0), 0);
        x.tick(2);
        Bench.due("1 is over", x.job(1, 0), 3);
        Bench.submit(x, 1, Bench.JUMP);
        Bench.line(x, "A1");
        x.tick(1);
        Bench.line(x, "R0 1");
        Bench.go(x, 12);
        Bench.due("the old 1 left the row of GETS", x.job(1, 6), 0);
        Bench.due("2 has the reader", x.job(2, 6), 1);
        Bench.dueSaid("1 is cancelled", x, "0?\n1=5\n");
    }

    private static void replies() {
        dueReply("R0 0", 0);
        dueReply("R0 7", 7);
        dueReply("R0 -7", -7);
        dueReply("R0 007", 7);
        dueReply("R0 -0", 0);
        dueReply("R0 999999999", 999999999);
        dueReply("R0 -999999999", -999999999);
        String[] wrong = {"R0", "R0 ", "R0 -", "R0  1", "R0 1 ", "R0 +1", "R0 --1", "R0 1000000000",
            "R0 -1000000000", "R01", "R0-1", "R1 1", "R6 1", "r0 1", "R0 1a", "R 0 1", "R0 -1-",
            "R0_1", "A0", "R0 12345678901234567"};
        for (String text : wrong) {
            DrumLayers x = asked();
            Bench.line(x, text);
            x.tick(2);
            Bench.dueSaid("line <" + text + ">", x, "0?\n?\n");
            Bench.due("line <" + text + "> wakes nobody", x.process(0, 1), 5);
        }
    }

    private static DrumLayers asked() {
        DrumLayers x = new DrumLayers(4, 1, 1);
        Bench.submit(x, 0, Bench.SET + 50, Bench.ASK, Bench.JUMP + 2);
        Bench.line(x, "A0");
        Bench.go(x, 10);
        Bench.due("it waits for a reply", x.process(0, 1), 5);
        return x;
    }

    private static void dueReply(String text, int a) {
        DrumLayers x = asked();
        Bench.line(x, text);
        x.tick(1);
        Bench.due("<" + text + ">", x.job(0, 4), a);
        Bench.due("<" + text + "> steps", x.job(0, 2), 2);
        Bench.due("<" + text + "> PLACE", x.job(0, 3), 2);
        Bench.due("<" + text + "> wakes", x.process(0, 0), 0);
        Bench.line(x, text);
        x.tick(2);
        Bench.dueSaid("<" + text + "> again", x, "0?\n?\n");
    }
}
