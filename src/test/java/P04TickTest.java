/** Promise 4: the number of the ticks, the ready row, and what steps do in them. */
public final class P04TickTest {
    public static void main(String[] args) {
        numbers();
        refusedDoesNothing();
        manyAreAsManyOnes();
        aJobFromTickToTick();
        instructions();
        traps();
        limit();
        turns();
        Bench.finish();
    }

    private static void numbers() {
        DrumLayers x = new DrumLayers(4, 1, 1);
        Bench.due("tick(0) at first", x.tick(0), 0);
        Bench.due("tick(1)", x.tick(1), 1);
        Bench.due("tick(200)", x.tick(200), 201);
        Bench.due("tick(201)", x.tick(201), -1);
        Bench.due("tick(-1)", x.tick(-1), -1);
        for (int e : Bench.EXTREMES) {
            Bench.due("tick(" + e + ")", x.tick(e), -1);
        }
        Bench.due("tick(0)", x.tick(0), 201);
    }

    /** "NONE for others": no step is done then, and no number rises. */
    private static void refusedDoesNothing() {
        int[] others = {-1, 201, Integer.MIN_VALUE, Integer.MAX_VALUE};
        for (int n : others) {
            DrumLayers x = Bench.begun(1, 0, Bench.JUMP);
            Bench.due("tick(" + n + ")", x.tick(n), -1);
            Bench.due("tick(" + n + ") does no step", x.job(0, 2), 0);
            Bench.due("tick(" + n + ") is no tick", x.about(0), 4);
            Bench.due("tick(0) does nothing", x.tick(0), 4);
            Bench.due("tick(0) does no step", x.job(0, 2), 0);
            Bench.due("tick(200)", x.tick(200), 204);
            Bench.due("tick(200) does 200 steps", x.job(0, 2), 200);
        }
    }

    private static void manyAreAsManyOnes() {
        DrumLayers x = Bench.begun(3, 0, Bench.JUMP);
        DrumLayers y = Bench.begun(3, 0, Bench.JUMP);
        x.tick(199);
        for (int i = 0; i < 199; i++) {
            y.tick(1);
        }
        Bench.due("199 and 199 times 1", x.about(0), y.about(0));
        Bench.due("steps", x.job(0, 2), y.job(0, 2));
        Bench.due("199 steps", x.job(0, 2), 199);
    }

    private static void aJobFromTickToTick() {
        DrumLayers x = new DrumLayers(4, 1, 1);
        Bench.submit(x, 0, Bench.SET + 5, Bench.END);
        Bench.line(x, "A0");
        Bench.due("the console is ready", x.process(9, 0), 0);
        x.tick(1);
        Bench.due("admitted", x.job(0, 0), 2);
        Bench.due("the job is ready", x.process(0, 0), 0);
        Bench.due("the console waits", x.process(9, 1), 7);
        x.tick(1);
        Bench.due("it waits for a segment", x.process(0, 1), 1);
        Bench.due("SEGMENTS is ready", x.process(6, 0), 0);
        x.tick(1);
        Bench.due("the drum reads", x.about(1), 2);
        Bench.due("SEGMENTS waits for a device", x.process(6, 1), 8);
        x.tick(10);
        Bench.due("nothing goes on", x.job(0, 2), 0);
        Bench.due("done", x.done(0), true);
        Bench.due("SEGMENTS is ready again", x.process(6, 0), 0);
        x.tick(1);
        Bench.due("the job is ready again", x.process(0, 0), 0);
        Bench.due("SEGMENTS waits for its work", x.process(6, 1), 7);
        Bench.due("no step yet", x.job(0, 2), 0);
        x.tick(1);
        Bench.due("A", x.job(0, 4), 5);
        Bench.due("a step", x.job(0, 2), 1);
        Bench.due("PLACE", x.job(0, 3), 1);
        x.tick(1);
        Bench.due("two steps", x.job(0, 2), 2);
        Bench.due("PLACE behind the end", x.job(0, 3), 2);
        Bench.due("not yet over", x.job(0, 0), 2);
        Bench.due("no outcome before it is over", x.job(0, 1), 0);
        Bench.due("not yet gone", x.process(0, 0), 0);
        x.tick(1);
        Bench.due("over", x.job(0, 0), 3);
        Bench.due("ended", x.job(0, 1), 1);
        Bench.due("gone", x.process(0, 0), -1);
        Bench.dueSaid("the console", x, "0=1\n");
    }

    private static void instructions() {
        dueA("SET", 255, Bench.SET + 255, Bench.END);
        dueA("LOAD", 41, Bench.LOAD + 2, Bench.END, 41);
        dueA("ADD", 44, Bench.SET + 3, Bench.ADD + 3, Bench.END, 41);
        dueA("ADD goes round", Integer.MIN_VALUE, Bench.SET + 1, Bench.ADD + 3, Bench.END,
                Integer.MAX_VALUE);
        dueA("SUB", -38, Bench.SET + 3, Bench.SUB + 3, Bench.END, 41);
        dueA("SUB goes round", Integer.MIN_VALUE, Bench.SUB + 2, Bench.END, Integer.MIN_VALUE);
        dueA("MUL", 123, Bench.SET + 3, Bench.MUL + 3, Bench.END, 41);
        dueA("MUL goes round", -2, Bench.SET + 2, Bench.MUL + 3, Bench.END, Integer.MAX_VALUE);
        dueA("DIV towards 0", -3, Bench.LOAD + 3, Bench.DIV + 4, Bench.END, -7, 2);
        dueA("DIV goes round", Integer.MIN_VALUE, Bench.LOAD + 3, Bench.DIV + 4, Bench.END,
                Integer.MIN_VALUE, -1);
        dueA("JUMP", 0, Bench.JUMP + 2, Bench.SET + 5, Bench.END);
        dueA("BELOW, below", -1, Bench.LOAD + 4, Bench.BELOW + 3, Bench.SET + 5, Bench.END, -1);
        dueA("BELOW, 0", 5, Bench.LOAD + 4, Bench.BELOW + 3, Bench.SET + 5, Bench.END, 0);
        dueA("BELOW, above", 5, Bench.LOAD + 4, Bench.BELOW + 3, Bench.SET + 5, Bench.END, 1);
        dueA("ZERO, 0", 0, Bench.ZERO + 2, Bench.SET + 5, Bench.END);
        dueA("ZERO, 1", 5, Bench.SET + 1, Bench.ZERO + 3, Bench.SET + 5, Bench.END);
        dueA("ZERO, -1", 5, Bench.LOAD + 4, Bench.ZERO + 3, Bench.SET + 5, Bench.END, -1);
        dueA("SETX, TAKEX", -9, Bench.SETX + 3, Bench.TAKEX, Bench.END, -9);
        dueA("LOADX", 78, Bench.SETX + 3, Bench.LOADX + 7, Bench.END, -2, 77, 78, 79);
        dueA("LOADX above 255", -6, Bench.SETX + 3, Bench.LOADX + 255, Bench.END, -251, -6);
        dueA("STORE", 7, Bench.SET + 7, Bench.STORE + 9, Bench.SET, Bench.LOAD + 9, Bench.END);
        dueA("STOREX", 7, Bench.SETX + 6, Bench.SET + 7, Bench.STOREX + 1, Bench.SET,
                Bench.LOAD + 9, Bench.END, 8);
        DrumLayers x = Bench.ran(0, Bench.JUMP + 2, 0, Bench.SETX + 4, Bench.END, 12);
        Bench.due("steps", x.job(0, 2), 3);
        Bench.due("PLACE", x.job(0, 3), 4);
        Bench.due("X", x.job(0, 5), 12);
    }

    private static void dueA(String what, int a, int... program) {
        DrumLayers x = Bench.ran(0, program);
        Bench.due(what + ", outcome", x.job(0, 1), 1);
        Bench.due(what + ", A", x.job(0, 4), a);
    }

    private static void traps() {
        dueTrap("a word below 0", 0, 0, 0, -1);
        dueTrap("the least word", 0, 0, 0, Integer.MIN_VALUE);
        dueTrap("kind 20", 0, 0, 0, 20 * 256);
        dueTrap("a great kind", 0, 0, 0, Integer.MAX_VALUE);
        dueTrap("an operand behind the segments", 0, 0, 0, Bench.LOAD + 16);
        dueTrap("a store behind the segments", 0, 0, 0, Bench.STORE + 255);
        dueTrap("X behind the segments", 1, 1, 0, Bench.SETX + 2, Bench.LOADX + 1, 15);
        dueTrap("X before the segments", 1, 1, 0, Bench.SETX + 2, Bench.STOREX + 1, -2);
        dueTrap("X far behind", 1, 1, 0, Bench.SETX + 2, Bench.LOADX + 255, Integer.MAX_VALUE);
        dueTrap("X far before", 1, 1, 0, Bench.SETX + 2, Bench.LOADX + 255, Integer.MIN_VALUE);
        dueTrap("by 0", 0, 0, 0, Bench.DIV + 5);
        dueTrap("PLACE behind the segments", 1, 16, 0, Bench.JUMP + 16);
        dueTrap("PLACE far behind", 1, 255, 0, Bench.JUMP + 255);
        dueTrap("GET 3", 0, 0, 31, Bench.GET + 3);
        dueTrap("GET 255", 0, 0, 31, Bench.GET + 255);
        dueTrap("GIVE 3", 0, 0, 31, Bench.GIVE + 3);
        dueTrap("GIVE of what it has not", 0, 0, 31, Bench.GIVE);
        dueTrap("READ without the reader", 0, 0, 31, Bench.READ);
        dueTrap("READ without a card", 1, 1, 31, Bench.GET, Bench.READ);
        dueTrap("PRINT without the printer", 1, 1, 31, Bench.GET + 2, Bench.PRINT);
        dueTrap("PRINT without a page", 1, 1, 31, Bench.GET + 1, Bench.PRINT);
        int[] full = new int[16];
        java.util.Arrays.fill(full, Bench.TAKEX);
        dueTrap("off the end", 16, 16, 0, full);
    }

    private static void dueTrap(String what, int steps, int place, int claims, int... program) {
        DrumLayers x = new DrumLayers(4, 6, 1);
        Bench.submit(x, claims == 31 ? 3 + 4 * 6 : claims, program);
        Bench.line(x, "A0");
        Bench.go(x, 100);
        Bench.due(what + ", outcome", x.job(0, 1), 4);
        Bench.due(what + ", steps", x.job(0, 2), steps);
        Bench.due(what + ", PLACE", x.job(0, 3), place);
        Bench.dueSaid(what, x, "0=4\n");
    }

    private static void limit() {
        DrumLayers x = new DrumLayers(4, 1, 3);
        x.feed(Bench.JUMP, 0, 0, 0);
        x.submit(1, 0, 1, 7, 0);
        Bench.line(x, "A0");
        Bench.go(x, 11);
        Bench.due("seven steps, not over", x.job(0, 2), 7);
        Bench.due("admitted still", x.job(0, 0), 2);
        Bench.go(x, 1);
        Bench.due("it begins to end", x.job(0, 0), 2);
        Bench.go(x, 1);
        Bench.due("over", x.job(0, 0), 3);
        Bench.due("limit", x.job(0, 1), 2);
        Bench.due("steps", x.job(0, 2), 7);
        x = new DrumLayers(4, 1, 3);
        x.submit(0, 0, 1, 1, 0);
        Bench.line(x, "A0");
        Bench.go(x, 30);
        Bench.due("the last step that is allowed is an end", x.job(0, 1), 1);
    }

    /** Two jobs that go round and round; each tick tells whose step it was. */
    private static void turns() {
        DrumLayers x = new DrumLayers(4, 1, 3);
        Bench.submit(x, 0, Bench.JUMP);
        Bench.submit(x, 0, Bench.JUMP);
        Bench.line(x, "A0");
        Bench.line(x, "A1");
        Bench.go(x, 40);
        StringBuilder order = new StringBuilder();
        for (int i = 0; i < 24; i++) {
            Bench.due("first of the row", x.process(0, 0) + x.process(1, 0), 1);
            order.append(x.process(0, 0) == 0 ? '0' : '1');
            x.tick(1);
        }
        Bench.due("turns of three: " + order, order.indexOf("000111000111000") >= 0, true);
        for (int i = 0; i < 50 && (x.process(0, 0) != 0 || x.process(1, 0) != 1); i++) {
            x.tick(1);
        }
        x.type('C');
        x.type(10);
        Bench.due("the console comes to the end of the row", x.process(9, 0), 2);
    }
}
