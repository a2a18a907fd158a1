import java.util.Random;
import java.util.TreeMap;

/** Long runs of drawn calls: after each one every answer of the class is the model's. */
public final class ModelTest {
    private static int wrong = 0;
    private static final TreeMap<String, Integer> SEEN = new TreeMap<>();

    private final Random random;
    private final DrumLayers real;
    private final Model model;
    private final StringBuilder calls = new StringBuilder();
    private final boolean chatty;

    private ModelTest(long seed) {
        random = new Random(seed);
        chatty = seed % 20 == 0;
        int frames = random.nextInt(4) == 0 ? random.nextInt(20) - 3 : 4 + random.nextInt(9);
        int pages = random.nextInt(10) - 1;
        int quantum = random.nextInt(12) - 1;
        real = new DrumLayers(frames, pages, quantum);
        model = new Model(frames, pages, quantum);
        calls.append("new(").append(frames).append(", ").append(pages).append(", ")
                .append(quantum).append(")");
    }

    public static void main(String[] args) {
        int runs = args.length > 0 ? Integer.parseInt(args[0]) : 400;
        for (int seed = 1; seed <= runs && wrong < 5; seed++) {
            new ModelTest(seed).run(seed % 20 == 0 ? 1200 : 60 + seed % 300);
        }
        mustHaveSeen();
        if (args.length > 0) {
            System.out.println(SEEN);
        }
        System.out.println(wrong == 0 ? "all answers are the model's" : wrong + " are not");
        if (wrong != 0) {
            System.exit(1);
        }
    }

    private static void mustHaveSeen() {
        for (String what : new String[] {"outcome 1", "outcome 2", "outcome 3", "outcome 4",
            "outcome 5", "waits 1", "waits 2", "waits 3", "waits 4", "waits 5", "waits 6",
            "drum 1", "over while written", "unsafe", "said 600", "lines 8"}) {
            if (!SEEN.containsKey(what)) {
                wrong++;
                System.out.println("the runs never came to: " + what);
            }
        }
    }

    private void run(int steps) {
        for (int i = 0; i < steps && wrong < 5; i++) {
            act();
            if (!compare()) {
                wrong++;
                System.out.println("after " + calls);
                return;
            }
            note();
        }
        for (int k = 0; k < 6; k++) {
            if (model.decks[k] != null && model.decks[k].outcome > 0) {
                seen("outcome " + model.decks[k].outcome);
            }
        }
    }

    private static void seen(String what) {
        SEEN.merge(what, 1, Integer::sum);
    }

    private void note() {
        for (int k = 0; k < 6; k++) {
            seen("waits " + model.process(k, 1));
        }
        seen("drum " + model.about(1));
        if (model.drum.equals("writing") && model.victim.state.equals("over")) {
            seen("over while written");
        }
        for (Model.Deck d : model.gets) {
            if (model.free[d.wantsResource] > 0) {
                seen("unsafe");
            }
        }
        if (model.about(7) > 600) {
            seen("said 600");
        }
        if (model.about(10) == 8) {
            seen("lines 8");
        }
    }

    private void act() {
        for (int device = 0; device < 3; device++) {
            if (model.about(device + 1) > 0 && random.nextInt(3) == 0) {
                done(device);
                return;
            }
        }
        if (chatty && random.nextInt(3) == 0) {
            type(10);
            return;
        }
        int what = random.nextInt(20);
        if (what < 3) {
            submit();
        } else if (what < 6) {
            typeLine();
        } else if (what < 7) {
            tick(random.nextInt(30) == 0 ? random.nextInt(300) - 50 : random.nextInt(40));
        } else if (what < 13) {
            tick(1 + random.nextInt(12));
        } else if (what < 15) {
            done(random.nextInt(20) == 0 ? random.nextInt(8) - 2 : random.nextInt(5) % 3);
        } else if (what < 16) {
            type(random.nextInt(140) - 2);
        } else {
            tick(1 + random.nextInt(3));
        }
    }

    private void tick(int n) {
        calls.append(" tick(").append(n).append(")");
        same("tick", real.tick(n), model.tick(n));
    }

    private void done(int device) {
        calls.append(" done(").append(device).append(")");
        same("done", real.done(device) ? 1 : 0, model.done(device) ? 1 : 0);
    }

    private void type(int b) {
        calls.append(" type(").append(b).append(")");
        same("type", real.type(b) ? 1 : 0, model.type(b) ? 1 : 0);
    }

    private void typeLine() {
        int k = random.nextInt(20) == 0 ? random.nextInt(10) : random.nextInt(6);
        StringBuilder line = new StringBuilder();
        switch (random.nextInt(9)) {
            case 0: case 1: case 2: case 3:
                line.append('A').append(k);
                break;
            case 4:
                line.append('C').append(k);
                break;
            case 5: case 6: case 7:
                line.append('R').append(k).append(' ');
                line.append(random.nextInt(3) == 0 ? "-" : "");
                line.append(random.nextInt() >>> 1 + random.nextInt(30));
                break;
            default:
                int n = random.nextInt(24);
                for (int i = 0; i < n; i++) {
                    line.append("ACR05 -19".charAt(random.nextInt(9)));
                }
                break;
        }
        if (random.nextInt(15) == 0) {
            line.append(' ');
        }
        for (int i = 0; i < line.length(); i++) {
            type(line.charAt(i));
        }
        type(10);
    }

    private void submit() {
        int segments = 1 + random.nextInt(random.nextBoolean() ? 3 : 8);
        int program = random.nextInt(3) == 0 ? random.nextInt(segments * 16 + 1) : segments * 16;
        int cards = random.nextInt(6);
        int shape = random.nextInt(5);
        int[] words = shape < 2 ? churner(segments * 16)
                : shape < 4 ? orderly(segments * 16) : words(segments * 16, random.nextBoolean());
        int fed = 0;
        while (fed < program + cards) {
            int[] four = new int[4];
            for (int i = 0; i < 4; i++) {
                int n = fed + i;
                four[i] = n < program ? words[n] : random.nextInt(2001) - 1000;
            }
            calls.append(" feed(").append(four[0]).append(", ").append(four[1]).append(", ")
                    .append(four[2]).append(", ").append(four[3]).append(")");
            same("feed", real.feed(four[0], four[1], four[2], four[3]),
                    model.feed(four[0], four[1], four[2], four[3]));
            fed += 4;
        }
        int limit = random.nextInt(4) == 0 ? 1 + random.nextInt(30) : 1 + random.nextInt(400);
        int claims = 3 + 4 * model.pages;
        if (random.nextInt(3) == 0) {
            claims = random.nextInt(4) + 4 * random.nextInt(model.pages + 1);
        }
        switch (random.nextInt(40)) {
            case 0: limit = random.nextInt(7000) - 1000; break;
            case 1: claims = random.nextInt(60) - 10; break;
            case 2: segments = random.nextInt(12) - 2; break;
            case 3: program += random.nextInt(8) - 4; break;
            case 4: cards = random.nextInt(60) - 10; break;
            default: break;
        }
        calls.append(" submit(").append(program).append(", ").append(cards).append(", ")
                .append(segments).append(", ").append(limit).append(", ").append(claims).append(")");
        int number = model.submit(program, cards, segments, limit, claims);
        same("submit", real.submit(program, cards, segments, limit, claims), number);
        if (number >= 0 && random.nextInt(4) > 0) {
            type('A');
            type('0' + number);
            type(10);
        }
    }

    /** Words that hold up for a while: GETs first, then a mixture, few of them wrong. */
    private int[] words(int n, boolean getsFirst) {
        int[] words = new int[n];
        int i = 0;
        if (getsFirst) {
            int gets = random.nextInt(6);
            for (; i < gets && i < n; i++) {
                words[i] = 16 * 256 + random.nextInt(3);
            }
        }
        int[] common = {1, 1, 2, 2, 3, 4, 5, 6, 8, 9, 10, 11, 12, 13, 14, 14, 14, 14, 15, 16, 17, 18,
            19, 7};
        for (; i < n; i++) {
            int kind = common[random.nextInt(common.length)];
            int a = kind == 16 || kind == 17 ? random.nextInt(3) : random.nextInt(n);
            if (kind == 11 || kind == 12) {
                a = random.nextInt(n / 2);
            }
            words[i] = kind * 256 + a;
            int odd = random.nextInt(60);
            if (odd == 0) {
                words[i] = random.nextInt(21 * 256);
            } else if (odd == 1) {
                words[i] = 0;
            } else if (odd == 2 && random.nextInt(4) == 0) {
                words[i] = random.nextInt();
            } else if (odd < 8) {
                words[i] = random.nextInt(20);
            }
        }
        return words;
    }

    /** Loads and stores all over the segments, again and again. */
    private int[] churner(int n) {
        int[] words = new int[n];
        int code = 2 + random.nextInt(14);
        int[] kinds = {1, 2, 2, 2, 3, 4, 5, 10, 18, 19};
        for (int i = 0; i < code; i++) {
            int kind = kinds[random.nextInt(kinds.length)];
            int data = n == 16 ? 15 : 16 + random.nextInt(n - 16);
            words[i] = kind * 256 + data;
        }
        words[code - 1] = 7 * 256;
        return words;
    }

    /** Gets, uses and gives what it has, mostly in a way that ends. */
    private int[] orderly(int n) {
        int[] words = new int[n];
        int[] has = new int[3];
        for (int i = 0; i < n; i++) {
            int r = random.nextInt(3);
            int most = r == 2 ? model.pages : 1;
            switch (random.nextInt(7)) {
                case 0: case 1:
                    words[i] = has[r] < most ? 16 * 256 + r : 18 * 256 + i;
                    has[r] += has[r] < most ? 1 : 0;
                    break;
                case 2:
                    words[i] = has[r] > 0 ? 17 * 256 + r : 256 + random.nextInt(n);
                    has[r] -= has[r] > 0 ? 1 : 0;
                    break;
                case 3:
                    words[i] = has[0] > 0 && random.nextInt(3) == 0 ? 13 * 256 : 2 * 256 + n - 1;
                    break;
                case 4:
                    words[i] = random.nextInt(8) == 0 ? 15 * 256 : 19 * 256;
                    break;
                default:
                    words[i] = has[1] > 0 && has[2] > 0 ? 14 * 256 : 18 * 256 + i;
                    break;
            }
        }
        words[n - 1] = random.nextInt(4) > 0 ? 0 : 7 * 256;
        return words;
    }

    private boolean good = true;

    private void same(String what, int got, int want) {
        same(what, 0, 0, got, want);
    }

    private void same(String what, int k, int i, int got, int want) {
        if (got != want && good) {
            good = false;
            System.out.println(what + " (" + k + ", " + i + ") answered " + got + ", the model " + want);
        }
    }

    private boolean compare() {
        for (int k = -1; k <= 10; k++) {
            for (int what = -1; what <= 2; what++) {
                same("process", k, what, real.process(k, what), model.process(k, what));
            }
        }
        for (int k = -1; k <= 6; k++) {
            for (int what = -1; what <= 13; what++) {
                same("job", k, what, real.job(k, what), model.job(k, what));
            }
            int lines = model.job(k, 10);
            for (int i = Math.max(lines - 5, -1); i <= lines; i++) {
                same("paper", k, i, real.paper(k, i), model.paper(k, i));
            }
            for (int i = -1; i <= 128; i++) {
                same("word", k, i, real.word(k, i), model.word(k, i));
            }
        }
        for (int f = -1; f <= 12; f++) {
            for (int what = -1; what <= 5; what++) {
                same("frame", f, what, real.frame(f, what), model.frame(f, what));
            }
        }
        for (int what = -1; what <= 11; what++) {
            same("about", what, 0, real.about(what), model.about(what));
        }
        int said = model.about(7);
        for (int i = Math.max(said - 12, -1); i <= said; i++) {
            same("octet", i, 0, real.octet(i), model.octet(i));
        }
        same("octet(600)", real.octet(600), model.octet(600));
        return good;
    }
}
