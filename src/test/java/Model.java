import java.util.ArrayDeque;
import java.util.ArrayList;
import java.util.Arrays;
import java.util.HashMap;
import java.util.LinkedList;
import java.util.List;
import java.util.Map;

/**
 * The document told a second time, with lists, maps and texts, and without a thought of size: what
 * ModelTest holds the class against.
 */
final class Model {
    static final class Deck {
        int number;
        String state = "waits";
        int outcome;
        int beginsToEndWith;
        int steps, place, a, x, limit, segments;
        int[] claims = new int[3];
        int[] holds = new int[3];
        ArrayDeque<Integer> cards = new ArrayDeque<>();
        int cardsRead;
        List<Integer> lines = new ArrayList<>();
        List<Integer> paper = new ArrayList<>();
        boolean cancel;
        Map<Integer, int[]> drum = new HashMap<>();
        int wantsSegment, wantsResource;
    }

    static final class Frame {
        boolean busy;
        Deck deck;
        int segment;
        boolean changed, pinned;
        int used;
        int[] words = new int[16];
    }

    final int pages, quantum;
    final Frame[] frames;
    final Deck[] decks = new Deck[6];
    final List<Integer> tape = new ArrayList<>();
    final LinkedList<Integer> ready = new LinkedList<>();
    final Map<Integer, String> waits = new HashMap<>();
    final Map<String, Integer> counts = new HashMap<>();
    final LinkedList<Deck> wantedRow = new LinkedList<>();
    final LinkedList<Deck> cardRow = new LinkedList<>();
    final LinkedList<Deck> gets = new LinkedList<>();
    final LinkedList<String> lineRow = new LinkedList<>();
    final StringBuilder typing = new StringBuilder();
    final StringBuilder said = new StringBuilder();
    final int[] free;
    int tick, turn, brought;
    String drum = "", reader = "", printer = "";
    String segmentsStage = "WANTED", readingStage = "CARDS", printingStage = "PRINTS";
    Frame chosen;
    Deck victim, bringFor, readFor, printFor;
    int victimSegment;

    static final List<String> CAUSES = Arrays.asList("", "segment", "card", "room", "empty", "reply",
            "resource", "work", "device");

    Model(int frames, int pages, int quantum) {
        int f = frames < 4 ? 4 : frames > 12 ? 12 : frames;
        this.pages = pages < 1 ? 1 : pages > 6 ? 6 : pages;
        this.quantum = quantum < 1 ? 1 : quantum > 9 ? 9 : quantum;
        this.frames = new Frame[f];
        for (int i = 0; i < f; i++) {
            this.frames[i] = new Frame();
        }
        free = new int[] {1, 1, this.pages};
        waits.put(6, "WANTED");
        waits.put(7, "CARDS");
        waits.put(8, "PRINTS");
        waits.put(9, "LINES");
    }

    int feed(int a, int b, int c, int d) {
        if (tape.size() > 196) {
            return -1;
        }
        tape.addAll(Arrays.asList(a, b, c, d));
        return tape.size();
    }

    int submit(int program, int cards, int segments, int limit, int claims) {
        List<Integer> was = new ArrayList<>(tape);
        tape.clear();
        if (program < 0 || cards < 0 || cards > 40 || (long) program + cards > was.size()) {
            return -1;
        }
        if (segments < 1 || segments > 8 || program > 16 * segments || limit < 1 || limit > 5000) {
            return -1;
        }
        if (claims < 0 || claims >> 2 > pages) {
            return -1;
        }
        for (int k = 0; k < 6; k++) {
            if (decks[k] == null || decks[k].state.equals("over")) {
                Deck d = new Deck();
                d.number = k;
                d.limit = limit;
                d.segments = segments;
                d.claims = new int[] {claims & 1, claims >> 1 & 1, claims >> 2};
                for (int s = 0; s < segments; s++) {
                    int[] words = new int[16];
                    for (int i = 0; i < 16; i++) {
                        words[i] = s * 16 + i < program ? was.get(s * 16 + i) : 0;
                    }
                    d.drum.put(s, words);
                }
                for (int i = 0; i < cards; i++) {
                    d.cards.add(was.get(program + i));
                }
                decks[k] = d;
                return k;
            }
        }
        return -1;
    }

    int tick(int n) {
        if (n < 0 || n > 200) {
            return -1;
        }
        for (int i = 0; i < n; i++) {
            tick++;
            if (ready.isEmpty()) {
                continue;
            }
            int p = ready.getFirst();
            step(p);
            turn++;
            boolean gone = p < 6 && decks[p].state.equals("over");
            if (waits.containsKey(p) || gone) {
                ready.removeFirst();
                turn = 0;
            } else if (turn == quantum) {
                ready.addLast(ready.removeFirst());
                turn = 0;
            }
        }
        return tick;
    }

    private void wake(int p) {
        waits.remove(p);
        if (ready.contains(p)) {
            throw new IllegalStateException("woken twice: " + p);
        }
        ready.addLast(p);
    }

    private static int processOf(String signal) {
        switch (signal) {
            case "WANTED": case "DRUM": return 6;
            case "CARDS": case "READER": return 7;
            case "PRINTS": case "PRINTER": return 8;
            default: return 9;
        }
    }

    private void v(String signal) {
        int p = processOf(signal);
        if (signal.equals(waits.get(p))) {
            wake(p);
        } else {
            counts.merge(signal, 1, Integer::sum);
        }
    }

    private void p(String signal) {
        int c = counts.getOrDefault(signal, 0);
        if (c > 0) {
            counts.put(signal, c - 1);
        } else {
            waits.put(processOf(signal), signal);
        }
    }

    private void step(int p) {
        if (p == 6) {
            segmentsStep();
        } else if (p == 7) {
            readingStep();
        } else if (p == 8) {
            printingStep();
        } else if (p == 9) {
            if (!consoleLine(lineRow.removeFirst())) {
                said.append("?\n");
            }
            p("LINES");
        } else {
            jobStep(decks[p]);
        }
    }

    private void segmentsStep() {
        if (segmentsStage.equals("WANTED")) {
            bringFor = wantedRow.removeFirst();
            chosen = null;
            for (Frame f : frames) {
                if (chosen == null && !f.busy && f.deck == null) {
                    chosen = f;
                }
            }
            if (chosen == null) {
                for (Frame f : frames) {
                    if (!f.busy && !f.pinned && (chosen == null || f.used < chosen.used)) {
                        chosen = f;
                    }
                }
            }
            victim = chosen.deck;
            victimSegment = chosen.segment;
            chosen.busy = true;
            chosen.deck = null;
            drum = victim != null && chosen.changed ? "writing" : "reading";
            segmentsStage = drum;
            p("DRUM");
        } else if (segmentsStage.equals("writing")) {
            drum = "reading";
            segmentsStage = drum;
            p("DRUM");
        } else {
            chosen.busy = false;
            chosen.deck = bringFor;
            chosen.segment = bringFor.wantsSegment;
            chosen.changed = false;
            chosen.pinned = true;
            chosen.used = tick;
            brought++;
            wake(bringFor.number);
            segmentsStage = "WANTED";
            p("WANTED");
        }
    }

    boolean done(int device) {
        if (device == 0 && !drum.isEmpty()) {
            if (drum.equals("writing")) {
                if (!victim.state.equals("over")) {
                    victim.drum.put(victimSegment, chosen.words.clone());
                }
            } else {
                chosen.words = bringFor.drum.get(bringFor.wantsSegment).clone();
            }
            drum = "";
            v("DRUM");
            return true;
        }
        if (device == 1 && !reader.isEmpty()) {
            reader = "";
            v("READER");
            return true;
        }
        if (device == 2 && !printer.isEmpty()) {
            printer = "";
            v("PRINTER");
            return true;
        }
        return false;
    }

    private void readingStep() {
        if (readingStage.equals("CARDS")) {
            readFor = cardRow.removeFirst();
            reader = "works";
            readingStage = "READER";
            p("READER");
        } else {
            readFor.a = readFor.cards.removeFirst();
            readFor.cardsRead++;
            instructionDone(readFor);
            wake(readFor.number);
            readingStage = "CARDS";
            p("CARDS");
        }
    }

    private void printingStep() {
        if (printingStage.equals("PRINTS")) {
            printFor = null;
            for (Deck d : decks) {
                if (d != null && d.state.equals("admitted") && d.holds[1] == 1) {
                    printFor = d;
                }
            }
            if (printFor.lines.isEmpty()) {
                throw new IllegalStateException("nothing to print");
            }
            printer = "works";
            printingStage = "PRINTER";
            p("PRINTER");
        } else {
            printFor.paper.add(printFor.lines.remove(0));
            String cause = waits.getOrDefault(printFor.number, "");
            if (cause.equals("room") || cause.equals("empty") && printFor.lines.isEmpty()) {
                wake(printFor.number);
            }
            printingStage = "PRINTS";
            p("PRINTS");
        }
    }

    boolean type(int b) {
        if (b == 10) {
            if (lineRow.size() == 8) {
                return false;
            }
            lineRow.add(typing.toString());
            typing.setLength(0);
            v("LINES");
            return true;
        }
        if (b < 32 || b > 126 || typing.length() == 20) {
            return false;
        }
        typing.append((char) b);
        return true;
    }

    private int admitted() {
        int n = 0;
        for (Deck d : decks) {
            if (d != null && d.state.equals("admitted")) {
                n++;
            }
        }
        return n;
    }

    private boolean consoleLine(String line) {
        if (!line.matches("A[0-5]|C[0-5]|R[0-5] -?[0-9]{1,9}")) {
            return false;
        }
        Deck d = decks[line.charAt(1) - '0'];
        if (d == null) {
            return false;
        }
        String cause = waits.getOrDefault(d.number, "");
        if (line.startsWith("A")) {
            if (!d.state.equals("waits") || 2 * (admitted() + 1) > frames.length) {
                return false;
            }
            d.state = "admitted";
            wake(d.number);
            return true;
        }
        if (line.startsWith("C")) {
            if (!d.state.equals("admitted")) {
                return false;
            }
            d.cancel = true;
            if (cause.equals("reply") || cause.equals("resource")) {
                gets.remove(d);
                wake(d.number);
            }
            return true;
        }
        if (!d.state.equals("admitted") || !cause.equals("reply")) {
            return false;
        }
        d.a = Integer.parseInt(line.substring(3));
        instructionDone(d);
        wake(d.number);
        return true;
    }

    private void instructionDone(Deck d) {
        jumped(d, d.place + 1);
    }

    private void jumped(Deck d, int to) {
        d.steps++;
        d.place = to;
        for (Frame f : frames) {
            if (f.deck == d) {
                f.pinned = false;
            }
        }
    }

    private Frame inCore(Deck d, int segment) {
        for (Frame f : frames) {
            if (f.deck == d && f.segment == segment) {
                return f;
            }
        }
        return null;
    }

    private void wait(Deck d, String cause) {
        waits.put(d.number, cause);
    }

    private void jobStep(Deck d) {
        if (d.beginsToEndWith != 0) {
            if (!d.lines.isEmpty()) {
                wait(d, "empty");
                return;
            }
            for (Frame f : frames) {
                if (f.deck == d) {
                    f.deck = null;
                }
            }
            for (int r = 0; r < 3; r++) {
                free[r] += d.holds[r];
            }
            d.state = "over";
            d.outcome = d.beginsToEndWith;
            said.append(d.number).append('=').append(d.outcome).append('\n');
            goThroughGets();
        } else if (d.cancel) {
            d.beginsToEndWith = 5;
        } else if (d.steps == d.limit) {
            d.beginsToEndWith = 2;
        } else {
            d.beginsToEndWith = instruction(d);
        }
    }

    private void wantSegment(Deck d, int segment) {
        d.wantsSegment = segment;
        wantedRow.add(d);
        v("WANTED");
        wait(d, "segment");
    }

    /** What it begins to end with, 0 if it does not. */
    private int instruction(Deck d) {
        int top = 16 * d.segments;
        if (d.place < 0 || d.place >= top) {
            return 4;
        }
        Frame own = inCore(d, d.place / 16);
        if (own == null) {
            wantSegment(d, d.place / 16);
            return 0;
        }
        int word = own.words[d.place % 16];
        int kind = word >> 8;
        int a = word & 255;
        if (word < 0 || kind > 19) {
            own.used = tick;
            return 4;
        }
        long address = -1;
        if (Arrays.asList(1, 2, 3, 4, 5, 6, 10).contains(kind)) {
            address = a;
        } else if (kind == 11 || kind == 12) {
            address = (long) a + d.x;
        } else {
            own.used = tick;
            return plain(d, kind, a);
        }
        if (address < 0 || address >= top) {
            own.used = tick;
            return 4;
        }
        int at = (int) address;
        Frame there = inCore(d, at / 16);
        if (there == null) {
            wantSegment(d, at / 16);
            return 0;
        }
        own.used = tick;
        there.used = tick;
        int w = there.words[at % 16];
        if (kind == 6 && w == 0) {
            return 4;
        }
        switch (kind) {
            case 1: case 11: d.a = w; break;
            case 2: case 12: there.words[at % 16] = d.a; there.changed = true; break;
            case 3: d.a = (int) ((long) d.a + w); break;
            case 4: d.a = (int) ((long) d.a - w); break;
            case 5: d.a = (int) ((long) d.a * w); break;
            case 6: d.a = (int) ((long) d.a / w); break;
            default: d.x = w; break;
        }
        instructionDone(d);
        return 0;
    }

    private int plain(Deck d, int kind, int a) {
        switch (kind) {
            case 0: instructionDone(d); return 1;
            case 7: jumped(d, a); return 0;
            case 8: jumped(d, d.a < 0 ? a : d.place + 1); return 0;
            case 9: jumped(d, d.a == 0 ? a : d.place + 1); return 0;
            case 13: return readInstruction(d);
            case 14: return printInstruction(d);
            case 15:
                said.append(d.number).append("?\n");
                wait(d, "reply");
                return 0;
            case 16: return getInstruction(d, a);
            case 17: return giveInstruction(d, a);
            case 18: d.a = a; instructionDone(d); return 0;
            default: d.a = d.x; instructionDone(d); return 0;
        }
    }

    private int readInstruction(Deck d) {
        if (d.holds[0] == 0 || d.cards.isEmpty()) {
            return 4;
        }
        cardRow.add(d);
        v("CARDS");
        wait(d, "card");
        return 0;
    }

    private int printInstruction(Deck d) {
        if (d.holds[1] == 0 || d.holds[2] == 0) {
            return 4;
        }
        if (d.lines.size() == 4 * d.holds[2]) {
            wait(d, "room");
            return 0;
        }
        d.lines.add(d.a);
        v("PRINTS");
        instructionDone(d);
        return 0;
    }

    private int getInstruction(Deck d, int a) {
        if (a > 2) {
            return 4;
        }
        if (d.holds[a] + 1 > d.claims[a]) {
            return 3;
        }
        if (canHave(d, a)) {
            free[a]--;
            d.holds[a]++;
            instructionDone(d);
        } else {
            d.wantsResource = a;
            gets.add(d);
            wait(d, "resource");
        }
        return 0;
    }

    private int giveInstruction(Deck d, int a) {
        if (a > 2 || d.holds[a] == 0) {
            return 4;
        }
        if (a > 0 && !d.lines.isEmpty()) {
            wait(d, "empty");
            return 0;
        }
        d.holds[a]--;
        free[a]++;
        instructionDone(d);
        goThroughGets();
        return 0;
    }

    private void goThroughGets() {
        for (Deck d : new ArrayList<>(gets)) {
            int a = d.wantsResource;
            if (canHave(d, a)) {
                gets.remove(d);
                free[a]--;
                d.holds[a]++;
                instructionDone(d);
                wake(d.number);
            }
        }
    }

    private boolean canHave(Deck d, int a) {
        if (free[a] == 0) {
            return false;
        }
        int[] f = free.clone();
        f[a]--;
        d.holds[a]++;
        List<Deck> left = new ArrayList<>();
        for (Deck e : decks) {
            if (e != null && e.state.equals("admitted")) {
                left.add(e);
            }
        }
        boolean safe = someOrder(left, f);
        d.holds[a]--;
        return safe;
    }

    /** Every order is tried, as the document's words are, and no cleverer way. */
    private static boolean someOrder(List<Deck> left, int[] f) {
        if (left.isEmpty()) {
            return true;
        }
        for (Deck e : left) {
            boolean fits = true;
            int[] g = f.clone();
            for (int r = 0; r < 3; r++) {
                fits &= e.claims[r] - e.holds[r] <= f[r];
                g[r] += e.holds[r];
            }
            if (fits) {
                List<Deck> rest = new ArrayList<>(left);
                rest.remove(e);
                if (someOrder(rest, g)) {
                    return true;
                }
            }
        }
        return false;
    }

    int process(int k, int what) {
        if (k < 0 || k > 9 || what < 0 || what > 1) {
            return -1;
        }
        if (what == 0) {
            return ready.indexOf(k);
        }
        String cause = waits.getOrDefault(k, "");
        if (Arrays.asList("WANTED", "CARDS", "PRINTS", "LINES").contains(cause)) {
            return 7;
        }
        if (Arrays.asList("DRUM", "READER", "PRINTER").contains(cause)) {
            return 8;
        }
        return CAUSES.indexOf(cause);
    }

    int job(int k, int what) {
        if (k < 0 || k > 5 || what < 0 || what > 12) {
            return -1;
        }
        Deck d = decks[k];
        if (d == null) {
            return 0;
        }
        int state = Arrays.asList("", "waits", "admitted", "over").indexOf(d.state);
        return new int[] {state, d.outcome, d.steps, d.place, d.a, d.x, d.holds[0], d.holds[1],
            d.holds[2], d.cardsRead, d.paper.size(), d.lines.size(), d.cancel ? 1 : 0}[what];
    }

    int paper(int k, int i) {
        if (k < 0 || k > 5 || decks[k] == null || i < 0 || i >= decks[k].paper.size()) {
            return 0;
        }
        return decks[k].paper.get(i);
    }

    int word(int k, int address) {
        if (k < 0 || k > 5 || decks[k] == null || decks[k].state.equals("over")) {
            return 0;
        }
        Deck d = decks[k];
        if (address < 0 || address >= d.segments * 16) {
            return 0;
        }
        int s = address / 16;
        Frame f = inCore(d, s);
        if (drum.equals("writing") && victim == d && victimSegment == s) {
            f = chosen;
        }
        return f == null ? d.drum.get(s)[address % 16] : f.words[address % 16];
    }

    int frame(int f, int what) {
        if (f < 0 || f >= frames.length || what < 0 || what > 4) {
            return -1;
        }
        Frame x = frames[f];
        if (x.busy) {
            return what == 0 ? -2 : -1;
        }
        if (x.deck == null) {
            return -1;
        }
        return new int[] {x.deck.number, x.segment, x.changed ? 1 : 0, x.pinned ? 1 : 0, x.used}[what];
    }

    int about(int what) {
        switch (what) {
            case 0: return tick;
            case 1: return drum.isEmpty() ? 0 : drum.equals("writing") ? 1 : 2;
            case 2: return reader.isEmpty() ? 0 : 1;
            case 3: return printer.isEmpty() ? 0 : 1;
            case 4: case 5: case 6: return free[what - 4];
            case 7: return said.length();
            case 8: return admitted();
            case 9: return brought;
            case 10: return lineRow.size();
            default: return -1;
        }
    }

    int octet(int i) {
        return i < 0 || i >= 600 || i >= said.length() ? -1 : said.charAt(i);
    }
}
