import java.util.ArrayList;

/**
 * Several jobs share one processor, a few frames of core over a drum, a reader, a printer and a
 * console. The document that this class keeps to is DOC.md; "PART n" below are its parts.
 */
public final class DrumLayers {
    public static final int NONE = -1;

    private static final int JOBS = 6;
    private static final int SEGMENTS = 6;
    private static final int READING = 7;
    private static final int PRINTING = 8;
    private static final int CONSOLE = 9;
    private static final int PROCESSES = 10;

    private static final int FOR_NOTHING = 0;
    private static final int FOR_SEGMENT = 1;
    private static final int FOR_CARD = 2;
    private static final int FOR_ROOM = 3;
    private static final int FOR_EMPTY_LINES = 4;
    private static final int FOR_REPLY = 5;
    private static final int FOR_RESOURCE = 6;
    private static final int FOR_WORK = 7;
    private static final int FOR_DEVICE = 8;

    private static final int NO_JOB = 0;
    private static final int SUBMITTED = 1;
    private static final int ADMITTED = 2;
    private static final int OVER = 3;

    private static final int ENDED = 1;
    private static final int LIMIT = 2;
    private static final int CLAIM = 3;
    private static final int TRAP = 4;
    private static final int CANCELLED = 5;

    private static final int READER = 0;
    private static final int PRINTER = 1;
    private static final int PAGES = 2;
    private static final int KINDS = 3;

    private static final int IDLE = 0;
    private static final int WRITES = 1;
    private static final int READS = 2;

    private static final int SEGMENT_WORDS = 16;
    private static final int MOST_SEGMENTS = 8;
    private static final int MOST_CARDS = 40;
    private static final int MOST_PAGES = 6;
    private static final int LINES_A_PAGE = 4;
    private static final int MOST_STEPS = 5000;
    private static final int MOST_TICKS = 200;
    private static final int TAPE = 200;
    private static final int KEPT_BYTES = 600;
    private static final int TYPED_LINES = 8;
    private static final int TYPED_BYTES = 20;
    private static final int NEW_LINE = 10;
    private static final int LAST_INSTRUCTION = 19;

    // Each line on paper takes a call of its own, and an object is used for 512 calls.
    private static final int MOST_PAPER = 512;

    private final Processor processor;
    private final Job[] jobs;
    private final Core core;
    private final Store store;
    private final Bank bank;
    private final Devices devices;
    private final Console console;
    private final Machine machine;
    private final Row tape;
    private int submissions;

    public DrumLayers(int frames, int pages, int quantum) {
        processor = new Processor(within(quantum, 1, 9));
        jobs = new Job[JOBS];
        for (int k = 0; k < JOBS; k++) {
            jobs[k] = new Job(k);
        }
        core = new Core(within(frames, 4, 12));
        store = new Store(processor, core);
        bank = new Bank(processor, core, jobs, within(pages, 1, MOST_PAGES));
        devices = new Devices(processor, core, bank);
        console = new Console(processor, core, bank, jobs);
        machine = new Machine(processor, core, store, bank, devices, console);
        tape = new Row(TAPE);
    }

    public int feed(int a, int b, int c, int d) {
        if (tape.size() + 4 > TAPE) {
            return NONE;
        }
        tape.append(a);
        tape.append(b);
        tape.append(c);
        tape.append(d);
        return tape.size();
    }

    public int submit(int program, int cards, int segments, int limit, int claims) {
        boolean good = isDeck(program, cards, segments)
                && limit >= 1 && limit <= MOST_STEPS
                && claims >= 0 && claims / 4 <= bank.pages;
        Job job = good ? vacantJob() : null;
        if (job != null) {
            submissions++;
            job.renew(submissions);
            job.segments = segments;
            job.limit = limit;
            job.claim(claims);
            job.load(tape, program, cards);
        }
        tape.clear();
        return job == null ? NONE : job.number;
    }

    public int tick(int n) {
        if (n < 0 || n > MOST_TICKS) {
            return NONE;
        }
        for (int i = 0; i < n; i++) {
            int first = processor.begin();
            Job job = jobAt(jobs, first);
            if (job != null) {
                machine.step(job);
            } else {
                systemStep(first);
            }
            processor.end(first);
        }
        return processor.ticks;
    }

    public boolean done(int device) {
        switch (device) {
            case 0:
                return store.drumIsDone();
            case 1:
                return devices.readerIsDone();
            case 2:
                return devices.printerIsDone();
            default:
                return false;
        }
    }

    public boolean type(int b) {
        return console.accept(b);
    }

    public int process(int k, int what) {
        if (k < 0 || k >= PROCESSES) {
            return NONE;
        }
        switch (what) {
            case 0:
                return processor.ready.placeOf(k);
            case 1:
                return processor.causeOf(k);
            default:
                return NONE;
        }
    }

    public int job(int k, int what) {
        Job job = jobAt(jobs, k);
        return job == null ? NONE : job.tell(what);
    }

    public int paper(int k, int i) {
        Job job = jobAt(jobs, k);
        return job == null ? 0 : devices.lineOnPaper(job, i);
    }

    public int word(int k, int address) {
        Job job = jobAt(jobs, k);
        if (job == null || job.state == NO_JOB || job.state == OVER || !job.has(address)) {
            return 0;
        }
        Frame holder = store.holderOf(job, address / SEGMENT_WORDS);
        return holder == null ? job.onDrum(address) : holder.read(address);
    }

    public int frame(int f, int what) {
        return core.tell(f, what);
    }

    public int about(int what) {
        switch (what) {
            case 0:
                return processor.ticks;
            case 1:
                return store.drum;
            case 2:
                return asNumber(devices.readerWorks);
            case 3:
                return asNumber(devices.printerWorks);
            case 4:
                return bank.freeOf(READER);
            case 5:
                return bank.freeOf(PRINTER);
            case 6:
                return bank.freeOf(PAGES);
            case 7:
                return console.said;
            case 8:
                return bank.admitted();
            case 9:
                return store.brought;
            case 10:
                return console.waiting;
            default:
                return NONE;
        }
    }

    public int octet(int i) {
        return console.byteSaid(i);
    }

    private void systemStep(int first) {
        switch (first) {
            case SEGMENTS:
                store.step();
                break;
            case READING:
                devices.readingStep();
                break;
            case PRINTING:
                devices.printingStep();
                break;
            case CONSOLE:
                console.step();
                break;
            default:
                break;
        }
    }

    private Job vacantJob() {
        for (int k = 0; k < jobs.length; k++) {
            if (jobs[k].state == NO_JOB || jobs[k].state == OVER) {
                return jobs[k];
            }
        }
        return null;
    }

    private boolean isDeck(int program, int cards, int segments) {
        return segments >= 1 && segments <= MOST_SEGMENTS
                && program >= 0 && program <= segments * SEGMENT_WORDS
                && cards >= 0 && cards <= MOST_CARDS
                && program + cards <= tape.size();
    }

    private static Job jobAt(Job[] jobs, int k) {
        return k >= 0 && k < jobs.length ? jobs[k] : null;
    }

    private static int within(int value, int least, int most) {
        return Math.max(least, Math.min(most, value));
    }

    private static int asNumber(boolean holds) {
        return holds ? 1 : 0;
    }

    /** A row of numbers; what comes beyond its bound is not taken. */
    private static final class Row {
        private final int[] values;
        private int size;

        Row(int bound) {
            values = new int[Math.max(bound, 0)];
        }

        int size() {
            return size;
        }

        int at(int i) {
            return i >= 0 && i < size && i < values.length ? values[i] : NONE;
        }

        void append(int value) {
            if (size >= 0 && size < values.length) {
                values[size] = value;
                size++;
            }
        }

        int placeOf(int value) {
            for (int i = 0; i < size && i < values.length; i++) {
                if (values[i] == value) {
                    return i;
                }
            }
            return NONE;
        }

        void removeAt(int place) {
            if (place < 0 || place >= size) {
                return;
            }
            for (int i = place + 1; i < size && i < values.length; i++) {
                values[i - 1] = values[i];
            }
            size--;
        }

        void clear() {
            size = 0;
        }
    }

    /** PART 1: the ready row, and what each process waits for. */
    private static final class Processor {
        private final Row ready = new Row(PROCESSES);
        private final int[] causes = new int[PROCESSES];
        private final int quantum;
        private int ticks;
        private int stepsInTurn;

        Processor(int quantum) {
            this.quantum = quantum;
        }

        int begin() {
            ticks++;
            return ready.at(0);
        }

        /** What waits or is gone has left the row in its own step, so it is no more the first. */
        void end(int process) {
            if (process == NONE || ready.at(0) != process) {
                return;
            }
            stepsInTurn++;
            if (stepsInTurn >= quantum) {
                leave(process);
                ready.append(process);
            }
        }

        /** Only the first of the row ever leaves it, so the count of its turn ends with it. */
        void leave(int process) {
            ready.removeAt(ready.placeOf(process));
            stepsInTurn = 0;
        }

        void suspend(int process, int cause) {
            if (process >= 0 && process < causes.length) {
                causes[process] = cause;
                leave(process);
            }
        }

        void wake(int process) {
            if (process >= 0 && process < causes.length) {
                causes[process] = FOR_NOTHING;
                if (ready.placeOf(process) == NONE) {
                    ready.append(process);
                }
            }
        }

        int causeOf(int process) {
            return process >= 0 && process < causes.length ? causes[process] : NONE;
        }
    }

    /** PART 1: a counted signal that one of the processes 6 to 9 waits for. */
    private static final class Signal {
        private final Processor processor;
        private final int process;
        private final int cause;
        private boolean awaited;
        private int count;

        Signal(Processor processor, int process, int cause) {
            this.processor = processor;
            this.process = process;
            this.cause = cause;
        }

        void v() {
            if (awaited) {
                awaited = false;
                processor.wake(process);
            } else {
                count++;
            }
        }

        void p() {
            if (count > 0) {
                count--;
            } else {
                awaited = true;
                processor.suspend(process, cause);
            }
        }
    }

    /** PART 2: what is known of a job; its number is used again for a later one. */
    private static final class Job {
        private final int number;
        private final int[] drumWords = new int[MOST_SEGMENTS * SEGMENT_WORDS];
        private final int[] cards = new int[MOST_CARDS];
        private final Row lines = new Row(MOST_PAGES * LINES_A_PAGE);
        private final int[] claims = new int[KINDS];
        private final int[] holds = new int[KINDS];
        // Tells this job from an earlier one of the same number.
        private int serial;
        private int state = NO_JOB;
        // The outcome that it is ENDING with, 0 before.
        private int endsWith;
        private int segments;
        private int limit;
        private int steps;
        private int place;
        private int a;
        private int x;
        private int cardCount;
        private int cardsRead;
        private int onPaper;
        private boolean cancelled;
        // The segment or the resource that it waits for.
        private int wanted;

        Job(int number) {
            this.number = number;
        }

        void renew(int newSerial) {
            serial = newSerial;
            state = SUBMITTED;
            endsWith = 0;
            steps = 0;
            place = 0;
            a = 0;
            x = 0;
            cardsRead = 0;
            onPaper = 0;
            cancelled = false;
            wanted = 0;
            lines.clear();
            for (int i = 0; i < holds.length; i++) {
                holds[i] = 0;
            }
        }

        void claim(int code) {
            claims[READER] = code % 2;
            claims[PRINTER] = code / 2 % 2;
            claims[PAGES] = code / 4;
        }

        void load(Row tape, int program, int cardsOnTape) {
            for (int i = 0; i < drumWords.length; i++) {
                drumWords[i] = i < program ? tape.at(i) : 0;
            }
            cardCount = within(cardsOnTape, 0, cards.length);
            for (int i = 0; i < cardCount && i < cards.length; i++) {
                cards[i] = tape.at(program + i);
            }
        }

        boolean has(int address) {
            return address >= 0 && address < segments * SEGMENT_WORDS;
        }

        boolean isAsOf(int someSerial) {
            return serial == someSerial && state != OVER;
        }

        int onDrum(int address) {
            return address >= 0 && address < drumWords.length ? drumWords[address] : 0;
        }

        void putOnDrum(int address, int value) {
            if (address >= 0 && address < drumWords.length) {
                drumWords[address] = value;
            }
        }

        int held(int kind) {
            return kind >= 0 && kind < holds.length ? holds[kind] : 0;
        }

        int claimed(int kind) {
            return kind >= 0 && kind < claims.length ? claims[kind] : 0;
        }

        boolean hasCard() {
            return cardsRead < cardCount;
        }

        int takeCard() {
            if (cardsRead < 0 || cardsRead >= cardCount || cardsRead >= cards.length) {
                return 0;
            }
            cardsRead++;
            return cards[cardsRead - 1];
        }

        int tell(int what) {
            switch (what) {
                case 0:
                    return state;
                case 1:
                    return state == OVER ? endsWith : 0;
                case 2:
                    return steps;
                case 3:
                    return place;
                case 4:
                    return a;
                case 5:
                    return x;
                case 6:
                    return held(READER);
                case 7:
                    return held(PRINTER);
                case 8:
                    return held(PAGES);
                case 9:
                    return cardsRead;
                case 10:
                    return onPaper;
                case 11:
                    return lines.size();
                case 12:
                    return asNumber(cancelled);
                default:
                    return NONE;
            }
        }
    }

    /** PART 3: a frame of core: BUSY, or its owner's, or (without an owner) FREE. */
    private static final class Frame {
        private final int[] words = new int[SEGMENT_WORDS];
        private Job owner;
        private int segment;
        private boolean busy;
        private boolean changed;
        private boolean pinned;
        private int used;

        boolean isFree() {
            return !busy && owner == null;
        }

        boolean isOf(Job job) {
            return !busy && owner == job;
        }

        int read(int address) {
            int i = Math.floorMod(address, SEGMENT_WORDS);
            return i >= 0 && i < words.length ? words[i] : 0;
        }

        void write(int address, int value) {
            int i = Math.floorMod(address, SEGMENT_WORDS);
            if (i >= 0 && i < words.length) {
                words[i] = value;
            }
        }

        void vacate() {
            owner = null;
            busy = false;
            changed = false;
            pinned = false;
        }

        void occupy(Job job, int newSegment, int now) {
            owner = job;
            segment = newSegment;
            busy = false;
            changed = false;
            pinned = true;
            used = now;
        }

        int tell(int what) {
            switch (what) {
                case 1:
                    return segment;
                case 2:
                    return asNumber(changed);
                case 3:
                    return asNumber(pinned);
                case 4:
                    return used;
                default:
                    return NONE;
            }
        }
    }

    /** PART 3: the frames together. */
    private static final class Core {
        private static final int BUSY = -2;

        private final Frame[] frames;

        Core(int count) {
            frames = new Frame[Math.max(count, 0)];
            for (int f = 0; f < frames.length; f++) {
                frames[f] = new Frame();
            }
        }

        Frame find(Job job, int segment) {
            for (Frame frame : frames) {
                if (frame.isOf(job) && frame.segment == segment) {
                    return frame;
                }
            }
            return null;
        }

        /** The frame for a segment that comes; two frames for each admitted job leave always one. */
        Frame choose() {
            Frame oldest = null;
            for (Frame frame : frames) {
                if (frame.isFree()) {
                    return frame;
                }
                boolean open = !frame.busy && !frame.pinned;
                if (open && (oldest == null || frame.used < oldest.used)) {
                    oldest = frame;
                }
            }
            return oldest;
        }

        /** An instruction of the job is done, by its own step or by another process for it. */
        void complete(Job job, int nextPlace) {
            job.steps++;
            job.place = nextPlace;
            for (Frame frame : frames) {
                if (frame.isOf(job)) {
                    frame.pinned = false;
                }
            }
        }

        void vacateAll(Job job) {
            for (Frame frame : frames) {
                if (frame.isOf(job)) {
                    frame.vacate();
                }
            }
        }

        int tell(int f, int what) {
            if (f < 0 || f >= frames.length) {
                return NONE;
            }
            Frame frame = frames[f];
            if (frame.busy) {
                return what == 0 ? BUSY : NONE;
            }
            if (frame.owner == null) {
                return NONE;
            }
            return what == 0 ? frame.owner.number : frame.tell(what);
        }
    }

    /** PART 3: the process SEGMENTS and the drum. */
    private static final class Store {
        private final Processor processor;
        private final Core core;
        private final ArrayList<Job> asking = new ArrayList<>();
        private final Signal wanted;
        private final Signal drumDone;
        private int drum = IDLE;
        // What the drum was last begun with, IDLE when the next step is behind P WANTED.
        private int behind = IDLE;
        private Frame target;
        private Job comer;
        private Job writtenJob;
        private int writtenSerial;
        private int writtenSegment;
        private int brought;

        Store(Processor processor, Core core) {
            this.processor = processor;
            this.core = core;
            wanted = new Signal(processor, SEGMENTS, FOR_WORK);
            drumDone = new Signal(processor, SEGMENTS, FOR_DEVICE);
            wanted.p();
        }

        void ask(Job job, int segment) {
            job.wanted = segment;
            asking.add(job);
            processor.suspend(job.number, FOR_SEGMENT);
            wanted.v();
        }

        void step() {
            if (behind == WRITES) {
                begin(READS);
            } else if (behind == READS) {
                bring();
            } else {
                takeFirst();
            }
            if (behind == IDLE) {
                wanted.p();
            } else {
                drumDone.p();
            }
        }

        private void takeFirst() {
            Frame chosen = core.choose();
            if (asking.isEmpty() || chosen == null) {
                return;
            }
            comer = asking.remove(0);
            target = chosen;
            Job loser = chosen.owner;
            boolean mustWrite = loser != null && chosen.changed;
            if (mustWrite) {
                writtenJob = loser;
                writtenSerial = loser.serial;
                writtenSegment = chosen.segment;
            }
            chosen.vacate();
            chosen.busy = true;
            begin(mustWrite ? WRITES : READS);
        }

        private void begin(int doing) {
            drum = doing;
            behind = doing;
        }

        private void bring() {
            behind = IDLE;
            if (target != null && comer != null) {
                target.occupy(comer, comer.wanted, processor.ticks);
                brought++;
                processor.wake(comer.number);
            }
            target = null;
            comer = null;
        }

        boolean drumIsDone() {
            if (drum == IDLE) {
                return false;
            }
            if (drum == WRITES) {
                moveToDrum();
            } else {
                moveToCore();
            }
            drum = IDLE;
            drumDone.v();
            return true;
        }

        private void moveToDrum() {
            if (target == null || writtenJob == null || !writtenJob.isAsOf(writtenSerial)) {
                return;
            }
            for (int i = 0; i < SEGMENT_WORDS; i++) {
                writtenJob.putOnDrum(writtenSegment * SEGMENT_WORDS + i, target.read(i));
            }
        }

        private void moveToCore() {
            if (target == null || comer == null) {
                return;
            }
            for (int i = 0; i < SEGMENT_WORDS; i++) {
                target.write(i, comer.onDrum(comer.wanted * SEGMENT_WORDS + i));
            }
        }

        /** The frame whose words are the segment's, null when those on the drum are. */
        Frame holderOf(Job job, int segment) {
            boolean isBeingWritten = drum == WRITES && writtenJob == job
                    && job.isAsOf(writtenSerial) && writtenSegment == segment;
            return isBeingWritten ? target : core.find(job, segment);
        }
    }

    /** PART 4: what is free of each resource, and who waits for one. */
    private static final class Bank {
        private final Processor processor;
        private final Core core;
        private final Job[] jobs;
        private final int pages;
        private final int[] free = new int[KINDS];
        private final ArrayList<Job> gets = new ArrayList<>();
        // Both are only for allCanEnd, and kept so that no call makes new ones.
        private final int[] room = new int[KINDS];
        private final boolean[] settled = new boolean[JOBS];

        Bank(Processor processor, Core core, Job[] jobs, int pages) {
            this.processor = processor;
            this.core = core;
            this.jobs = jobs;
            this.pages = pages;
            free[READER] = 1;
            free[PRINTER] = 1;
            free[PAGES] = pages;
        }

        int freeOf(int kind) {
            return kind >= 0 && kind < free.length ? free[kind] : 0;
        }

        int admitted() {
            int count = 0;
            for (Job job : jobs) {
                if (job.state == ADMITTED) {
                    count++;
                }
            }
            return count;
        }

        Job holderOfPrinter() {
            for (Job job : jobs) {
                if (job.state == ADMITTED && job.held(PRINTER) > 0) {
                    return job;
                }
            }
            return null;
        }

        void get(Job job, int kind) {
            if (kind < 0 || kind >= KINDS) {
                job.endsWith = TRAP;
            } else if (job.held(kind) >= job.claimed(kind)) {
                job.endsWith = CLAIM;
            } else if (grants(job, kind)) {
                core.complete(job, job.place + 1);
            } else {
                job.wanted = kind;
                gets.add(job);
                processor.suspend(job.number, FOR_RESOURCE);
            }
        }

        /** True when something came free, so that those who wait may have it. */
        boolean takesBack(Job job, int kind) {
            if (kind < 0 || kind >= KINDS || job.held(kind) <= 0) {
                job.endsWith = TRAP;
                return false;
            }
            if (kind != READER && job.lines.size() > 0) {
                processor.suspend(job.number, FOR_EMPTY_LINES);
                return false;
            }
            move(job, kind, -1);
            core.complete(job, job.place + 1);
            return true;
        }

        /** What the job holds is free again, though the job still tells that it held it. */
        void giveAllBack(Job job) {
            for (int kind = 0; kind < KINDS && kind < free.length; kind++) {
                free[kind] += job.held(kind);
            }
        }

        void grantWaiting() {
            int next = 0;
            int length = gets.size();
            for (int i = 0; i < length && next < gets.size(); i++) {
                Job job = gets.get(next);
                if (grants(job, job.wanted)) {
                    gets.remove(next);
                    core.complete(job, job.place + 1);
                    processor.wake(job.number);
                } else {
                    next++;
                }
            }
        }

        void leaveRow(Job job) {
            for (int i = 0; i < gets.size(); i++) {
                if (gets.get(i) == job) {
                    gets.remove(i);
                    return;
                }
            }
        }

        private boolean grants(Job job, int kind) {
            if (freeOf(kind) <= 0) {
                return false;
            }
            move(job, kind, 1);
            if (allCanEnd()) {
                return true;
            }
            move(job, kind, -1);
            return false;
        }

        private void move(Job job, int kind, int toJob) {
            if (kind >= 0 && kind < free.length && kind < job.holds.length) {
                free[kind] -= toJob;
                job.holds[kind] += toJob;
            }
        }

        /** SAFE: whoever can end is let end, until no more can; none may be left then. */
        private boolean allCanEnd() {
            for (int kind = 0; kind < KINDS; kind++) {
                room[kind] = free[kind];
            }
            int left = 0;
            for (int k = 0; k < JOBS && k < jobs.length; k++) {
                settled[k] = jobs[k].state != ADMITTED;
                left += settled[k] ? 0 : 1;
            }
            for (int round = 0; round < JOBS && left > 0; round++) {
                for (int k = 0; k < JOBS && k < jobs.length; k++) {
                    if (!settled[k] && hasRoomFor(jobs[k])) {
                        settled[k] = true;
                        left--;
                        addToRoom(jobs[k]);
                    }
                }
            }
            return left == 0;
        }

        private boolean hasRoomFor(Job job) {
            for (int kind = 0; kind < KINDS; kind++) {
                if (job.claims[kind] - job.holds[kind] > room[kind]) {
                    return false;
                }
            }
            return true;
        }

        private void addToRoom(Job job) {
            for (int kind = 0; kind < KINDS; kind++) {
                room[kind] += job.holds[kind];
            }
        }
    }

    /** PART 5: the processes READING and PRINTING with their devices, and the paper. */
    private static final class Devices {
        private final Processor processor;
        private final Core core;
        private final Bank bank;
        private final ArrayList<Job> cardRow = new ArrayList<>();
        private final Signal cards;
        private final Signal readerDone;
        private final Signal prints;
        private final Signal printerDone;
        private boolean readerWorks;
        private boolean printerWorks;
        private Job reads;
        private Job printsFor;
        // All jobs share this paper: each line bears the serial of the job that printed it.
        private final int[] paperLines = new int[MOST_PAPER];
        private final int[] paperSerials = new int[MOST_PAPER];
        private int paperCount;

        Devices(Processor processor, Core core, Bank bank) {
            this.processor = processor;
            this.core = core;
            this.bank = bank;
            cards = new Signal(processor, READING, FOR_WORK);
            readerDone = new Signal(processor, READING, FOR_DEVICE);
            prints = new Signal(processor, PRINTING, FOR_WORK);
            printerDone = new Signal(processor, PRINTING, FOR_DEVICE);
            cards.p();
            prints.p();
        }

        void read(Job job) {
            if (job.held(READER) <= 0 || !job.hasCard()) {
                job.endsWith = TRAP;
                return;
            }
            cardRow.add(job);
            processor.suspend(job.number, FOR_CARD);
            cards.v();
        }

        void readingStep() {
            if (reads != null) {
                reads.a = reads.takeCard();
                core.complete(reads, reads.place + 1);
                processor.wake(reads.number);
                reads = null;
                cards.p();
            } else if (cardRow.isEmpty()) {
                cards.p();
            } else {
                reads = cardRow.remove(0);
                readerWorks = true;
                readerDone.p();
            }
        }

        boolean readerIsDone() {
            if (!readerWorks) {
                return false;
            }
            readerWorks = false;
            readerDone.v();
            return true;
        }

        void print(Job job) {
            if (job.held(PRINTER) <= 0 || job.held(PAGES) <= 0) {
                job.endsWith = TRAP;
            } else if (job.lines.size() >= LINES_A_PAGE * job.held(PAGES)) {
                processor.suspend(job.number, FOR_ROOM);
            } else {
                job.lines.append(job.a);
                core.complete(job, job.place + 1);
                prints.v();
            }
        }

        void printingStep() {
            if (printsFor != null) {
                putOnPaper(printsFor);
                wakePrinted(printsFor);
                printsFor = null;
                prints.p();
                return;
            }
            printsFor = bank.holderOfPrinter();
            if (printsFor == null) {
                prints.p();
            } else {
                printerWorks = true;
                printerDone.p();
            }
        }

        private void putOnPaper(Job job) {
            if (paperCount >= 0 && paperCount < MOST_PAPER) {
                paperLines[paperCount] = job.lines.at(0);
                paperSerials[paperCount] = job.serial;
                paperCount++;
                job.onPaper++;
            }
            job.lines.removeAt(0);
        }

        private void wakePrinted(Job job) {
            int cause = processor.causeOf(job.number);
            boolean isEmptied = cause == FOR_EMPTY_LINES && job.lines.size() == 0;
            if (cause == FOR_ROOM || isEmptied) {
                processor.wake(job.number);
            }
        }

        boolean printerIsDone() {
            if (!printerWorks) {
                return false;
            }
            printerWorks = false;
            printerDone.v();
            return true;
        }

        int lineOnPaper(Job job, int i) {
            if (job.state == NO_JOB || i < 0 || i >= job.onPaper) {
                return 0;
            }
            int before = 0;
            for (int n = 0; n < paperCount && n < MOST_PAPER; n++) {
                if (paperSerials[n] == job.serial) {
                    if (before == i) {
                        return paperLines[n];
                    }
                    before++;
                }
            }
            return 0;
        }
    }

    /** PART 5: the process CONSOLE, what is typed and what is said. */
    private static final class Console {
        private final Processor processor;
        private final Core core;
        private final Bank bank;
        private final Job[] jobs;
        private final Signal lines;
        private final byte[] kept = new byte[KEPT_BYTES];
        private int said;
        private final byte[] typed = new byte[TYPED_BYTES];
        private int typedLength;
        // The lines that wait: the first one stands at 0.
        private final byte[][] texts = new byte[TYPED_LINES][TYPED_BYTES];
        private final int[] lengths = new int[TYPED_LINES];
        private int waiting;

        Console(Processor processor, Core core, Bank bank, Job[] jobs) {
            this.processor = processor;
            this.core = core;
            this.bank = bank;
            this.jobs = jobs;
            lines = new Signal(processor, CONSOLE, FOR_WORK);
            lines.p();
        }

        boolean accept(int b) {
            if (b == NEW_LINE) {
                return acceptLine();
            }
            boolean good = b >= 32 && b <= 126 && typedLength >= 0 && typedLength < TYPED_BYTES;
            if (good) {
                typed[typedLength] = (byte) b;
                typedLength++;
            }
            return good;
        }

        private boolean acceptLine() {
            if (waiting < 0 || waiting >= TYPED_LINES) {
                return false;
            }
            for (int i = 0; i < typedLength && i < TYPED_BYTES; i++) {
                texts[waiting][i] = typed[i];
            }
            lengths[waiting] = typedLength;
            typedLength = 0;
            waiting++;
            lines.v();
            return true;
        }

        void step() {
            if (waiting > 0) {
                if (!obeys()) {
                    say('?');
                    say(NEW_LINE);
                }
                dropFirst();
            }
            lines.p();
        }

        private void dropFirst() {
            for (int n = 1; n < waiting && n < TYPED_LINES; n++) {
                for (int i = 0; i < TYPED_BYTES; i++) {
                    texts[n - 1][i] = texts[n][i];
                }
                lengths[n - 1] = lengths[n];
            }
            waiting--;
        }

        /** Does what the first line asks; false, doing nothing, when it is not to be done. */
        private boolean obeys() {
            Job job = jobAt(jobs, digitAt(1));
            if (job == null) {
                return false;
            }
            boolean isShort = lengths[0] == 2;
            switch (signAt(0)) {
                case 'A':
                    return isShort && admits(job);
                case 'C':
                    return isShort && cancels(job);
                case 'R':
                    return replies(job);
                default:
                    return false;
            }
        }

        private boolean admits(Job job) {
            if (job.state != SUBMITTED || 2 * (bank.admitted() + 1) > core.frames.length) {
                return false;
            }
            job.state = ADMITTED;
            processor.wake(job.number);
            return true;
        }

        private boolean cancels(Job job) {
            if (job.state != ADMITTED) {
                return false;
            }
            job.cancelled = true;
            int cause = processor.causeOf(job.number);
            if (cause == FOR_REPLY || cause == FOR_RESOURCE) {
                bank.leaveRow(job);
                processor.wake(job.number);
            }
            return true;
        }

        private boolean replies(Job job) {
            int start = signAt(3) == '-' ? 4 : 3;
            int digits = lengths[0] - start;
            boolean good = signAt(2) == ' ' && digits >= 1 && digits <= 9
                    && processor.causeOf(job.number) == FOR_REPLY;
            int number = 0;
            for (int i = start; good && i < lengths[0]; i++) {
                good = digitAt(i) != NONE;
                number = number * 10 + digitAt(i);
            }
            if (good) {
                job.a = start == 4 ? -number : number;
                core.complete(job, job.place + 1);
                processor.wake(job.number);
            }
            return good;
        }

        private int signAt(int i) {
            return i >= 0 && i < lengths[0] && i < TYPED_BYTES ? texts[0][i] : NONE;
        }

        private int digitAt(int i) {
            int sign = signAt(i);
            return sign >= '0' && sign <= '9' ? sign - '0' : NONE;
        }

        void ask(Job job) {
            say('0' + job.number);
            say('?');
            say(NEW_LINE);
            processor.suspend(job.number, FOR_REPLY);
        }

        void sayOver(Job job) {
            say('0' + job.number);
            say('=');
            say('0' + job.endsWith);
            say(NEW_LINE);
        }

        private void say(int b) {
            if (said >= 0 && said < KEPT_BYTES) {
                kept[said] = (byte) b;
            }
            said++;
        }

        int byteSaid(int i) {
            return i >= 0 && i < said && i < KEPT_BYTES ? kept[i] : NONE;
        }
    }

    /** PART 2 and PART 6: the steps of the jobs. */
    private static final class Machine {
        private final Processor processor;
        private final Core core;
        private final Store store;
        private final Bank bank;
        private final Devices devices;
        private final Console console;

        Machine(Processor processor, Core core, Store store, Bank bank, Devices devices,
                Console console) {
            this.processor = processor;
            this.core = core;
            this.store = store;
            this.bank = bank;
            this.devices = devices;
            this.console = console;
        }

        void step(Job job) {
            if (job.endsWith != 0) {
                end(job);
            } else if (job.cancelled) {
                job.endsWith = CANCELLED;
            } else if (job.steps >= job.limit) {
                job.endsWith = LIMIT;
            } else {
                attempt(job);
            }
        }

        private void end(Job job) {
            if (job.lines.size() > 0) {
                processor.suspend(job.number, FOR_EMPTY_LINES);
                return;
            }
            core.vacateAll(job);
            bank.giveAllBack(job);
            job.state = OVER;
            processor.leave(job.number);
            console.sayOver(job);
            bank.grantWaiting();
        }

        private void attempt(Job job) {
            if (!job.has(job.place)) {
                job.endsWith = TRAP;
                return;
            }
            int segment = job.place / SEGMENT_WORDS;
            Frame own = core.find(job, segment);
            if (own == null) {
                store.ask(job, segment);
                return;
            }
            int word = own.read(job.place);
            int kind = word / 256;
            int address = word % 256;
            if (word >= 0 && hasOperand(kind)) {
                boolean isMoved = kind == 11 || kind == 12;
                attemptOperand(job, own, kind, isMoved ? address + job.x : address);
                return;
            }
            own.used = processor.ticks;
            if (word < 0 || kind > LAST_INSTRUCTION) {
                job.endsWith = TRAP;
            } else {
                control(job, kind, address);
            }
        }

        private static boolean hasOperand(int kind) {
            return kind >= 1 && kind <= 6 || kind >= 10 && kind <= 12;
        }

        /** A step that wants a segment has used no frame, so the own one is marked only here. */
        private void attemptOperand(Job job, Frame own, int kind, int address) {
            if (!job.has(address)) {
                own.used = processor.ticks;
                job.endsWith = TRAP;
                return;
            }
            int segment = address / SEGMENT_WORDS;
            Frame other = core.find(job, segment);
            if (other == null) {
                store.ask(job, segment);
                return;
            }
            own.used = processor.ticks;
            other.used = processor.ticks;
            if (kind == 2 || kind == 12) {
                other.write(address, job.a);
                other.changed = true;
                core.complete(job, job.place + 1);
            } else {
                compute(job, kind, other.read(address));
            }
        }

        private void compute(Job job, int kind, int operand) {
            switch (kind) {
                case 3:
                    job.a += operand;
                    break;
                case 4:
                    job.a -= operand;
                    break;
                case 5:
                    job.a *= operand;
                    break;
                case 6:
                    if (operand == 0) {
                        job.endsWith = TRAP;
                        return;
                    }
                    job.a /= operand;
                    break;
                case 10:
                    job.x = operand;
                    break;
                default:
                    job.a = operand;
                    break;
            }
            core.complete(job, job.place + 1);
        }

        private void control(Job job, int kind, int address) {
            int next = job.place + 1;
            switch (kind) {
                case 0:
                    core.complete(job, next);
                    job.endsWith = ENDED;
                    break;
                case 7:
                    core.complete(job, address);
                    break;
                case 8:
                    core.complete(job, job.a < 0 ? address : next);
                    break;
                case 9:
                    core.complete(job, job.a == 0 ? address : next);
                    break;
                case 13:
                    devices.read(job);
                    break;
                case 14:
                    devices.print(job);
                    break;
                case 15:
                    console.ask(job);
                    break;
                case 16:
                    bank.get(job, address);
                    break;
                case 17:
                    if (bank.takesBack(job, address)) {
                        bank.grantWaiting();
                    }
                    break;
                case 18:
                    job.a = address;
                    core.complete(job, next);
                    break;
                default:
                    job.a = job.x;
                    core.complete(job, next);
                    break;
            }
        }
    }
}
