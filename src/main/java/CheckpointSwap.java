import java.util.NoSuchElementException;

/**
 * A swap area that is also a crash-consistent checkpoint log.
 *
 * <p>Inside, a page is known by its id, 8 * process + page. Each call of the face first looks at its
 * arguments and at the state, throws if the document says so, and only then changes anything.
 */
public final class CheckpointSwap {
    public static final int NONE = -1;

    private static final int PROCESS_LIMIT = 6;
    private static final int PAGE_LIMIT = 8;
    private static final int ID_LIMIT = 48;
    private static final int FRAME_LIMIT = 16;
    private static final int SLOT_LIMIT = 48;
    private static final int TEXT_LIMIT = 400;
    private static final int RECENT_LIMIT = 64;
    private static final int LOG_LIMIT = 8;
    private static final int LOG_WIDTH = 4;
    private static final int UNDO_LIMIT = 10;
    private static final int DIGIT_LIMIT = 9;

    private static final int KIND_FLOAT = 1;
    private static final int POLICY_LOAD = 1;
    private static final int POLICY_CLEAN = 2;
    private static final int POLICY_NEXT = 2;

    private static final int USED_BY_PAGE = 1;
    private static final int USED_BY_CHECKPOINT = 2;
    private static final int USED_BY_BARRIER = 4;

    /** In place of a slot in a record: the page is still to be written. */
    private static final int PENDING = -2;

    private static final int NAN_BITS = 2143289344;
    private static final int EXPONENT_BITS = 0x7f800000;
    private static final int FRACTION_BITS = 0x007fffff;
    private static final int HIDDEN_BIT = 0x00800000;

    /** What speaks against a change; numbers, so that a script can ask without an exception. */
    private static final int ALLOWED = 0;
    private static final int NO_INDEX = 1;
    private static final int BAD_ARGUMENT = 2;
    private static final int BAD_STATE = 3;
    private static final int NO_ELEMENT = 4;
    private static final int UNSUPPORTED = 5;

    private static final int TOKEN_END = 0;
    private static final int TOKEN_WORD = 1;
    private static final int TOKEN_NUMBER = 2;
    private static final int TOKEN_SEMICOLON = 3;
    private static final int TOKEN_STRAY = 4;

    private static final int ERROR_TOKEN = 1;
    private static final int ERROR_RANGE = 2;
    private static final int ERROR_SEVENTH = 3;

    private static final int OP_READ = 0;
    private static final int OP_WRITE = 1;
    private static final int OP_BARRIER = 2;
    private static final int OP_FLUSH = 3;
    private static final int OP_COMMIT = 4;
    private static final int OP_ABANDON = 5;
    private static final int OP_CRASH = 6;
    private static final int OP_ROLLBACK = 7;
    private static final int OP_EVICT = 8;
    private static final int[] OPERAND_COUNTS = {2, 3, 1, 1, 0, 0, 0, 1, 2};
    private static final int OPERAND_LIMIT = 3;

    private final SwapSystem now;
    private final History history;
    private final Text text;
    private final SystemText systemText;
    private final ScriptText scriptText;
    private final Rerun rerun;
    private final StringBuilder report;

    public CheckpointSwap() {
        text = new Text();
        systemText = new SystemText(text);
        scriptText = new ScriptText(text);
        now = new SwapSystem();
        now.install(systemText);
        history = new History();
        rerun = new Rerun();
        report = new StringBuilder();
    }

    // ---- system text

    public int appendText(int a, int b, int c, int d, int e) throws IllegalStateException {
        if (text.length + 20 > TEXT_LIMIT) {
            throw new IllegalStateException("the text would be too long");
        }
        text.putWord(a);
        text.putWord(b);
        text.putWord(c);
        text.putWord(d);
        text.putWord(e);
        return text.length;
    }

    public int truncateText(int length) throws IllegalArgumentException {
        demandArgument(length >= 0 && length <= text.length);
        text.length = length;
        return length;
    }

    public int parseSystem() {
        boolean correct = systemText.parse();
        text.length = 0;
        if (!correct) {
            return NONE;
        }
        now.install(systemText);
        history.forget();
        return now.pages.processes;
    }

    public int errorCode() {
        return systemText.code;
    }

    public int errorPosition() {
        return systemText.position;
    }

    public int processCount() {
        return now.pages.processes;
    }

    public int frameCount() {
        return now.frames.count;
    }

    public int slotCount() {
        return now.slots.count;
    }

    public int epoch() {
        return now.barriers.epoch;
    }

    // ---- changes

    public int readPage(int process, int page)
            throws IndexOutOfBoundsException, IllegalStateException {
        demand(now.refusalToRead(process, page));
        remember();
        return now.read(idOf(process, page));
    }

    public int writePage(int process, int page, int value)
            throws IndexOutOfBoundsException, IllegalStateException {
        demand(now.refusalToWrite(process, page));
        remember();
        return now.write(idOf(process, page), value);
    }

    public int setPolicy(int policy) throws IllegalArgumentException {
        demandArgument(policy >= 0 && policy <= POLICY_CLEAN);
        remember();
        int previous = now.frames.policy;
        now.frames.policy = policy;
        return previous;
    }

    public int startBarrier(int set) throws IllegalArgumentException, IllegalStateException {
        demand(now.refusalToStart(set));
        remember();
        return now.start(set);
    }

    public int writeBarrier(int count) throws IllegalArgumentException, IllegalStateException {
        demand(now.refusalToFlush(count));
        remember();
        return now.flush(count);
    }

    public int commitBarrier() throws IllegalStateException, UnsupportedOperationException {
        demand(now.refusalToCommit());
        remember();
        return now.commit();
    }

    public int abandonBarrier() throws IllegalStateException {
        demand(now.refusalToAbandon());
        remember();
        return now.abandon();
    }

    public int crash() {
        remember();
        return now.crashAll();
    }

    public int rollback(int process)
            throws IndexOutOfBoundsException, NoSuchElementException, IllegalStateException {
        demand(now.refusalToRestore(process));
        remember();
        return now.restore(process);
    }

    public int evictPage(int process, int page)
            throws IndexOutOfBoundsException, UnsupportedOperationException, IllegalStateException {
        demand(now.refusalToEvict(process, page));
        remember();
        return now.evict(idOf(process, page));
    }

    public int runScript() {
        history.keep(now);
        int answer = scriptText.runOn(now);
        text.length = 0;
        if (answer >= 0) {
            history.accept();
        } else {
            history.giveBack(now);
        }
        return answer;
    }

    // ---- pages and frames

    public int pageCount(int process) throws IndexOutOfBoundsException {
        demandIndex(now.pages.hasProcess(process));
        return now.pages.counts[process];
    }

    public int kindOf(int process) throws IndexOutOfBoundsException {
        demandIndex(now.pages.hasProcess(process));
        return now.pages.kinds[process];
    }

    public int peek(int process, int page) throws IndexOutOfBoundsException {
        demandIndex(now.pages.hasPage(process, page));
        return now.pages.values[idOf(process, page)];
    }

    public float peekFloat(int process, int page)
            throws IndexOutOfBoundsException, UnsupportedOperationException {
        demandIndex(now.pages.hasPage(process, page));
        if (now.pages.kinds[process] != KIND_FLOAT) {
            throw new UnsupportedOperationException("not a process of the kind float");
        }
        return floatOfBits(now.pages.values[idOf(process, page)]);
    }

    public int pageState(int process, int page) throws IndexOutOfBoundsException {
        demandIndex(now.pages.hasPage(process, page));
        return now.pages.stateAt(idOf(process, page));
    }

    public int frameOf(int process, int page) throws IndexOutOfBoundsException {
        demandIndex(now.pages.hasPage(process, page));
        return now.pages.frames[idOf(process, page)];
    }

    public int slotOf(int process, int page) throws IndexOutOfBoundsException {
        demandIndex(now.pages.hasPage(process, page));
        return now.pages.swapSlots[idOf(process, page)];
    }

    public int frameOwner(int frame) throws IndexOutOfBoundsException {
        demandIndex(now.frames.hasFrame(frame));
        return now.frames.owners[frame];
    }

    public int frameTime(int frame, int what)
            throws IndexOutOfBoundsException, NoSuchElementException, IllegalArgumentException {
        demandIndex(now.frames.hasFrame(frame));
        demandElement(now.frames.owners[frame] != NONE);
        demandArgument(what == 0 || what == 1);
        return what == 0 ? now.frames.useTimes[frame] : now.frames.loadTimes[frame];
    }

    public int victim() {
        return now.nextVictim();
    }

    public int residentPages(int process) throws IndexOutOfBoundsException {
        demandIndex(now.pages.hasProcess(process));
        return now.pages.residentSet(process);
    }

    public int dirtyPages(int process) throws IndexOutOfBoundsException {
        demandIndex(now.pages.hasProcess(process));
        return now.pages.dirtySets[process];
    }

    // ---- slots

    public int slotUse(int slot) throws IndexOutOfBoundsException {
        demandIndex(now.slots.hasSlot(slot));
        return now.markUses()[slot];
    }

    public int slotOwner(int slot) throws IndexOutOfBoundsException {
        demandIndex(now.slots.hasSlot(slot));
        return now.slots.owners[slot];
    }

    public int slotStamp(int slot) throws IndexOutOfBoundsException {
        demandIndex(now.slots.hasSlot(slot));
        return now.slots.stamps[slot];
    }

    public int slotValue(int slot) throws IndexOutOfBoundsException {
        demandIndex(now.slots.hasSlot(slot));
        return now.slots.values[slot];
    }

    public int nextSlot() {
        return now.nextFree();
    }

    public int freeSlots() {
        return now.countFree();
    }

    public int sharedSlots() {
        return now.countShared();
    }

    public int longestRun() {
        return now.longestFreeRun();
    }

    public int freeSlot(int index) throws IndexOutOfBoundsException {
        demandIndex(index >= 0 && index < now.countFree());
        return now.freeAt(index);
    }

    public int twins(int slot) throws IndexOutOfBoundsException, NoSuchElementException {
        demandIndex(now.slots.hasSlot(slot));
        demandElement(now.markUses()[slot] != 0);
        return now.countTwins(slot);
    }

    // ---- barriers and checkpoints

    public int barrierSet() {
        return now.barriers.set;
    }

    public int pendingPages() {
        return now.barriers.countPending();
    }

    public int pendingPage(int index) throws IndexOutOfBoundsException {
        demandIndex(index >= 0 && index < now.barriers.countPending());
        return now.barriers.pendingAt(index);
    }

    public int checkpointEpoch(int process) throws IndexOutOfBoundsException {
        demandIndex(now.pages.hasProcess(process));
        return now.barriers.checkpointEpochs[process];
    }

    public int checkpointSlot(int process, int page)
            throws IndexOutOfBoundsException, NoSuchElementException {
        demandIndex(now.pages.hasPage(process, page));
        demandElement(now.barriers.checkpointEpochs[process] != NONE);
        return now.barriers.checkpointSlots[idOf(process, page)];
    }

    public int checkpointValue(int process, int page)
            throws IndexOutOfBoundsException, NoSuchElementException {
        demandIndex(now.pages.hasPage(process, page));
        demandElement(now.barriers.checkpointEpochs[process] != NONE);
        return now.restoredValue(idOf(process, page));
    }

    public int wouldWrite(int set) throws IllegalArgumentException {
        demandArgument(now.pages.isProcessSet(set));
        return now.pages.countDirty(set);
    }

    public int wouldFree(int set) throws IllegalArgumentException, IllegalStateException {
        demand(now.refusalToStart(set));
        return now.countFreedBy(set);
    }

    public int bestBarrier(int slots) throws IllegalArgumentException, IllegalStateException {
        demandArgument(slots >= 0 && slots <= SLOT_LIMIT);
        if (now.barriers.set != 0) {
            throw new IllegalStateException("a barrier is in progress");
        }
        return now.bestSet(slots);
    }

    public int lostPages(int process) throws IndexOutOfBoundsException {
        demandIndex(now.pages.hasProcess(process));
        return now.lostSet(process);
    }

    public int barrierLog(int index, int what)
            throws IndexOutOfBoundsException, IllegalArgumentException {
        demandIndex(index >= 0 && index < now.barriers.countLogged());
        demandArgument(what >= 0 && what < LOG_WIDTH);
        return now.barriers.logged(index, what);
    }

    // ---- accesses, totals, report

    public int recentAccess(int index) throws IndexOutOfBoundsException {
        demandIndex(index >= 0 && index < now.accesses.countRecent());
        return now.accesses.recentAt(index);
    }

    public int faultsWith(int frames, int policy) throws IllegalArgumentException {
        demandArgument(frames >= 1 && frames <= FRAME_LIMIT);
        demandArgument(policy >= 0 && policy <= POLICY_NEXT);
        return rerun.countFaults(now.accesses, frames, policy);
    }

    public int leastFrames(int faults) throws IllegalArgumentException, NoSuchElementException {
        demandArgument(faults >= 0 && faults <= RECENT_LIMIT);
        int frames = rerun.fewestFrames(now.accesses, faults);
        demandElement(frames != NONE);
        return frames;
    }

    public int workingSet(int window) throws IllegalArgumentException {
        demandArgument(window >= 1 && window <= RECENT_LIMIT);
        return now.accesses.countDifferent(window);
    }

    public int hottestPage() throws NoSuchElementException {
        demandElement(now.accesses.countRecent() > 0);
        return now.accesses.mostFrequent();
    }

    public int hitRatioBits() throws ArithmeticException {
        int all = now.accesses.count;
        if (all == 0) {
            throw new ArithmeticException("no access yet");
        }
        return bitsOfRatio((float) (all - now.accesses.faults) / (float) all);
    }

    public int total(int what) throws IllegalArgumentException {
        switch (what) {
            case 0:
                return now.accesses.count;
            case 1:
                return now.accesses.faults;
            case 2:
                return now.slots.writes;
            case 3:
                return now.barriers.commits;
            case 4:
                return now.crashes;
            case 5:
                return now.countLost(now.pages.everyProcess());
            case 6:
                return now.pages.countDirty(now.pages.everyProcess());
            case 7:
                return now.frames.policy;
            default:
                throw new IllegalArgumentException("no such total");
        }
    }

    public int writeReport() {
        report.setLength(0);
        report.append("epoch ");
        report.append(now.barriers.epoch);
        report.append(" free ");
        report.append(now.countFree());
        report.append(" accesses ");
        report.append(now.accesses.count);
        report.append('\n');
        for (int process = 0; process < now.pages.processes; process++) {
            reportProcess(process);
        }
        return report.length();
    }

    public int reportByte(int index) throws IndexOutOfBoundsException {
        demandIndex(index >= 0 && index < report.length());
        return report.charAt(index);
    }

    // ---- undo

    public int undo() throws IllegalStateException {
        if (history.depth == 0) {
            throw new IllegalStateException("no change can be undone");
        }
        history.takeBack(now);
        return history.depth;
    }

    public int undoDepth() {
        return history.depth;
    }

    // ---- helpers of the face

    private static int idOf(int process, int page) {
        return PAGE_LIMIT * process + page;
    }

    private void remember() {
        history.keep(now);
        history.accept();
    }

    private static void demand(int refusal) {
        switch (refusal) {
            case NO_INDEX:
                throw new IndexOutOfBoundsException("no such number");
            case BAD_ARGUMENT:
                throw new IllegalArgumentException("an argument is out of its range");
            case BAD_STATE:
                throw new IllegalStateException("not possible in this state");
            case NO_ELEMENT:
                throw new NoSuchElementException("there is none");
            case UNSUPPORTED:
                throw new UnsupportedOperationException("not possible for this one");
            default:
                break;
        }
    }

    private static void demandIndex(boolean holds) {
        demand(holds ? ALLOWED : NO_INDEX);
    }

    private static void demandArgument(boolean holds) {
        demand(holds ? ALLOWED : BAD_ARGUMENT);
    }

    private static void demandElement(boolean holds) {
        demand(holds ? ALLOWED : NO_ELEMENT);
    }

    private void reportProcess(int process) {
        report.append("process ");
        report.append(process);
        report.append(now.pages.kinds[process] == KIND_FLOAT ? " float" : " int");
        report.append(" checkpoint ");
        int checkpoint = now.barriers.checkpointEpochs[process];
        if (checkpoint == NONE) {
            report.append("none");
        } else {
            report.append(checkpoint);
        }
        for (int page = 0; page < now.pages.counts[process]; page++) {
            report.append(' ');
            report.append(now.pages.stateAt(idOf(process, page)));
        }
        report.append('\n');
    }

    private static boolean isNanPattern(int bits) {
        return (bits & EXPONENT_BITS) == EXPONENT_BITS && (bits & FRACTION_BITS) != 0;
    }

    /** Every product on the way is exact; a pattern of infinity overflows to it at the last doubling. */
    private static float floatOfBits(int bits) {
        if (isNanPattern(bits)) {
            // Java has no literal for NaN; the compiler makes a constant of this, so nothing is divided.
            return 0.0f / 0.0f;
        }
        int exponent = (bits & EXPONENT_BITS) >> 23;
        int fraction = bits & FRACTION_BITS;
        float value = (float) (exponent == 0 ? fraction : fraction + HIDDEN_BIT);
        int scale = (exponent == 0 ? 1 : exponent) - 150;
        for (int k = 0; k < scale; k++) {
            value = value * 2.0f;
        }
        for (int k = 0; k > scale; k--) {
            value = value * 0.5f;
        }
        return bits < 0 ? value * -1.0f : value;
    }

    /** For ratios from 0 to 1 alone. */
    private static int bitsOfRatio(float ratio) {
        if (ratio <= 0.0f) {
            return 0;
        }
        float scaled = ratio;
        int exponent = 127;
        while (scaled < 1.0f && exponent > 1) {
            scaled = scaled * 2.0f;
            exponent--;
        }
        return (exponent << 23) + (int) (scaled * (float) HIDDEN_BIT) - HIDDEN_BIT;
    }

    /** The processes, and what is known of each page; ids that are no page keep their first values. */
    private static final class Pages {
        int processes;
        final int[] counts = new int[PROCESS_LIMIT];
        final int[] kinds = new int[PROCESS_LIMIT];
        final int[] dirtySets = new int[PROCESS_LIMIT];
        final int[] values = new int[ID_LIMIT];
        final int[] frames = new int[ID_LIMIT];
        final int[] swapSlots = new int[ID_LIMIT];

        void install(SystemText description) {
            processes = description.processes;
            for (int process = 0; process < PROCESS_LIMIT; process++) {
                boolean there = process < processes;
                counts[process] = there ? description.counts[process] : 0;
                kinds[process] = there ? description.kinds[process] : 0;
                dirtySets[process] = 0;
            }
            for (int id = 0; id < ID_LIMIT; id++) {
                values[id] = 0;
                frames[id] = NONE;
                swapSlots[id] = NONE;
            }
        }

        void copyFrom(Pages other) {
            processes = other.processes;
            System.arraycopy(other.counts, 0, counts, 0, PROCESS_LIMIT);
            System.arraycopy(other.kinds, 0, kinds, 0, PROCESS_LIMIT);
            System.arraycopy(other.dirtySets, 0, dirtySets, 0, PROCESS_LIMIT);
            System.arraycopy(other.values, 0, values, 0, ID_LIMIT);
            System.arraycopy(other.frames, 0, frames, 0, ID_LIMIT);
            System.arraycopy(other.swapSlots, 0, swapSlots, 0, ID_LIMIT);
        }

        boolean hasProcess(int process) {
            return process >= 0 && process < processes;
        }

        boolean hasPage(int process, int page) {
            return hasProcess(process) && page >= 0 && page < counts[process];
        }

        int everyProcess() {
            return (1 << processes) - 1;
        }

        boolean isProcessSet(int set) {
            return set != 0 && (set & ~everyProcess()) == 0;
        }

        boolean isDirty(int id) {
            return (dirtySets[id / PAGE_LIMIT] & (1 << (id % PAGE_LIMIT))) != 0;
        }

        void makeDirty(int id) {
            dirtySets[id / PAGE_LIMIT] |= 1 << (id % PAGE_LIMIT);
        }

        void makeClean(int id) {
            dirtySets[id / PAGE_LIMIT] &= ~(1 << (id % PAGE_LIMIT));
        }

        void store(int id, int value) {
            boolean nan = kinds[id / PAGE_LIMIT] == KIND_FLOAT && isNanPattern(value);
            values[id] = nan ? NAN_BITS : value;
        }

        int stateAt(int id) {
            if (frames[id] == NONE) {
                return swapSlots[id] == NONE ? 0 : 1;
            }
            return isDirty(id) ? 3 : 2;
        }

        int residentSet(int process) {
            int set = 0;
            for (int page = 0; page < counts[process]; page++) {
                if (frames[idOf(process, page)] != NONE) {
                    set |= 1 << page;
                }
            }
            return set;
        }

        int countDirty(int set) {
            int count = 0;
            for (int process = 0; process < processes; process++) {
                if ((set & (1 << process)) != 0) {
                    count += Integer.bitCount(dirtySets[process]);
                }
            }
            return count;
        }
    }

    /** The frames with the pages in them. */
    private static final class Frames {
        int count;
        int policy;
        final int[] owners = new int[FRAME_LIMIT];
        final int[] useTimes = new int[FRAME_LIMIT];
        final int[] loadTimes = new int[FRAME_LIMIT];

        void install(SystemText description) {
            count = description.frames;
            policy = description.policy;
            for (int frame = 0; frame < FRAME_LIMIT; frame++) {
                owners[frame] = NONE;
                useTimes[frame] = 0;
                loadTimes[frame] = 0;
            }
        }

        void copyFrom(Frames other) {
            count = other.count;
            policy = other.policy;
            System.arraycopy(other.owners, 0, owners, 0, FRAME_LIMIT);
            System.arraycopy(other.useTimes, 0, useTimes, 0, FRAME_LIMIT);
            System.arraycopy(other.loadTimes, 0, loadTimes, 0, FRAME_LIMIT);
        }

        boolean hasFrame(int frame) {
            return frame >= 0 && frame < count;
        }

        int firstFree() {
            for (int frame = 0; frame < count; frame++) {
                if (owners[frame] == NONE) {
                    return frame;
                }
            }
            return NONE;
        }
    }

    /** What the slots contain; how they are used follows from pages, checkpoints and records. */
    private static final class Slots {
        int count;
        int writes;
        final int[] values = new int[SLOT_LIMIT];
        final int[] owners = new int[SLOT_LIMIT];
        final int[] stamps = new int[SLOT_LIMIT];

        void install(SystemText description) {
            count = description.slots;
            writes = 0;
            for (int slot = 0; slot < SLOT_LIMIT; slot++) {
                values[slot] = 0;
                owners[slot] = NONE;
                stamps[slot] = NONE;
            }
        }

        void copyFrom(Slots other) {
            count = other.count;
            writes = other.writes;
            System.arraycopy(other.values, 0, values, 0, SLOT_LIMIT);
            System.arraycopy(other.owners, 0, owners, 0, SLOT_LIMIT);
            System.arraycopy(other.stamps, 0, stamps, 0, SLOT_LIMIT);
        }

        boolean hasSlot(int slot) {
            return slot >= 0 && slot < count;
        }

        void put(int slot, int id, int value, int epoch) {
            values[slot] = value;
            owners[slot] = id;
            stamps[slot] = epoch;
            writes++;
        }
    }

    /** The barrier in progress (its set is 0 if there is none), the checkpoints, and the latest commits. */
    private static final class Barriers {
        int epoch;
        int set;
        int pendingAtStart;
        int commits;
        final int[] records = new int[ID_LIMIT];
        final int[] checkpointEpochs = new int[PROCESS_LIMIT];
        final int[] checkpointSlots = new int[ID_LIMIT];
        final int[] log = new int[LOG_LIMIT * LOG_WIDTH];

        void install() {
            epoch = 0;
            commits = 0;
            clearRecords();
            for (int process = 0; process < PROCESS_LIMIT; process++) {
                checkpointEpochs[process] = NONE;
            }
            for (int id = 0; id < ID_LIMIT; id++) {
                checkpointSlots[id] = NONE;
            }
        }

        void copyFrom(Barriers other) {
            epoch = other.epoch;
            set = other.set;
            pendingAtStart = other.pendingAtStart;
            commits = other.commits;
            System.arraycopy(other.records, 0, records, 0, ID_LIMIT);
            System.arraycopy(other.checkpointEpochs, 0, checkpointEpochs, 0, PROCESS_LIMIT);
            System.arraycopy(other.checkpointSlots, 0, checkpointSlots, 0, ID_LIMIT);
            System.arraycopy(other.log, 0, log, 0, LOG_LIMIT * LOG_WIDTH);
        }

        boolean covers(int process) {
            return (set & (1 << process)) != 0;
        }

        void clearRecords() {
            set = 0;
            pendingAtStart = 0;
            for (int id = 0; id < ID_LIMIT; id++) {
                records[id] = NONE;
            }
        }

        int countPending() {
            int count = 0;
            for (int id = 0; id < ID_LIMIT; id++) {
                if (records[id] == PENDING) {
                    count++;
                }
            }
            return count;
        }

        /** Ids ascend as the pages are written; NONE if there are not so many. */
        int pendingAt(int index) {
            int before = 0;
            for (int id = 0; id < ID_LIMIT; id++) {
                if (records[id] == PENDING) {
                    if (before == index) {
                        return id;
                    }
                    before++;
                }
            }
            return NONE;
        }

        void recordsBecomeCheckpoints() {
            for (int id = 0; id < ID_LIMIT; id++) {
                int process = id / PAGE_LIMIT;
                if (covers(process)) {
                    checkpointSlots[id] = records[id];
                    checkpointEpochs[process] = epoch;
                }
            }
        }

        void addToLog(int processes, int pending, int freed) {
            int row = (commits % LOG_LIMIT) * LOG_WIDTH;
            log[row] = processes;
            log[row + 1] = epoch;
            log[row + 2] = pending;
            log[row + 3] = freed;
            commits++;
        }

        int countLogged() {
            return Math.min(commits, LOG_LIMIT);
        }

        int logged(int index, int what) {
            return log[((commits - 1 - index) % LOG_LIMIT) * LOG_WIDTH + what];
        }
    }

    /** The counts of accesses and the recent ones. */
    private static final class Accesses {
        int count;
        int faults;
        int sinceCrash;
        final int[] recent = new int[RECENT_LIMIT];

        void install() {
            count = 0;
            faults = 0;
            sinceCrash = 0;
        }

        void copyFrom(Accesses other) {
            count = other.count;
            faults = other.faults;
            sinceCrash = other.sinceCrash;
            System.arraycopy(other.recent, 0, recent, 0, RECENT_LIMIT);
        }

        void add(int id) {
            count++;
            recent[sinceCrash % RECENT_LIMIT] = id;
            sinceCrash++;
        }

        int countRecent() {
            return Math.min(sinceCrash, RECENT_LIMIT);
        }

        int recentAt(int index) {
            return recent[(sinceCrash - 1 - index) % RECENT_LIMIT];
        }

        int countDifferent(int window) {
            int latest = Math.min(window, countRecent());
            long seen = 0;
            for (int index = 0; index < latest; index++) {
                seen |= 1L << recentAt(index);
            }
            return Long.bitCount(seen);
        }

        int mostFrequent() {
            int best = NONE;
            int bestCount = 0;
            for (int id = 0; id < ID_LIMIT; id++) {
                int times = countOf(id);
                if (times > bestCount) {
                    best = id;
                    bestCount = times;
                }
            }
            return best;
        }

        private int countOf(int id) {
            int times = 0;
            for (int index = 0; index < countRecent(); index++) {
                if (recent[index] == id) {
                    times++;
                }
            }
            return times;
        }
    }

    /** The whole state that undo() gives back, and the changes of it. */
    private static final class SwapSystem {
        final Pages pages = new Pages();
        final Frames frames = new Frames();
        final Slots slots = new Slots();
        final Barriers barriers = new Barriers();
        final Accesses accesses = new Accesses();
        int crashes;
        /** No part of the state: markUses() fills it anew. */
        final int[] uses = new int[SLOT_LIMIT];

        void install(SystemText description) {
            pages.install(description);
            frames.install(description);
            slots.install(description);
            barriers.install();
            accesses.install();
            crashes = 0;
        }

        void copyFrom(SwapSystem other) {
            pages.copyFrom(other.pages);
            frames.copyFrom(other.frames);
            slots.copyFrom(other.slots);
            barriers.copyFrom(other.barriers);
            accesses.copyFrom(other.accesses);
            crashes = other.crashes;
        }

        // -- slots

        int[] markUses() {
            for (int slot = 0; slot < SLOT_LIMIT; slot++) {
                uses[slot] = 0;
            }
            for (int id = 0; id < ID_LIMIT; id++) {
                if (pages.swapSlots[id] >= 0) {
                    uses[pages.swapSlots[id]] |= USED_BY_PAGE;
                }
                if (barriers.checkpointSlots[id] >= 0) {
                    uses[barriers.checkpointSlots[id]] |= USED_BY_CHECKPOINT;
                }
                if (barriers.records[id] >= 0) {
                    uses[barriers.records[id]] |= USED_BY_BARRIER;
                }
            }
            return uses;
        }

        int nextFree() {
            markUses();
            return leastStampedUnused();
        }

        private int leastStampedUnused() {
            int best = NONE;
            for (int slot = 0; slot < slots.count; slot++) {
                boolean free = uses[slot] == 0;
                if (free && (best == NONE || slots.stamps[slot] < slots.stamps[best])) {
                    best = slot;
                }
            }
            return best;
        }

        int countFree() {
            markUses();
            int count = 0;
            for (int slot = 0; slot < slots.count; slot++) {
                if (uses[slot] == 0) {
                    count++;
                }
            }
            return count;
        }

        int countShared() {
            markUses();
            int count = 0;
            for (int slot = 0; slot < slots.count; slot++) {
                if (Integer.bitCount(uses[slot]) > 1) {
                    count++;
                }
            }
            return count;
        }

        int longestFreeRun() {
            markUses();
            int longest = 0;
            int run = 0;
            for (int slot = 0; slot < slots.count; slot++) {
                run = uses[slot] == 0 ? run + 1 : 0;
                longest = Math.max(longest, run);
            }
            return longest;
        }

        /** Marks the slots before it as used, one after the other, as pages would take them. */
        int freeAt(int index) {
            markUses();
            int slot = leastStampedUnused();
            for (int before = 0; before < index && slot != NONE; before++) {
                uses[slot] = USED_BY_PAGE;
                slot = leastStampedUnused();
            }
            return slot;
        }

        int countTwins(int slot) {
            markUses();
            int count = 0;
            for (int other = 0; other < slots.count; other++) {
                boolean same = slots.values[other] == slots.values[slot];
                if (other != slot && uses[other] != 0 && same) {
                    count++;
                }
            }
            return count;
        }

        // -- accesses

        int nextVictim() {
            if (frames.firstFree() != NONE) {
                return NONE;
            }
            int best = frames.policy == POLICY_CLEAN ? earliest(true) : NONE;
            return best == NONE ? earliest(false) : best;
        }

        /** All frames are full when this is asked. */
        private int earliest(boolean cleanOnly) {
            int[] times = frames.policy == POLICY_LOAD ? frames.loadTimes : frames.useTimes;
            int best = NONE;
            for (int frame = 0; frame < frames.count; frame++) {
                boolean fits = !cleanOnly || !pages.isDirty(frames.owners[frame]);
                if (fits && (best == NONE || times[frame] < times[best])) {
                    best = frame;
                }
            }
            return best;
        }

        /** Whether an access must evict a dirty page and no slot is free for it. */
        private boolean lacksSlot(int id) {
            int frame = pages.frames[id] == NONE ? nextVictim() : NONE;
            return frame != NONE && pages.isDirty(frames.owners[frame]) && nextFree() == NONE;
        }

        int refusalToRead(int process, int page) {
            if (!pages.hasPage(process, page)) {
                return NO_INDEX;
            }
            return lacksSlot(idOf(process, page)) ? BAD_STATE : ALLOWED;
        }

        int read(int id) {
            makeRoom(id);
            access(id);
            return pages.values[id];
        }

        int refusalToWrite(int process, int page) {
            if (!pages.hasPage(process, page)) {
                return NO_INDEX;
            }
            int id = idOf(process, page);
            if (barriers.records[id] == PENDING) {
                return nextFree() == NONE ? BAD_STATE : ALLOWED;
            }
            return lacksSlot(id) ? BAD_STATE : ALLOWED;
        }

        int write(int id, int value) {
            if (barriers.records[id] == PENDING) {
                writeOut(id, nextFree());
            }
            makeRoom(id);
            access(id);
            int previous = pages.values[id];
            pages.store(id, value);
            pages.swapSlots[id] = NONE;
            pages.makeDirty(id);
            return previous;
        }

        /** Evicts the victim if an access to a page needs its frame. */
        private void makeRoom(int id) {
            int frame = pages.frames[id] == NONE ? nextVictim() : NONE;
            if (frame != NONE) {
                evict(frames.owners[frame]);
            }
        }

        private void access(int id) {
            accesses.add(id);
            if (pages.frames[id] == NONE) {
                accesses.faults++;
                load(id);
            }
            int frame = pages.frames[id];
            if (frame != NONE) {
                frames.useTimes[frame] = accesses.count;
            }
        }

        private void load(int id) {
            int frame = frames.firstFree();
            if (frame != NONE) {
                frames.owners[frame] = id;
                frames.loadTimes[frame] = accesses.count;
                pages.frames[id] = frame;
            }
        }

        int refusalToEvict(int process, int page) {
            if (!pages.hasPage(process, page)) {
                return NO_INDEX;
            }
            int id = idOf(process, page);
            if (pages.frames[id] == NONE) {
                return UNSUPPORTED;
            }
            return pages.isDirty(id) && nextFree() == NONE ? BAD_STATE : ALLOWED;
        }

        int evict(int id) {
            if (pages.isDirty(id)) {
                writeOut(id, nextFree());
            }
            leaveFrame(id);
            return pages.swapSlots[id];
        }

        private void leaveFrame(int id) {
            int frame = pages.frames[id];
            if (frame != NONE) {
                frames.owners[frame] = NONE;
                pages.frames[id] = NONE;
            }
        }

        /** Whoever calls this has seen before that a slot is free. */
        private void writeOut(int id, int slot) {
            if (slot == NONE) {
                return;
            }
            slots.put(slot, id, pages.values[id], barriers.epoch);
            pages.swapSlots[id] = slot;
            pages.makeClean(id);
            if (barriers.records[id] == PENDING) {
                barriers.records[id] = slot;
            }
        }

        // -- barriers

        int refusalToStart(int set) {
            if (!pages.isProcessSet(set)) {
                return BAD_ARGUMENT;
            }
            return barriers.set != 0 ? BAD_STATE : ALLOWED;
        }

        int start(int set) {
            barriers.epoch++;
            barriers.set = set;
            for (int id = 0; id < ID_LIMIT; id++) {
                if (barriers.covers(id / PAGE_LIMIT)) {
                    barriers.records[id] = pages.isDirty(id) ? PENDING : pages.swapSlots[id];
                }
            }
            barriers.pendingAtStart = barriers.countPending();
            return barriers.pendingAtStart;
        }

        int refusalToFlush(int count) {
            if (count < 1 || count > SLOT_LIMIT) {
                return BAD_ARGUMENT;
            }
            return barriers.set == 0 ? BAD_STATE : ALLOWED;
        }

        int flush(int count) {
            for (int written = 0; written < count; written++) {
                int id = barriers.pendingAt(0);
                int slot = nextFree();
                if (id == NONE || slot == NONE) {
                    break;
                }
                writeOut(id, slot);
            }
            return barriers.countPending();
        }

        int refusalToCommit() {
            if (barriers.set == 0) {
                return BAD_STATE;
            }
            return barriers.countPending() > 0 ? UNSUPPORTED : ALLOWED;
        }

        int commit() {
            int freeBefore = countFree();
            int set = barriers.set;
            int pending = barriers.pendingAtStart;
            barriers.recordsBecomeCheckpoints();
            barriers.clearRecords();
            int freed = countFree() - freeBefore;
            barriers.addToLog(set, pending, freed);
            return freed;
        }

        int refusalToAbandon() {
            return barriers.set == 0 ? BAD_STATE : ALLOWED;
        }

        int abandon() {
            int freeBefore = countFree();
            barriers.clearRecords();
            return countFree() - freeBefore;
        }

        /** A new barrier records every swap slot again, so its commit frees what only the former checkpoints use. */
        int countFreedBy(int set) {
            markUses();
            int count = 0;
            for (int id = 0; id < ID_LIMIT; id++) {
                int slot = barriers.checkpointSlots[id];
                boolean chosen = (set & (1 << (id / PAGE_LIMIT))) != 0;
                if (chosen && slot != NONE && uses[slot] == USED_BY_CHECKPOINT) {
                    count++;
                }
            }
            return count;
        }

        /** A process of the committed set loses nothing, so only the others count. */
        int bestSet(int slotLimit) {
            int best = 0;
            int bestLost = 0;
            int bestWrites = 0;
            int every = pages.everyProcess();
            for (int set = 1; set <= every; set++) {
                int writes = pages.countDirty(set);
                int lost = countLost(every & ~set);
                boolean better = lost < bestLost || lost == bestLost && writes < bestWrites;
                if (writes <= slotLimit && (best == 0 || better)) {
                    best = set;
                    bestLost = lost;
                    bestWrites = writes;
                }
            }
            return best;
        }

        // -- crash and rollback

        int restoredValue(int id) {
            int slot = barriers.checkpointSlots[id];
            return slot == NONE ? 0 : slots.values[slot];
        }

        int lostSet(int process) {
            int set = 0;
            for (int page = 0; page < pages.counts[process]; page++) {
                int id = idOf(process, page);
                if (pages.values[id] != restoredValue(id)) {
                    set |= 1 << page;
                }
            }
            return set;
        }

        int countLost(int set) {
            int count = 0;
            for (int process = 0; process < pages.processes; process++) {
                if ((set & (1 << process)) != 0) {
                    count += Integer.bitCount(lostSet(process));
                }
            }
            return count;
        }

        int refusalToRestore(int process) {
            if (!pages.hasProcess(process)) {
                return NO_INDEX;
            }
            if (barriers.checkpointEpochs[process] == NONE) {
                return NO_ELEMENT;
            }
            return barriers.covers(process) ? BAD_STATE : ALLOWED;
        }

        /** Serves a process without a checkpoint too: its checkpoint slots are all NONE. */
        int restore(int process) {
            int lost = lostSet(process);
            for (int page = 0; page < pages.counts[process]; page++) {
                int id = idOf(process, page);
                leaveFrame(id);
                pages.makeClean(id);
                pages.values[id] = restoredValue(id);
                pages.swapSlots[id] = barriers.checkpointSlots[id];
            }
            return lost;
        }

        int crashAll() {
            int checkpointed = 0;
            barriers.clearRecords();
            for (int process = 0; process < pages.processes; process++) {
                restore(process);
                if (barriers.checkpointEpochs[process] != NONE) {
                    checkpointed |= 1 << process;
                }
            }
            accesses.sinceCrash = 0;
            crashes++;
            return checkpointed;
        }
    }

    /** The states that undo() can give back, and one spare place for the state before a script. */
    private static final class History {
        final SwapSystem[] kept = new SwapSystem[UNDO_LIMIT + 1];
        int spare;
        int depth;

        void keep(SwapSystem state) {
            if (kept[spare] == null) {
                kept[spare] = new SwapSystem();
            }
            kept[spare].copyFrom(state);
        }

        /** What was kept last can be undone from now on. */
        void accept() {
            spare = (spare + 1) % (UNDO_LIMIT + 1);
            depth = Math.min(depth + 1, UNDO_LIMIT);
        }

        void giveBack(SwapSystem state) {
            if (kept[spare] != null) {
                state.copyFrom(kept[spare]);
            }
        }

        void takeBack(SwapSystem state) {
            spare = (spare + UNDO_LIMIT) % (UNDO_LIMIT + 1);
            depth--;
            giveBack(state);
        }

        void forget() {
            depth = 0;
        }
    }

    /** The text buffer, and the token of it that is looked at. */
    private static final class Text {
        final int[] bytes = new int[TEXT_LIMIT];
        int length;
        int start;
        int end;
        int kind;

        void putWord(int word) {
            for (int shift = 24; shift >= 0 && length < TEXT_LIMIT; shift -= 8) {
                bytes[length] = (word >>> shift) & 255;
                length++;
            }
        }

        void firstToken() {
            end = 0;
            nextToken();
        }

        void nextToken() {
            start = end;
            while (start < length && (bytes[start] == ' ' || bytes[start] == '\n')) {
                start++;
            }
            end = start;
            if (start >= length) {
                kind = TOKEN_END;
                return;
            }
            kind = tokenKind(bytes[start]);
            end++;
            boolean grows = kind == TOKEN_WORD || kind == TOKEN_NUMBER;
            while (grows && end < length && tokenKind(bytes[end]) == kind) {
                end++;
            }
        }

        private static int tokenKind(int first) {
            if (first >= 'a' && first <= 'z') {
                return TOKEN_WORD;
            }
            if (first >= '0' && first <= '9') {
                return TOKEN_NUMBER;
            }
            return first == ';' ? TOKEN_SEMICOLON : TOKEN_STRAY;
        }

        boolean isWord(String word) {
            if (kind != TOKEN_WORD || end - start != word.length()) {
                return false;
            }
            for (int k = 0; k < word.length(); k++) {
                if (bytes[start + k] != word.charAt(k)) {
                    return false;
                }
            }
            return true;
        }

        /** NONE if the number has too many digits. */
        int number() {
            if (end - start > DIGIT_LIMIT) {
                return NONE;
            }
            int number = 0;
            for (int k = start; k < end; k++) {
                number = 10 * number + bytes[k] - '0';
            }
            return number;
        }
    }

    /** Reads a system text; at first it describes the system that a new object has. */
    private static final class SystemText {
        final Text text;
        int code;
        int position = NONE;
        int frames = 1;
        int slots = 1;
        int policy;
        int processes;
        final int[] kinds = new int[PROCESS_LIMIT];
        final int[] counts = new int[PROCESS_LIMIT];

        SystemText(Text text) {
            this.text = text;
        }

        boolean parse() {
            code = 0;
            position = NONE;
            processes = 0;
            text.firstToken();
            if (!readHead()) {
                return false;
            }
            for (int k = 0; k <= PROCESS_LIMIT; k++) {
                if (processes > 0 && text.kind == TOKEN_END) {
                    return true;
                }
                if (!readProcess()) {
                    return false;
                }
            }
            return false;
        }

        private boolean readHead() {
            if (!text.isWord("system")) {
                return fail(ERROR_TOKEN);
            }
            text.nextToken();
            frames = readNumber(FRAME_LIMIT);
            slots = frames == NONE ? NONE : readNumber(SLOT_LIMIT);
            policy = slots == NONE ? NONE : readWord("lru", "fifo", "clean");
            return policy != NONE && readSemicolon();
        }

        private boolean readProcess() {
            if (!text.isWord("process")) {
                return fail(ERROR_TOKEN);
            }
            if (processes >= PROCESS_LIMIT) {
                return fail(ERROR_SEVENTH);
            }
            text.nextToken();
            int kind = readWord("int", "float", "");
            int count = kind == NONE ? NONE : readNumber(PAGE_LIMIT);
            if (count == NONE || !readSemicolon()) {
                return false;
            }
            kinds[processes] = kind;
            counts[processes] = count;
            processes++;
            return true;
        }

        private boolean fail(int failure) {
            code = failure;
            position = text.start;
            return false;
        }

        private int readNumber(int highest) {
            if (text.kind != TOKEN_NUMBER) {
                fail(ERROR_TOKEN);
                return NONE;
            }
            int number = text.number();
            if (number < 1 || number > highest) {
                fail(ERROR_RANGE);
                return NONE;
            }
            text.nextToken();
            return number;
        }

        /** No word is empty, so an empty choice is none. */
        private int readWord(String first, String second, String third) {
            int choice = NONE;
            if (text.isWord(first)) {
                choice = 0;
            } else if (text.isWord(second)) {
                choice = 1;
            } else if (text.isWord(third)) {
                choice = 2;
            }
            if (choice == NONE) {
                fail(ERROR_TOKEN);
            } else {
                text.nextToken();
            }
            return choice;
        }

        private boolean readSemicolon() {
            if (text.kind != TOKEN_SEMICOLON) {
                return fail(ERROR_TOKEN);
            }
            text.nextToken();
            return true;
        }
    }

    /** Reads a script text and executes its operations. */
    private static final class ScriptText {
        final Text text;
        final int[] operands = new int[OPERAND_LIMIT];

        ScriptText(Text text) {
            this.text = text;
        }

        /** Leaves the state of a wrong script half changed: the caller gives the former one back. */
        int runOn(SwapSystem state) {
            text.firstToken();
            for (int done = 0; done <= TEXT_LIMIT; done++) {
                if (text.kind == TOKEN_END) {
                    return done;
                }
                int start = text.start;
                int operation = operationHere();
                if (operation == NONE || !readOperands(OPERAND_COUNTS[operation])) {
                    return -1 - text.start;
                }
                if (refusal(state, operation) != ALLOWED) {
                    return -1 - start;
                }
                execute(state, operation);
                text.nextToken();
            }
            return -1 - text.start;
        }

        private int operationHere() {
            if (text.isWord("read")) {
                return OP_READ;
            } else if (text.isWord("write")) {
                return OP_WRITE;
            } else if (text.isWord("barrier")) {
                return OP_BARRIER;
            } else if (text.isWord("flush")) {
                return OP_FLUSH;
            } else if (text.isWord("commit")) {
                return OP_COMMIT;
            } else if (text.isWord("abandon")) {
                return OP_ABANDON;
            } else if (text.isWord("crash")) {
                return OP_CRASH;
            } else if (text.isWord("rollback")) {
                return OP_ROLLBACK;
            } else if (text.isWord("evict")) {
                return OP_EVICT;
            }
            return NONE;
        }

        /** Ends at the semicolon, or at the token that cannot stand where it stands. */
        private boolean readOperands(int count) {
            text.nextToken();
            for (int k = 0; k < count && k < OPERAND_LIMIT; k++) {
                if (text.kind != TOKEN_NUMBER || text.number() == NONE) {
                    return false;
                }
                operands[k] = text.number();
                text.nextToken();
            }
            return text.kind == TOKEN_SEMICOLON;
        }

        private void execute(SwapSystem state, int operation) {
            int id = idOf(operands[0], operands[1]);
            switch (operation) {
                case OP_READ:
                    state.read(id);
                    break;
                case OP_WRITE:
                    state.write(id, operands[2]);
                    break;
                case OP_BARRIER:
                    state.start(operands[0]);
                    break;
                case OP_FLUSH:
                    state.flush(operands[0]);
                    break;
                case OP_COMMIT:
                    state.commit();
                    break;
                case OP_ABANDON:
                    state.abandon();
                    break;
                case OP_CRASH:
                    state.crashAll();
                    break;
                case OP_ROLLBACK:
                    state.restore(operands[0]);
                    break;
                default:
                    state.evict(id);
                    break;
            }
        }

        private int refusal(SwapSystem state, int operation) {
            switch (operation) {
                case OP_READ:
                    return state.refusalToRead(operands[0], operands[1]);
                case OP_WRITE:
                    return state.refusalToWrite(operands[0], operands[1]);
                case OP_BARRIER:
                    return state.refusalToStart(operands[0]);
                case OP_FLUSH:
                    return state.refusalToFlush(operands[0]);
                case OP_COMMIT:
                    return state.refusalToCommit();
                case OP_ABANDON:
                    return state.refusalToAbandon();
                case OP_CRASH:
                    return ALLOWED;
                case OP_ROLLBACK:
                    return state.refusalToRestore(operands[0]);
                default:
                    return state.refusalToEvict(operands[0], operands[1]);
            }
        }
    }

    /** Runs the recent accesses again with other frames. */
    private static final class Rerun {
        final int[] owners = new int[FRAME_LIMIT];
        /** The frame with the least rank goes first. */
        final int[] ranks = new int[FRAME_LIMIT];
        final int[] order = new int[RECENT_LIMIT];
        final int[] nextTimes = new int[RECENT_LIMIT];
        final int[] nextOfPage = new int[ID_LIMIT];
        int length;
        int used;

        int countFaults(Accesses accesses, int frames, int policy) {
            lookUp(accesses);
            int faults = 0;
            used = 0;
            for (int time = 0; time < length; time++) {
                int frame = frameWith(order[time]);
                boolean fault = frame == NONE;
                if (fault) {
                    faults++;
                    frame = used < frames ? used : leastRanked();
                    used = Math.max(used, frame + 1);
                    owners[frame] = order[time];
                }
                if (fault || policy != POLICY_LOAD) {
                    ranks[frame] = policy == POLICY_NEXT ? -nextTimes[time] : time;
                }
            }
            return faults;
        }

        int fewestFrames(Accesses accesses, int faults) {
            for (int frames = 1; frames <= FRAME_LIMIT; frames++) {
                if (countFaults(accesses, frames, POLICY_NEXT) <= faults) {
                    return frames;
                }
            }
            return NONE;
        }

        private void lookUp(Accesses accesses) {
            length = accesses.countRecent();
            for (int id = 0; id < ID_LIMIT; id++) {
                nextOfPage[id] = RECENT_LIMIT;
            }
            for (int time = length - 1; time >= 0; time--) {
                order[time] = accesses.recentAt(length - 1 - time);
                nextTimes[time] = nextOfPage[order[time]];
                nextOfPage[order[time]] = time;
            }
        }

        private int frameWith(int id) {
            for (int frame = 0; frame < used; frame++) {
                if (owners[frame] == id) {
                    return frame;
                }
            }
            return NONE;
        }

        /** Only pages that are not accessed any more can have the same rank; the lowest number counts then. */
        private int leastRanked() {
            int best = 0;
            for (int frame = 1; frame < used; frame++) {
                boolean lower = ranks[frame] == ranks[best] && owners[frame] < owners[best];
                if (ranks[frame] < ranks[best] || lower) {
                    best = frame;
                }
            }
            return best;
        }
    }
}
