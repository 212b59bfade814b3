import java.util.ArrayList;
import java.util.Arrays;
import java.util.HashSet;
import java.util.List;
import java.util.Map;
import java.util.NoSuchElementException;
import java.util.Set;
import java.util.TreeMap;
import java.util.regex.Matcher;
import java.util.regex.Pattern;

/**
 * The document a second time, written for nothing but comparison: objects that point to each other, and undo by
 * doing all changes but the last again. A method may leave a half-done change behind when it throws; Twin discards
 * the model then.
 */
final class Model {
    static final class Slot {
        int number;
        int value;
        int owner = -1;
        int stamp = -1;
    }

    static final class Page {
        int id;
        boolean isFloat;
        int value;
        Slot swap;
        boolean dirty;
    }

    static final class Frame {
        Page page;
        int used;
        int loaded;
    }

    static final class Log {
        int set;
        int epoch;
        int pending;
        int freed;
    }

    final List<List<Page>> processes = new ArrayList<>();
    final List<Frame> frames = new ArrayList<>();
    final List<Slot> slots = new ArrayList<>();
    final List<Integer> recent = new ArrayList<>();
    final List<Log> logs = new ArrayList<>();
    /** For each process its checkpoint: a slot, or null for an empty record, for each page. */
    final Map<Integer, Slot[]> checkpoints = new TreeMap<>();
    final Map<Integer, Integer> checkpointEpochs = new TreeMap<>();
    final Map<Integer, Slot> records = new TreeMap<>();
    final Set<Integer> pending = new HashSet<>();
    int policy;
    int epoch;
    int barrier;
    int pendingAtStart;
    int accesses;
    int faults;
    int slotWrites;
    int crashes;

    Model(int frameCount, int slotCount, int policy, List<int[]> kindsAndCounts) {
        this.policy = policy;
        for (int k = 0; k < frameCount; k++) {
            frames.add(new Frame());
        }
        for (int k = 0; k < slotCount; k++) {
            Slot slot = new Slot();
            slot.number = k;
            slots.add(slot);
        }
        for (int[] each : kindsAndCounts) {
            List<Page> pages = new ArrayList<>();
            for (int k = 0; k < each[1]; k++) {
                Page page = new Page();
                page.id = 8 * processes.size() + k;
                page.isFloat = each[0] == 1;
                pages.add(page);
            }
            processes.add(pages);
        }
    }

    Page page(int process, int page) {
        if (process < 0 || process >= processes.size() || page < 0 || page >= processes.get(process).size()) {
            throw new IndexOutOfBoundsException();
        }
        return processes.get(process).get(page);
    }

    List<Page> pagesOf(int process) {
        if (process < 0 || process >= processes.size()) {
            throw new IndexOutOfBoundsException();
        }
        return processes.get(process);
    }

    List<Page> pagesIn(int set) {
        List<Page> pages = new ArrayList<>();
        for (int k = 0; k < processes.size(); k++) {
            if ((set >> k & 1) == 1) {
                pages.addAll(processes.get(k));
            }
        }
        return pages;
    }

    void needSet(int set) {
        if (set <= 0 || set >= 1 << processes.size()) {
            throw new IllegalArgumentException();
        }
    }

    Frame frameWith(Page page) {
        for (Frame frame : frames) {
            if (frame.page == page) {
                return frame;
            }
        }
        return null;
    }

    int use(Slot slot) {
        boolean swap = pagesIn(-1).stream().anyMatch(p -> p.swap == slot);
        boolean checkpoint = checkpoints.values().stream().anyMatch(c -> Arrays.asList(c).contains(slot));
        return (swap ? 1 : 0) + (checkpoint ? 2 : 0) + (records.containsValue(slot) ? 4 : 0);
    }

    List<Slot> freeInOrder() {
        List<Slot> free = new ArrayList<>();
        for (Slot slot : slots) {
            if (use(slot) == 0) {
                free.add(slot);
            }
        }
        free.sort((a, b) -> a.stamp != b.stamp ? Integer.compare(a.stamp, b.stamp) : a.number - b.number);
        return free;
    }

    void save(Page page) {
        List<Slot> free = freeInOrder();
        if (free.isEmpty()) {
            throw new IllegalStateException();
        }
        Slot slot = free.get(0);
        slot.value = page.value;
        slot.owner = page.id;
        slot.stamp = epoch;
        slotWrites++;
        page.swap = slot;
        page.dirty = false;
        if (pending.remove(page.id)) {
            records.put(page.id, slot);
        }
    }

    Frame victim() {
        if (frameWith(null) != null) {
            return null;
        }
        List<Frame> candidates = new ArrayList<>(frames);
        if (policy == 2 && candidates.stream().anyMatch(f -> !f.page.dirty)) {
            candidates.removeIf(f -> f.page.dirty);
        }
        candidates.sort((a, b) -> policy == 1 ? a.loaded - b.loaded : a.used - b.used);
        return candidates.get(0);
    }

    int evict(int process, int number) {
        Page page = page(process, number);
        Frame frame = frameWith(page);
        if (frame == null) {
            throw new UnsupportedOperationException();
        }
        if (page.dirty) {
            save(page);
        }
        frame.page = null;
        return page.swap == null ? -1 : page.swap.number;
    }

    int read(int process, int number) {
        Page page = page(process, number);
        accesses++;
        recent.add(0, page.id);
        if (recent.size() > 64) {
            recent.remove(64);
        }
        Frame frame = frameWith(page);
        if (frame == null) {
            faults++;
            Frame victim = victim();
            if (victim != null) {
                evict(victim.page.id / 8, victim.page.id % 8);
            }
            frame = frameWith(null);
            frame.page = page;
            frame.loaded = accesses;
        }
        frame.used = accesses;
        return page.value;
    }

    int write(int process, int number, int value) {
        Page page = page(process, number);
        if (pending.contains(page.id)) {
            save(page);
        }
        int previous = read(process, number);
        page.value = page.isFloat ? Float.floatToIntBits(Float.intBitsToFloat(value)) : value;
        page.swap = null;
        page.dirty = true;
        return previous;
    }

    int changePolicy(int next) {
        if (next < 0 || next > 2) {
            throw new IllegalArgumentException();
        }
        int previous = policy;
        policy = next;
        return previous;
    }

    int start(int set) {
        needSet(set);
        if (barrier != 0) {
            throw new IllegalStateException();
        }
        epoch++;
        barrier = set;
        for (Page page : pagesIn(set)) {
            if (page.swap != null) {
                records.put(page.id, page.swap);
            } else if (page.dirty) {
                pending.add(page.id);
            }
        }
        pendingAtStart = pending.size();
        return pendingAtStart;
    }

    List<Integer> pendingInOrder() {
        List<Integer> order = new ArrayList<>(pending);
        order.sort(null);
        return order;
    }

    void needBarrier() {
        if (barrier == 0) {
            throw new IllegalStateException();
        }
    }

    int flush(int count) {
        if (count < 1 || count > 48) {
            throw new IllegalArgumentException();
        }
        needBarrier();
        for (int k = 0; k < count && !pending.isEmpty() && !freeInOrder().isEmpty(); k++) {
            int id = pendingInOrder().get(0);
            save(page(id / 8, id % 8));
        }
        return pending.size();
    }

    int commit() {
        needBarrier();
        if (!pending.isEmpty()) {
            throw new UnsupportedOperationException();
        }
        Set<Slot> before = new HashSet<>(freeInOrder());
        Log log = new Log();
        for (int k = 0; k < processes.size(); k++) {
            if ((barrier >> k & 1) == 1) {
                Slot[] checkpoint = new Slot[processes.get(k).size()];
                for (int page = 0; page < checkpoint.length; page++) {
                    checkpoint[page] = records.get(8 * k + page);
                }
                checkpoints.put(k, checkpoint);
                checkpointEpochs.put(k, epoch);
            }
        }
        log.set = barrier;
        log.epoch = epoch;
        log.pending = pendingAtStart;
        forgetBarrier();
        Set<Slot> after = new HashSet<>(freeInOrder());
        after.removeAll(before);
        log.freed = after.size();
        logs.add(0, log);
        return log.freed;
    }

    private void forgetBarrier() {
        barrier = 0;
        records.clear();
        pending.clear();
    }

    int abandon() {
        needBarrier();
        int before = freeInOrder().size();
        forgetBarrier();
        return freeInOrder().size() - before;
    }

    int checkpointValue(int process, int page) {
        Slot[] checkpoint = checkpoints.get(process);
        return checkpoint == null || checkpoint[page] == null ? 0 : checkpoint[page].value;
    }

    int lost(int process) {
        int set = 0;
        for (int k = 0; k < pagesOf(process).size(); k++) {
            set |= page(process, k).value == checkpointValue(process, k) ? 0 : 1 << k;
        }
        return set;
    }

    private int restore(int process) {
        int lost = lost(process);
        Slot[] checkpoint = checkpoints.get(process);
        for (int k = 0; k < pagesOf(process).size(); k++) {
            Page page = page(process, k);
            Frame frame = frameWith(page);
            if (frame != null) {
                frame.page = null;
            }
            page.dirty = false;
            page.value = checkpointValue(process, k);
            page.swap = checkpoint == null ? null : checkpoint[k];
        }
        return lost;
    }

    int crashAll() {
        forgetBarrier();
        for (int k = 0; k < processes.size(); k++) {
            restore(k);
        }
        recent.clear();
        crashes++;
        return checkpoints.keySet().stream().mapToInt(k -> 1 << k).sum();
    }

    int rollBack(int process) {
        pagesOf(process);
        if (!checkpoints.containsKey(process)) {
            throw new NoSuchElementException();
        }
        if ((barrier >> process & 1) == 1) {
            throw new IllegalStateException();
        }
        return restore(process);
    }

    // ---- forecasts and statistics

    int wouldWrite(int set) {
        needSet(set);
        return (int) pagesIn(set).stream().filter(p -> p.dirty).count();
    }

    /** Does what the document says, on a model with more slots, that is thrown away. */
    int wouldFree(int set, Model copy) {
        needSet(set);
        if (barrier != 0) {
            throw new IllegalStateException();
        }
        for (int k = 0; k < 48; k++) {
            Slot slot = new Slot();
            slot.number = copy.slots.size();
            slot.stamp = Integer.MAX_VALUE;
            copy.slots.add(slot);
        }
        copy.start(set);
        copy.flush(48);
        return copy.commit();
    }

    int bestBarrier(int limit) {
        if (limit < 0 || limit > 48) {
            throw new IllegalArgumentException();
        }
        if (barrier != 0) {
            throw new IllegalStateException();
        }
        int best = 0;
        long bestKey = Long.MAX_VALUE;
        for (int set = 1; set < 1 << processes.size(); set++) {
            if (wouldWrite(set) <= limit) {
                long lost = 0;
                for (int k = 0; k < processes.size(); k++) {
                    lost += (set >> k & 1) == 1 ? 0 : Integer.bitCount(lost(k));
                }
                long key = (lost * 100 + wouldWrite(set)) * 100 + set;
                if (key < bestKey) {
                    bestKey = key;
                    best = set;
                }
            }
        }
        return best;
    }

    int faultsWith(int count, int how) {
        if (count < 1 || count > 16 || how < 0 || how > 2) {
            throw new IllegalArgumentException();
        }
        List<Integer> order = new ArrayList<>(recent);
        java.util.Collections.reverse(order);
        List<Integer> queue = new ArrayList<>();
        int found = 0;
        for (int time = 0; time < order.size(); time++) {
            Integer page = order.get(time);
            if (queue.contains(page)) {
                if (how == 0) {
                    queue.remove(page);
                    queue.add(page);
                }
                continue;
            }
            found++;
            if (queue.size() == count) {
                List<Integer> rest = order.subList(time, order.size());
                Integer victim = queue.get(0);
                for (Integer each : queue) {
                    if (how == 2 && next(rest, each) > next(rest, victim)) {
                        victim = each;
                    }
                }
                queue.remove(victim);
            }
            queue.add(page);
        }
        return found;
    }

    private static int next(List<Integer> rest, Integer page) {
        int index = rest.indexOf(page);
        return index < 0 ? 1000 - page : index;
    }

    // ---- texts

    /** Tokens with their positions; the last one is the end, with an empty text. */
    static List<String> tokens(String text, List<Integer> positions) {
        List<String> tokens = new ArrayList<>();
        Matcher matcher = Pattern.compile("[a-z]+|[0-9]+|[^ \n]", Pattern.DOTALL).matcher(text);
        while (matcher.find()) {
            tokens.add(matcher.group());
            positions.add(matcher.start());
        }
        tokens.add("");
        positions.add(text.length());
        return tokens;
    }

    /** The system of a text, or null; error then has the code and the position. */
    static Model parse(String text, int[] error) {
        List<Integer> positions = new ArrayList<>();
        List<String> tokens = tokens(text, positions);
        List<int[]> found = new ArrayList<>();
        int[] head = new int[3];
        int[] process = new int[2];
        String[] forms = {"system", "16", "48", "lru|fifo|clean", ";", "process", "int|float", "8", ";"};
        int form = 0;
        for (int k = 0; ; k++) {
            String token = tokens.get(k);
            if (form == 5 && !found.isEmpty() && token.isEmpty()) {
                error[0] = 0;
                error[1] = -1;
                return new Model(head[0], head[1], head[2], found);
            }
            int code = code(forms[form], token);
            if (code == 0 && form == 5 && found.size() == 6) {
                code = 3;
            }
            if (code != 0) {
                error[0] = code;
                error[1] = positions.get(k);
                return null;
            }
            int choice = Arrays.asList(forms[form].split("\\|")).indexOf(token);
            if (form >= 1 && form <= 3) {
                head[form - 1] = form == 3 ? choice : Integer.parseInt(token);
            } else if (form == 6 || form == 7) {
                process[form - 6] = form == 6 ? choice : Integer.parseInt(token);
            } else if (form == 8) {
                found.add(process.clone());
            }
            form = form == 8 ? 5 : form + 1;
        }
    }

    private static int code(String form, String token) {
        if (Character.isDigit(form.charAt(0))) {
            if (!token.matches("[0-9]+")) {
                return 1;
            }
            boolean fits = token.length() <= 9 && Integer.parseInt(token) >= 1
                    && Integer.parseInt(token) <= Integer.parseInt(form);
            return fits ? 0 : 2;
        }
        return token.isEmpty() || !token.matches(form) ? 1 : 0;
    }

    /** What runScript() answers; the model is half changed if that is negative. */
    int script(String text) {
        Map<String, Integer> operands = Map.of("read", 2, "write", 3, "barrier", 1, "flush", 1, "commit", 0,
                "abandon", 0, "crash", 0, "rollback", 1, "evict", 2);
        List<Integer> positions = new ArrayList<>();
        List<String> tokens = tokens(text, positions);
        int done = 0;
        for (int k = 0; !tokens.get(k).isEmpty(); k++) {
            int word = k;
            if (!operands.containsKey(tokens.get(word))) {
                return -1 - positions.get(word);
            }
            int[] numbers = new int[3];
            for (int n = 0; n < operands.get(tokens.get(word)); n++) {
                k++;
                if (!tokens.get(k).matches("[0-9]{1,9}")) {
                    return -1 - positions.get(k);
                }
                numbers[n] = Integer.parseInt(tokens.get(k));
            }
            k++;
            if (!tokens.get(k).equals(";")) {
                return -1 - positions.get(k);
            }
            try {
                operation(tokens.get(word), numbers);
            } catch (RuntimeException e) {
                return -1 - positions.get(word);
            }
            done++;
        }
        return done;
    }

    private void operation(String word, int[] n) {
        switch (word) {
            case "read" -> read(n[0], n[1]);
            case "write" -> write(n[0], n[1], n[2]);
            case "barrier" -> start(n[0]);
            case "flush" -> flush(n[0]);
            case "commit" -> commit();
            case "abandon" -> abandon();
            case "crash" -> crashAll();
            case "rollback" -> rollBack(n[0]);
            default -> evict(n[0], n[1]);
        }
    }
}
