import java.util.ArrayList;
import java.util.List;

/** An object and the model beside it; each call goes to both, and the answers are compared. */
final class Twin {
    interface Change {
        int on(Model model);
    }

    private static final int[] EDGES = {-1, 0, 1, 2, 3, 5, 7, 8, 15, 16, 47, 48, 63, 64, 65, 1 << 30, Integer.MIN_VALUE};

    final CheckpointSwap x = new CheckpointSwap();
    private final List<Change> changes = new ArrayList<>();
    private String systemText;
    private Model model = fresh();
    private int undoable;

    private Model fresh() {
        return systemText == null ? new Model(1, 1, 0, List.of()) : Model.parse(systemText, new int[2]);
    }

    private Model again(int count) {
        Model copy = fresh();
        for (int k = 0; k < count; k++) {
            changes.get(k).on(copy);
        }
        return copy;
    }

    /** A change by a method: both throw the same, or both answer the same. */
    void change(String what, Check.Call call, Change change) {
        String want = answer(() -> change.on(model));
        same(what, answer(call), want);
        if (want.startsWith("throws")) {
            model = again(changes.size());
        } else {
            changes.add(change);
            undoable = Math.min(10, undoable + 1);
        }
    }

    void script(String text) {
        int got = Check.script(x, text);
        int want = model.script(text);
        same("script <" + text + ">", got, want);
        if (want < 0) {
            model = again(changes.size());
        } else {
            changes.add(m -> m.script(text));
            undoable = Math.min(10, undoable + 1);
        }
    }

    void parse(String text) {
        int got = Check.parse(x, text);
        int[] error = new int[2];
        Model parsed = Model.parse(text, error);
        same("parse <" + text + ">", got, parsed == null ? -1 : parsed.processes.size());
        same("code <" + text + ">", x.errorCode(), error[0]);
        same("position <" + text + ">", x.errorPosition(), error[1]);
        if (parsed != null) {
            systemText = text;
            model = parsed;
            changes.clear();
            undoable = 0;
        }
    }

    void undo() {
        String got = answer(() -> x.undo());
        if (undoable == 0) {
            same("undo", got, "throws IllegalStateException");
            return;
        }
        undoable--;
        same("undo", got, "" + undoable);
        changes.remove(changes.size() - 1);
        model = again(changes.size());
    }

    private static String answer(Check.Call call) {
        try {
            return "" + call.run();
        } catch (RuntimeException e) {
            return "throws " + e.getClass().getSimpleName();
        }
    }

    private static void same(String what, Object got, Object want) {
        if (!got.equals(want)) {
            throw new AssertionError(what + " answered " + got + ", the model " + want);
        }
    }

    private void both(String what, Check.Call call, Check.Call want) {
        same(what, answer(call), answer(want));
    }

    private static void fits(boolean holds, RuntimeException otherwise) {
        if (!holds) {
            throw otherwise;
        }
    }

    private static void index(boolean holds) {
        fits(holds, new IndexOutOfBoundsException());
    }

    private static void argument(boolean holds) {
        fits(holds, new IllegalArgumentException());
    }

    private static void element(boolean holds) {
        fits(holds, new java.util.NoSuchElementException());
    }

    private static int number(Model.Slot slot) {
        return slot == null ? -1 : slot.number;
    }

    /** Every question, with every number there is and some beyond. */
    void compare() {
        Model m = model;
        same("undoDepth", x.undoDepth(), undoable);
        same("processCount", x.processCount(), m.processes.size());
        same("frameCount", x.frameCount(), m.frames.size());
        same("slotCount", x.slotCount(), m.slots.size());
        same("epoch", x.epoch(), m.epoch);
        same("victim", x.victim(), m.victim() == null ? -1 : m.frames.indexOf(m.victim()));
        same("barrierSet", x.barrierSet(), m.barrier);
        same("pendingPages", x.pendingPages(), m.pending.size());
        for (int process = -1; process < 8; process++) {
            compareProcess(m, process);
            for (int page = -1; page < 9; page++) {
                comparePage(m, process, page);
            }
        }
        compareFrames(m);
        compareSlots(m);
        compareTotals(m);
        same("report", Check.reportOf(x), report(m));
    }

    private void compareProcess(Model m, int p) {
        both("pageCount", () -> x.pageCount(p), () -> m.pagesOf(p).size());
        both("kindOf", () -> x.kindOf(p), () -> m.pagesOf(p).get(0).isFloat ? 1 : 0);
        both("residentPages", () -> x.residentPages(p), () ->
                m.pagesOf(p).stream().filter(q -> m.frameWith(q) != null).mapToInt(q -> 1 << q.id % 8).sum());
        both("dirtyPages", () -> x.dirtyPages(p), () ->
                m.pagesOf(p).stream().filter(q -> q.dirty).mapToInt(q -> 1 << q.id % 8).sum());
        both("lostPages", () -> x.lostPages(p), () -> m.lost(p));
        both("checkpointEpoch", () -> x.checkpointEpoch(p), () -> {
            m.pagesOf(p);
            return m.checkpointEpochs.getOrDefault(p, -1);
        });
    }

    private void comparePage(Model m, int p, int v) {
        both("peek", () -> x.peek(p, v), () -> m.page(p, v).value);
        both("peekFloat", () -> Float.floatToRawIntBits(x.peekFloat(p, v)), () -> {
            fits(m.page(p, v).isFloat, new UnsupportedOperationException());
            return m.page(p, v).value;
        });
        both("pageState", () -> x.pageState(p, v), () -> state(m, m.page(p, v)));
        both("frameOf", () -> x.frameOf(p, v), () -> m.frames.indexOf(m.frameWith(m.page(p, v))));
        both("slotOf", () -> x.slotOf(p, v), () -> number(m.page(p, v).swap));
        both("checkpointSlot", () -> x.checkpointSlot(p, v), () -> {
            m.page(p, v);
            element(m.checkpoints.containsKey(p));
            return number(m.checkpoints.get(p)[v]);
        });
        both("checkpointValue", () -> x.checkpointValue(p, v), () -> {
            m.page(p, v);
            element(m.checkpoints.containsKey(p));
            return m.checkpointValue(p, v);
        });
    }

    private static int state(Model m, Model.Page page) {
        if (m.frameWith(page) == null) {
            return page.swap == null ? 0 : 1;
        }
        return page.dirty ? 3 : 2;
    }

    private void compareFrames(Model m) {
        for (int k : EDGES) {
            both("frameOwner", () -> x.frameOwner(k), () -> {
                index(k >= 0 && k < m.frames.size());
                return m.frames.get(k).page == null ? -1 : m.frames.get(k).page.id;
            });
            for (int what = -1; what < 3; what++) {
                int w = what;
                both("frameTime", () -> x.frameTime(k, w), () -> {
                    index(k >= 0 && k < m.frames.size());
                    element(m.frames.get(k).page != null);
                    argument(w == 0 || w == 1);
                    return w == 0 ? m.frames.get(k).used : m.frames.get(k).loaded;
                });
            }
        }
    }

    private void compareSlots(Model m) {
        List<Model.Slot> free = m.freeInOrder();
        same("nextSlot", x.nextSlot(), free.isEmpty() ? -1 : free.get(0).number);
        same("freeSlots", x.freeSlots(), free.size());
        same("sharedSlots", x.sharedSlots(), (int) m.slots.stream().filter(s -> Integer.bitCount(m.use(s)) > 1).count());
        StringBuilder map = new StringBuilder();
        m.slots.forEach(s -> map.append(m.use(s) == 0 ? '.' : 'x'));
        int longest = 0;
        for (String run : map.toString().split("x")) {
            longest = Math.max(longest, run.length());
        }
        same("longestRun", x.longestRun(), longest);
        for (int slot = -1; slot < 50; slot++) {
            compareSlot(m, slot);
            int k = slot;
            both("freeSlot", () -> x.freeSlot(k), () -> {
                index(k >= 0 && k < free.size());
                return free.get(k).number;
            });
            both("pendingPage", () -> x.pendingPage(k), () -> {
                index(k >= 0 && k < m.pending.size());
                return m.pendingInOrder().get(k);
            });
        }
    }

    private void compareSlot(Model m, int k) {
        if (k < 0 || k >= m.slots.size()) {
            Check.Call outside = () -> {
                throw new IndexOutOfBoundsException();
            };
            both("slotUse", () -> x.slotUse(k), outside);
            both("slotOwner", () -> x.slotOwner(k), outside);
            both("slotStamp", () -> x.slotStamp(k), outside);
            both("slotValue", () -> x.slotValue(k), outside);
            both("twins", () -> x.twins(k), outside);
            return;
        }
        Model.Slot slot = m.slots.get(k);
        same("slotUse", x.slotUse(k), m.use(slot));
        same("slotOwner", x.slotOwner(k), slot.owner);
        same("slotStamp", x.slotStamp(k), slot.stamp);
        same("slotValue", x.slotValue(k), slot.value);
        both("twins", () -> x.twins(k), () -> {
            element(m.use(slot) != 0);
            return m.slots.stream().filter(s -> s != slot && m.use(s) != 0 && s.value == slot.value).count();
        });
    }

    private void compareTotals(Model m) {
        int lost = 0;
        for (int k = 0; k < m.processes.size(); k++) {
            lost += Integer.bitCount(m.lost(k));
        }
        int[] totals = {m.accesses, m.faults, m.slotWrites, m.logs.size(), m.crashes, lost,
            (int) m.pagesIn(-1).stream().filter(p -> p.dirty).count(), m.policy};
        for (int k : EDGES) {
            both("total", () -> x.total(k), () -> {
                argument(k >= 0 && k < 8);
                return totals[k];
            });
            both("recentAccess", () -> x.recentAccess(k), () -> {
                index(k >= 0 && k < m.recent.size());
                return m.recent.get(k);
            });
            both("workingSet", () -> x.workingSet(k), () -> {
                argument(k >= 1 && k <= 64);
                return m.recent.stream().limit(k).distinct().count();
            });
            for (int what = -1; what < 5; what++) {
                int w = what;
                both("barrierLog", () -> x.barrierLog(k, w), () -> logged(m, k, w));
            }
        }
        both("hottestPage", () -> x.hottestPage(), () -> hottest(m));
        both("hitRatioBits", () -> x.hitRatioBits(), () -> {
            fits(m.accesses > 0, new ArithmeticException());
            return Float.floatToIntBits((float) (m.accesses - m.faults) / (float) m.accesses);
        });
    }

    private static int logged(Model m, int k, int what) {
        index(k >= 0 && k < Math.min(8, m.logs.size()));
        argument(what >= 0 && what < 4);
        Model.Log log = m.logs.get(k);
        return new int[] {log.set, log.epoch, log.pending, log.freed}[what];
    }

    private static int hottest(Model m) {
        element(!m.recent.isEmpty());
        int best = m.recent.get(0);
        for (int page = 47; page >= 0; page--) {
            if (times(m, page) >= times(m, best)) {
                best = page;
            }
        }
        return best;
    }

    private static int times(Model m, int page) {
        return java.util.Collections.frequency(m.recent, page);
    }

    /** The dearer questions, with the arguments given. */
    void compareForecasts(int set, int limit, int frames, int policy) {
        Model m = model;
        both("wouldWrite", () -> x.wouldWrite(set), () -> m.wouldWrite(set));
        both("wouldFree", () -> x.wouldFree(set), () -> m.wouldFree(set, again(changes.size())));
        both("bestBarrier", () -> x.bestBarrier(limit), () -> m.bestBarrier(limit));
        both("faultsWith", () -> x.faultsWith(frames, policy), () -> m.faultsWith(frames, policy));
        both("leastFrames", () -> x.leastFrames(limit), () -> {
            argument(limit >= 0 && limit <= 64);
            for (int k = 1; k <= 16; k++) {
                if (m.faultsWith(k, 2) <= limit) {
                    return k;
                }
            }
            throw new java.util.NoSuchElementException();
        });
    }

    private static String report(Model m) {
        StringBuilder text = new StringBuilder();
        text.append(String.format("epoch %d free %d accesses %d%n", m.epoch, m.freeInOrder().size(), m.accesses));
        for (int k = 0; k < m.processes.size(); k++) {
            Integer checkpoint = m.checkpointEpochs.get(k);
            text.append(String.format("process %d %s checkpoint %s", k,
                    m.processes.get(k).get(0).isFloat ? "float" : "int", checkpoint == null ? "none" : checkpoint));
            m.processes.get(k).forEach(p -> text.append(" ").append(state(m, p)));
            text.append("\n");
        }
        return text.toString();
    }
}
