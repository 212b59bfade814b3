import java.util.Random;

/** Long runs of calls with many kinds of arguments, on the class and on a second writing of the document. */
public final class ModelRuns {
    private static final int RUNS = 150;
    private static final int CALLS = 220;

    private final Random random;
    private final Twin twin = new Twin();

    private ModelRuns(long seed) {
        random = new Random(seed);
    }

    public static void main(String[] args) {
        int wrong = 0;
        int runs = args.length > 0 ? Integer.parseInt(args[0]) : RUNS;
        for (int seed = 0; seed < runs && wrong < 5; seed++) {
            try {
                new ModelRuns(seed).run();
            } catch (AssertionError e) {
                wrong++;
                System.out.println("seed " + seed + ": " + e.getMessage());
            }
        }
        System.out.println(runs + " runs of " + CALLS + " calls, " + wrong + " wrong");
        if (wrong != 0) {
            System.exit(1);
        }
    }

    private void run() {
        if (random.nextInt(20) > 0) {
            twin.parse(systemText());
        }
        for (int k = 0; k < CALLS; k++) {
            step();
            if (random.nextInt(4) == 0) {
                twin.compare();
                twin.compareForecasts(set(), number(50), 1 + random.nextInt(16), random.nextInt(3));
            }
        }
        twin.compareForecasts(random.nextInt(), random.nextInt(70) - 3, random.nextInt(20) - 1, random.nextInt(5) - 1);
        twin.compare();
    }

    private int number(int below) {
        return random.nextInt(40) == 0 ? random.nextInt(80) - 10 : random.nextInt(below);
    }

    private int process() {
        return number(Math.max(1, twin.x.processCount()));
    }

    private int page(int process) {
        boolean there = process >= 0 && process < twin.x.processCount();
        return number(there ? twin.x.pageCount(process) : 8);
    }

    private int set() {
        int all = (1 << twin.x.processCount()) - 1;
        return random.nextInt(30) == 0 ? random.nextInt(140) - 10 : Math.max(1, random.nextInt(64) & all);
    }

    private int value() {
        return switch (random.nextInt(6)) {
            case 0 -> random.nextInt();
            case 1 -> 0x7f800000 + random.nextInt(3) - 1;
            case 2 -> 0xff800000 + random.nextInt(3) - 1;
            default -> random.nextInt(3);
        };
    }

    private void step() {
        int p = process();
        int v = page(p);
        int n = value();
        int s = set();
        int c = 1 + number(4);
        CheckpointSwap x = twin.x;
        switch (random.nextInt(25)) {
            case 0, 1, 2, 3 -> twin.change("read " + p + " " + v, () -> x.readPage(p, v), m -> m.read(p, v));
            case 4, 5, 6, 7, 8, 9 ->
                twin.change("write " + p + " " + v + " " + n, () -> x.writePage(p, v, n), m -> m.write(p, v, n));
            case 10, 11 -> twin.change("evict " + p + " " + v, () -> x.evictPage(p, v), m -> m.evict(p, v));
            case 12, 13 -> twin.change("start " + s, () -> x.startBarrier(s), m -> m.start(s));
            case 14, 15 -> twin.change("flush " + c, () -> x.writeBarrier(c), m -> m.flush(c));
            case 16, 17 -> twin.change("commit", () -> x.commitBarrier(), m -> m.commit());
            case 18 -> {
                if (random.nextInt(3) == 0) {
                    twin.change("abandon", () -> x.abandonBarrier(), m -> m.abandon());
                } else {
                    twin.undo();
                }
            }
            case 19 -> rareStep(p);
            case 20 -> twin.change("rollback " + p, () -> x.rollback(p), m -> m.rollBack(p));
            case 21 -> twin.undo();
            case 22, 23 -> twin.script(script());
            default -> {
                int policy = random.nextInt(5) - 1;
                twin.change("policy " + policy, () -> x.setPolicy(policy), m -> m.changePolicy(policy));
            }
        }
    }

    private void rareStep(int process) {
        switch (random.nextInt(6)) {
            case 0, 1 -> twin.change("crash", () -> twin.x.crash(), m -> m.crashAll());
            case 2 -> twin.parse(spoilt(systemText()));
            case 3 -> {
                for (int k = 0; k < 12; k++) {
                    twin.undo();
                }
            }
            default -> twin.parse(random.nextInt(8) == 0 ? systemText() : "");
        }
    }

    private String systemText() {
        StringBuilder text = new StringBuilder();
        text.append("system ").append(1 + random.nextInt(random.nextBoolean() ? 4 : 16)).append(' ');
        text.append(1 + random.nextInt(random.nextBoolean() ? 8 : 48)).append(' ');
        text.append(new String[] {"lru", "fifo", "clean"}[random.nextInt(3)]).append(';');
        int processes = 1 + random.nextInt(random.nextInt(20) == 0 ? 7 : 6);
        for (int k = 0; k < processes; k++) {
            text.append(random.nextInt(3) == 0 ? "\n process " : "process ");
            text.append(random.nextBoolean() ? "int " : "float ").append(1 + random.nextInt(8)).append(';');
        }
        return processes > 6 ? "system 1 1 lru;process int 1;" : text.toString();
    }

    private String script() {
        StringBuilder text = new StringBuilder();
        int operations = random.nextInt(random.nextInt(8) == 0 ? 30 : 5);
        for (int k = 0; k < operations && text.length() < 360; k++) {
            int p = Math.abs(process());
            int v = Math.abs(page(p));
            text.append(switch (random.nextInt(12)) {
                case 0, 1, 2 -> "read " + p + " " + v;
                case 3, 4, 5, 6 -> "write " + p + " " + v + " " + random.nextInt(3);
                case 7 -> "evict " + p + " " + v;
                case 8 -> "rollback " + p;
                case 9 -> "crash";
                case 10 -> "barrier " + Math.abs(set()) + ";flush " + (1 + random.nextInt(48)) + ";commit";
                default -> "barrier " + Math.abs(set()) + ";abandon";
            }).append(';');
        }
        return random.nextInt(5) == 0 ? spoilt(text.toString()) : text.toString();
    }

    /** Changes, adds or removes a sign. */
    private String spoilt(String text) {
        int at = random.nextInt(text.length() + 1);
        String signs = " \n;a0z9A#" + (char) 0 + (char) 255;
        String sign = random.nextInt(3) == 0 ? "" : "" + signs.charAt(random.nextInt(signs.length()));
        int skip = random.nextInt(3) == 0 ? 0 : 1;
        return random.nextInt(6) == 0 ? text.substring(0, at)
                : text.substring(0, at) + sign + text.substring(Math.min(text.length(), at + skip));
    }
}
