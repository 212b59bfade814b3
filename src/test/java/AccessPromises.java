/** Promises 55 to 63: accesses, totals and the report. */
public final class AccessPromises {
    public static void main(String[] args) {
        recent();
        faults();
        ties();
        least();
        workingSets();
        hottest();
        ratio();
        totals();
        report();
        Check.end(55, 63);
    }

    private static void recent() {
        Check.promise(55);
        CheckpointSwap x = Check.system("system 1 9 lru;process int 3;process int 8;");
        Check.outside("none", () -> x.recentAccess(0));
        x.readPage(0, 2);
        x.writePage(1, 7, 1);
        x.readPage(1, 7);
        Check.due("the latest", x.recentAccess(0), 15);
        Check.due("the one before", x.recentAccess(1), 15);
        Check.due("the first", x.recentAccess(2), 2);
        Check.outside("fourth", () -> x.recentAccess(3));
        Check.outside("negative", () -> x.recentAccess(-1));
        for (int k = 0; k < 61; k++) {
            x.readPage(0, 1);
        }
        Check.due("the 64th", x.recentAccess(63), 2);
        Check.outside("the 65th", () -> x.recentAccess(64));
        x.readPage(0, 0);
        Check.due("the oldest is gone", x.recentAccess(63), 15);
        Check.due("the latest", x.recentAccess(0), 0);
        x.crash();
        Check.outside("crashed", () -> x.recentAccess(0));
        x.readPage(0, 1);
        Check.due("the first after a crash", x.recentAccess(0), 1);
        Check.outside("only one", () -> x.recentAccess(1));
        x.undo();
        x.undo();
        Check.due("undone", x.recentAccess(63), 15);
        Check.due("undone", x.recentAccess(0), 0);
    }

    private static CheckpointSwap accessed(String pages) {
        CheckpointSwap x = Check.system("system 2 48 lru;process int 8;process int 8;");
        for (int k = 0; k < pages.length(); k++) {
            int page = pages.charAt(k) - 'a';
            x.readPage(page / 8, page % 8);
        }
        return x;
    }

    private static void faults() {
        Check.promise(56);
        CheckpointSwap x = accessed("abcdabeabcde");
        int[][] due = {{12, 12, 12}, {12, 12, 9}, {10, 9, 7}, {8, 10, 6}, {5, 5, 5}, {5, 5, 5}};
        for (int frames = 1; frames <= 6; frames++) {
            for (int policy = 0; policy < 3; policy++) {
                Check.due("faultsWith " + frames + " " + policy, x.faultsWith(frames, policy), due[frames - 1][policy]);
            }
        }
        Check.due("16 frames", x.faultsWith(16, 1), 5);
        Check.argument("0 frames", () -> x.faultsWith(0, 0));
        Check.argument("17 frames", () -> x.faultsWith(17, 0));
        Check.argument("negative frames", () -> x.faultsWith(-1, 0));
        Check.argument("policy 3", () -> x.faultsWith(1, 3));
        Check.argument("policy -1", () -> x.faultsWith(1, -1));
        Check.due("nothing changes", x.total(0), 12);
        Check.due("nothing changes", x.undoDepth(), 10);
        x.crash();
        Check.due("no accesses", x.faultsWith(1, 2), 0);
        CheckpointSwap y = Check.system("system 2 48 lru;process int 8;process int 8;");
        y.readPage(1, 7);
        for (int k = 0; k < 64; k++) {
            y.readPage(k % 2, k / 2 % 8);
        }
        Check.due("only the latest 64", y.faultsWith(16, 0), 16);
        Check.due("only the latest 64", y.faultsWith(15, 0), 64);
    }

    /** A page that is not accessed any more goes before each that is; which of several does not count here. */
    private static void ties() {
        Check.promise(56);
        Check.due("b goes for c", accessed("abcaca").faultsWith(2, 2), 3);
        Check.due("a goes for c", accessed("bacbcb").faultsWith(2, 2), 3);
        Check.due("the one whose next access comes last goes", accessed("abcdcabd").faultsWith(3, 2), 5);
        Check.due("the first access counts, too", accessed("abcab").faultsWith(2, 2), 4);
        Check.due("a hit tells a new next access", accessed("abacba").faultsWith(2, 2), 4);
    }

    private static void least() {
        Check.promise(57);
        CheckpointSwap x = accessed("abcdabeabcde");
        Check.due("12 faults", x.leastFrames(12), 1);
        Check.due("64 faults", x.leastFrames(64), 1);
        Check.due("11 faults", x.leastFrames(11), 2);
        Check.due("9 faults", x.leastFrames(9), 2);
        Check.due("8 faults", x.leastFrames(8), 3);
        Check.due("6 faults", x.leastFrames(6), 4);
        Check.due("5 faults", x.leastFrames(5), 5);
        Check.missing("4 faults", () -> x.leastFrames(4));
        Check.missing("0 faults", () -> x.leastFrames(0));
        Check.argument("-1", () -> x.leastFrames(-1));
        Check.argument("65", () -> x.leastFrames(65));
        x.crash();
        Check.due("no accesses", x.leastFrames(0), 1);
        CheckpointSwap y = Check.system("system 2 48 lru;process int 8;process int 8;process int 1;");
        for (int round = 0; round < 2; round++) {
            for (int k = 0; k < 17; k++) {
                y.readPage(k / 8, k % 8);
            }
        }
        Check.missing("17 pages", () -> y.leastFrames(17));
        Check.due("18 faults", y.leastFrames(18), 16);
    }

    private static void workingSets() {
        Check.promise(58);
        CheckpointSwap x = accessed("abcpa");
        Check.due("1", x.workingSet(1), 1);
        Check.due("2", x.workingSet(2), 2);
        Check.due("3", x.workingSet(3), 3);
        Check.due("4", x.workingSet(4), 4);
        Check.due("5", x.workingSet(5), 4);
        Check.due("64", x.workingSet(64), 4);
        Check.argument("0", () -> x.workingSet(0));
        Check.argument("65", () -> x.workingSet(65));
        Check.argument("-1", () -> x.workingSet(-1));
        for (int k = 0; k < 62; k++) {
            x.readPage(0, 7);
        }
        Check.due("only the latest 64", x.workingSet(64), 3);
        x.crash();
        Check.due("none", x.workingSet(9), 0);
        CheckpointSwap y = Check.system("system 1 1 lru;process int 8;process int 8;process int 8;process int 8;"
                + "process int 8;process int 8;");
        for (int k = 0; k < 48; k++) {
            y.readPage(k / 8, k % 8);
        }
        Check.due("all pages", y.workingSet(64), 48);
    }

    private static void hottest() {
        Check.promise(59);
        Check.due("page 0", accessed("bcadbaca").hottestPage(), 0);
        CheckpointSwap x = accessed("pcbbcp");
        Check.due("of several the lowest", x.hottestPage(), 1);
        x.readPage(1, 7);
        Check.due("the most", x.hottestPage(), 15);
        for (int k = 0; k < 64; k++) {
            x.readPage(0, k < 63 ? 4 : 3);
        }
        Check.due("only the latest 64", x.hottestPage(), 4);
        x.crash();
        Check.missing("none", () -> x.hottestPage());
        x.readPage(0, 6);
        Check.due("after a crash", x.hottestPage(), 6);
    }

    private static void ratio() {
        Check.promise(60);
        CheckpointSwap x = Check.system("system 1 1 lru;process int 2;");
        Check.dueThrow("no access", ArithmeticException.class, () -> x.hitRatioBits());
        x.readPage(0, 0);
        Check.due("0 of 1", x.hitRatioBits(), 0);
        int seed = 7;
        int hits = 0;
        int resident = 0;
        for (int all = 2; all < 3000; all++) {
            seed = seed * 1664525 + 1013904223;
            int page = seed < (all < 1500 ? 0 : -1900000000) ? 1 : 0;
            hits += page == resident ? 1 : 0;
            resident = page;
            x.readPage(0, page);
            Check.due(hits + " of " + all, x.hitRatioBits(), Float.floatToIntBits((float) hits / (float) all));
        }
        x.crash();
        Check.due("a crash does not matter", x.hitRatioBits(), Float.floatToIntBits((float) hits / 2999f));
        x.setPolicy(1);
        Check.parse(x, "system 1 1 lru;process int 2;");
        Check.dueThrow("parsed anew", ArithmeticException.class, () -> x.hitRatioBits());
    }

    private static void totals() {
        Check.promise(61);
        CheckpointSwap x = Check.system("system 2 9 fifo;process int 3;process int 2;");
        Check.script(x, "write 0 0 1;write 0 1 2;read 0 0;write 1 0 3;barrier 3;flush 9;commit;crash;crash;");
        Check.script(x, "write 0 2 4;write 1 1 5;write 1 0 3;");
        int[] due = {7, 6, 4, 1, 2, 2, 2, 1};
        for (int what = 0; what < due.length; what++) {
            Check.due("total " + what, x.total(what), due[what]);
        }
        Check.argument("8", () -> x.total(8));
        Check.argument("-1", () -> x.total(-1));
        x.undo();
        int[] undone = {4, 3, 3, 1, 2, 0, 0, 1};
        for (int what = 0; what < undone.length; what++) {
            Check.due("undone total " + what, x.total(what), undone[what]);
        }
    }

    private static void report() {
        CheckpointSwap x = Check.system("system 2 12 lru;process int 4;process float 1;");
        Check.promise(63);
        Check.outside("empty at first", () -> x.reportByte(0));
        Check.promise(62);
        Check.dueText("report", Check.reportOf(x), "epoch 0 free 12 accesses 0\n"
                + "process 0 int checkpoint none 0 0 0 0\nprocess 1 float checkpoint none 0\n");
        for (int k = 0; k < 10; k++) {
            Check.script(x, "barrier 2;commit;");
        }
        Check.script(x, "write 0 0 1;write 0 1 2;evict 0 0;read 0 2;");
        String text = "epoch 10 free 11 accesses 3\n"
                + "process 0 int checkpoint none 1 3 2 0\nprocess 1 float checkpoint 10 0\n";
        Check.due("length", x.writeReport(), text.length());
        Check.dueText("report", Check.reportOf(x), text);
        Check.due("no change", x.undoDepth(), 10);
        Check.promise(63);
        Check.due("first", x.reportByte(0), 'e');
        Check.due("line feed", x.reportByte(27), 10);
        Check.due("last", x.reportByte(text.length() - 1), 10);
        Check.outside("behind it", () -> x.reportByte(text.length()));
        Check.outside("negative", () -> x.reportByte(-1));
        x.crash();
        Check.parse(x, "system 1 1 lru;process int 1;");
        Check.due("it stays", x.reportByte(6), '1');
        Check.promise(62);
        Check.due("a shorter one", x.writeReport(), 58);
        Check.promise(63);
        Check.outside("the former one is gone", () -> x.reportByte(58));
    }
}
