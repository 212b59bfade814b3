/** Promises 55 to 63: accesses, totals and the report. */
final class AccessEdges {
    private AccessEdges() {
    }

    static void run() {
        recent();
        faults();
        policies();
        faultsRefused();
        least();
        workingSets();
        hottest();
        ratio();
        totals();
        reports();
        reportLines();
        reportBytes();
    }

    /** A page for each letter, a for page 0 of process 0. */
    private static CheckpointSwap accessed(String pages) {
        CheckpointSwap x = Check.system("system 2 48 lru;" + Scenes.SIX);
        for (int k = 0; k < pages.length(); k++) {
            int page = pages.charAt(k) - 'a';
            x.readPage(page / 8, page % 8);
        }
        return x;
    }

    private static void recent() {
        Document.promise(55, "Returns a recent access.", "Returns 8 * process + page.");
        CheckpointSwap x = Check.system("system 2 48 lru;" + Scenes.SIX);
        x.readPage(0, 0);
        Check.due("the least", x.recentAccess(0), 0);
        x.writePage(5, 7, 1);
        Check.due("the greatest", x.recentAccess(0), 47);
        Check.due("the one before", x.recentAccess(1), 0);
        for (int k = 2; k < 64; k++) {
            x.readPage(0, 1);
        }
        Check.due("the 64th", x.recentAccess(63), 0);
        x.readPage(0, 2);
        Check.due("the 64th after one more", x.recentAccess(63), 47);
        Document.promise(55, "Throws `IndexOutOfBoundsException` if there is no such recent access");
        Check.outside("64 of 65", () -> x.recentAccess(64));
        int count = Scenes.quiet().total(0);
        Check.due("the first of the scene", Scenes.quiet().recentAccess(count - 1), 0);
        for (int index : new int[] {count, count + 1, 63, 64, -1, Integer.MIN_VALUE, Integer.MAX_VALUE}) {
            Refusal.outside("index " + index, Scenes::quiet, y -> y.recentAccess(index));
        }
        Refusal.outside("no processes", Scenes::unparsed, y -> y.recentAccess(0));
        Refusal.outside("crashed", AccessEdges::crashed, y -> y.recentAccess(0));
        Refusal.outside("a page never accessed", () -> Check.system("system 1 1 lru;process int 1;"),
                y -> y.recentAccess(0));
    }

    private static CheckpointSwap crashed() {
        CheckpointSwap x = Scenes.busy();
        x.crash();
        return x;
    }

    private static void faults() {
        Document.promise(56, "Returns how many faults the recent accesses, from the oldest to the latest, would cause "
                + "with some frames that are free at first.", "- `frames`: 1 to 16", "Returns the number of faults.");
        for (int policy = 0; policy < 3; policy++) {
            Check.due("no accesses", accessed("").faultsWith(1, policy), 0);
            Check.due("no accesses", accessed("").faultsWith(16, policy), 0);
            Check.due("no processes", new CheckpointSwap().faultsWith(16, policy), 0);
            Check.due("one access", accessed("c").faultsWith(1, policy), 1);
            Check.due("the same again", accessed("cc").faultsWith(1, policy), 1);
            Check.due("all fit", accessed("abcdefghijklmnopabcdefghijklmnop").faultsWith(16, policy), 16);
            Check.due("one frame", accessed("abababab").faultsWith(1, policy), 8);
            Check.due("two frames", accessed("abababab").faultsWith(2, policy), 2);
            Check.due("after a crash", crashed().faultsWith(1, policy), 0);
        }
        Check.due("17 pages in 16 frames, lru", accessed("abcdefghijklmnopqa").faultsWith(16, 0), 18);
        Check.due("17 pages in 16 frames, fifo", accessed("abcdefghijklmnopqb").faultsWith(16, 1), 17);
        Check.due("17 pages in 16 frames, best", accessed("abcdefghijklmnopqa").faultsWith(16, 2), 17);
        CheckpointSwap x = accessed("z" + "ab".repeat(32));
        Check.due("only the latest 64", x.faultsWith(3, 0), 2);
        CheckpointSwap full = accessed("z" + "ab".repeat(31) + "a");
        Check.due("all 64", full.faultsWith(3, 0), 3);
        Check.due("not the frames that there are", accessed("abcabc").faultsWith(3, 0), 3);
    }

    private static void policies() {
        Document.promise(56, "- `policy`: 0 and 1 as in section 2;");
        for (int policy = 0; policy < 2; policy++) {
            for (int frames = 1; frames <= 16; frames++) {
                CheckpointSwap x = Check.system("system " + frames + " 48 " + (policy == 0 ? "lru" : "fifo") + ";"
                        + Scenes.SIX);
                int seed = frames;
                for (int k = 0; k < 64; k++) {
                    seed = seed * 1664525 + 1013904223;
                    int id = (seed >>> 16) % (frames + 4);
                    x.readPage(id / 8, id % 8);
                }
                Check.due(frames + " frames, policy " + policy, x.faultsWith(frames, policy), x.total(1));
            }
        }
        Document.promise(56, "2: if a victim is needed, it is the page that is not accessed any more in the rest of "
                + "the recent accesses, or, if each is, the one whose next access comes last;");
        Check.due("b is not accessed any more", accessed("abcac").faultsWith(2, 2), 3);
        Check.due("a is not accessed any more", accessed("abcbc").faultsWith(2, 2), 3);
        Check.due("the next access of b comes last", accessed("abcacb").faultsWith(2, 2), 4);
        Check.due("the next access of a comes last", accessed("abcbca").faultsWith(2, 2), 4);
        Check.due("the very last access counts", accessed("abcba").faultsWith(2, 2), 4);
        Check.due("an access before does not count", accessed("babcac").faultsWith(2, 2), 3);
        Check.due("each access a fault at first", accessed("abcdabeabcde").faultsWith(3, 2), 7);
        Check.due("b is not accessed any more, a only at the end", accessed("ab" + "c".repeat(61) + "a").faultsWith(2,
                2), 3);
        int[] spread = {0, 15, 16, 31, 47};
        int seed = 1;
        for (int run = 0; run < 200; run++) {
            StringBuilder pages = new StringBuilder();
            for (int k = 0; k < 11; k++) {
                seed = seed * 1664525 + 1013904223;
                pages.append((char) ('a' + spread[(seed >>> 16) % 5]));
            }
            int frames = 1 + run % 4;
            Check.due(pages + " in " + frames, accessed(pages.toString()).faultsWith(frames, 2),
                    fewest(pages.toString(), "", frames));
        }
        Document.promise(56, "of several not accessed any more the one with the lowest number 8 * process + page");
        Check.due("two of them go, whichever first", accessed("abcdcd").faultsWith(2, 2), 4);
        Check.due("one of them goes, c stays", accessed("abcdc").faultsWith(3, 2), 4);
        Check.due("one of them goes, c stays", accessed("bacdc").faultsWith(3, 2), 4);
    }

    /** Such victims cause the fewest faults, so every other choice of victims is tried. */
    private static int fewest(String rest, String loaded, int frames) {
        if (rest.isEmpty()) {
            return 0;
        }
        String page = rest.substring(0, 1);
        if (loaded.contains(page)) {
            return fewest(rest.substring(1), loaded, frames);
        }
        if (loaded.length() < frames) {
            return 1 + fewest(rest.substring(1), loaded + page, frames);
        }
        int best = Integer.MAX_VALUE;
        for (int k = 0; k < frames; k++) {
            String kept = loaded.substring(0, k) + loaded.substring(k + 1);
            best = Math.min(best, 1 + fewest(rest.substring(1), kept + page, frames));
        }
        return best;
    }

    private static void faultsRefused() {
        Document.promise(56, "Throws `IllegalArgumentException` if an argument is out of its range");
        Refusal.notBetween(1, 16, Scenes::quiet, (y, frames) -> y.faultsWith(frames, 0));
        Refusal.notBetween(0, 2, Scenes::quiet, (y, policy) -> y.faultsWith(1, policy));
        Refusal.notBetween(0, 2, Scenes::unparsed, (y, policy) -> y.faultsWith(16, policy));
    }

    private static void least() {
        Document.promise(57, "Finds the fewest frames (1 to 16) with which faultsWith() with policy 2 is at most a "
                + "number.", "- `faults`: 0 to 64", "Returns the number of frames.");
        Check.due("no accesses, no faults", accessed("").leastFrames(0), 1);
        Check.due("no processes", new CheckpointSwap().leastFrames(0), 1);
        Check.due("64 faults", accessed("ab".repeat(32)).leastFrames(64), 1);
        Check.due("63 faults", accessed("ab".repeat(32)).leastFrames(63), 2);
        Check.due("2 faults", accessed("ab".repeat(32)).leastFrames(2), 2);
        CheckpointSwap x = accessed("abcdefghijklmnopqabcdefghijklmnopq");
        for (int faults = 18; faults <= 64; faults++) {
            int frames = x.leastFrames(faults);
            Check.due("enough for " + faults, x.faultsWith(frames, 2) <= faults ? 1 : 0, 1);
            Check.due("no fewer for " + faults, frames > 1 && x.faultsWith(frames - 1, 2) <= faults ? 1 : 0, 0);
        }
        Check.due("16 frames", x.leastFrames(18), 16);
        Document.promise(57, "Throws `IllegalArgumentException` if an argument is out of its range");
        Refusal.notBetween(0, 64, Scenes::quiet, (y, faults) -> y.leastFrames(faults));
        Refusal.notBetween(0, 64, Scenes::unparsed, (y, faults) -> y.leastFrames(faults));
        Document.promise(57, "NoSuchElementException if 16 frames are not enough");
        Check.missing("17 faults", () -> x.leastFrames(17));
        Refusal.missing("one access, no fault", () -> accessed("a"), y -> y.leastFrames(0));
        Refusal.missing("17 pages", () -> accessed("abcdefghijklmnopqa"), y -> y.leastFrames(16));
        Check.due("17 pages, 17 faults", accessed("abcdefghijklmnopqa").leastFrames(17), 2);
    }

    private static void workingSets() {
        Document.promise(58, "Returns how many different pages there are among the latest recent accesses.",
                "- `window`: 1 to 64, how many accesses;", "Returns the number.");
        CheckpointSwap x = accessed("aabacb");
        int[] due = {1, 2, 3, 3, 3, 3};
        for (int window = 1; window <= 6; window++) {
            Check.due("window " + window, x.workingSet(window), due[window - 1]);
        }
        CheckpointSwap all = Check.system("system 2 48 lru;" + Scenes.SIX);
        for (int k = 0; k < 112; k++) {
            all.readPage(k % 48 / 8, k % 8);
        }
        for (int window = 1; window <= 64; window++) {
            Check.due("window " + window, all.workingSet(window), Math.min(window, 48));
        }
        CheckpointSwap gone = accessed("z" + "a".repeat(64));
        Check.due("the 65th does not count", gone.workingSet(64), 1);
        Check.due("the 64th counts", accessed("z" + "a".repeat(63)).workingSet(64), 2);
        Check.due("the 64th is out of the window", accessed("z" + "a".repeat(63)).workingSet(63), 1);
        Document.promise(58, "all of them if there are fewer");
        Check.due("none", accessed("").workingSet(1), 0);
        Check.due("none", accessed("").workingSet(64), 0);
        Check.due("no processes", new CheckpointSwap().workingSet(64), 0);
        Check.due("two", accessed("az").workingSet(3), 2);
        Check.due("after a crash", crashed().workingSet(64), 0);
        Document.promise(58, "Throws `IllegalArgumentException` if an argument is out of its range");
        Refusal.notBetween(1, 64, Scenes::quiet, (y, window) -> y.workingSet(window));
        Refusal.notBetween(1, 64, Scenes::unparsed, (y, window) -> y.workingSet(window));
    }

    private static void hottest() {
        Document.promise(59, "Returns the page with the most recent accesses.", "Returns 8 * process + page;");
        Check.due("the only one", accessed("d").hottestPage(), 3);
        Check.due("two of three", accessed("aba").hottestPage(), 0);
        CheckpointSwap last = accessed("a");
        last.readPage(5, 7);
        last.writePage(5, 7, 1);
        Check.due("the greatest", last.hottestPage(), 47);
        Check.due("only the latest 64", accessed("a".repeat(40) + "b".repeat(33)).hottestPage(), 1);
        Check.due("all 64", accessed("a".repeat(33) + "b".repeat(31)).hottestPage(), 0);
        Document.promise(59, "of several the lowest number.");
        Check.due("two", accessed("ba").hottestPage(), 0);
        Check.due("two", accessed("ab").hottestPage(), 0);
        Check.due("of c, d and b", accessed("cdbbdca").hottestPage(), 1);
        Check.due("half of the latest 64", accessed("a".repeat(33) + "b".repeat(32)).hottestPage(), 0);
        Document.promise(59, "Throws `NoSuchElementException` if there are no recent accesses");
        Refusal.missing("none", () -> accessed(""), y -> y.hottestPage());
        Refusal.missing("crashed", AccessEdges::crashed, y -> y.hottestPage());
        Refusal.missing("no processes", Scenes::unparsed, y -> y.hottestPage());
    }

    private static void ratio() {
        Document.promise(60, "Returns the bits of the hit ratio as by Float.floatToIntBits(): the number of hits "
                + "divided by the number of accesses since the system text was parsed, both converted to float.",
                "Returns the bits.");
        CheckpointSwap x = Check.system("system 1 48 lru;process int 2;");
        x.readPage(0, 0);
        Check.due("0 of 1", x.hitRatioBits(), 0);
        for (int all = 2; all <= 500; all++) {
            x.readPage(0, 0);
            Check.due("all but one of " + all, x.hitRatioBits(), Float.floatToIntBits((float) (all - 1) / (float) all));
        }
        CheckpointSwap y = Check.system("system 1 48 lru;process int 2;");
        for (int all = 1; all <= 300; all++) {
            y.readPage(0, all % 2);
            Check.due("none of " + all, y.hitRatioBits(), 0);
        }
        y.readPage(0, 0);
        Check.due("1 of 301", y.hitRatioBits(), Float.floatToIntBits(1f / 301f));
        y.crash();
        Check.due("a crash does not matter", y.hitRatioBits(), Float.floatToIntBits(1f / 301f));
        Check.script(x, "read 0 1;");
        Check.due("a fault in a script", x.hitRatioBits(), Float.floatToIntBits(499f / 501f));
        Check.due("the half", halfRatio(), 0x3f000000);
        Document.promise(60, "Throws `ArithmeticException` if there was no access");
        Refusal.arithmetic("none", () -> accessed(""), z -> z.hitRatioBits());
        Refusal.arithmetic("no processes", Scenes::unparsed, z -> z.hitRatioBits());
        Refusal.arithmetic("a new text", AccessEdges::parsedAgain, z -> z.hitRatioBits());
        Refusal.arithmetic("undone", AccessEdges::undone, z -> z.hitRatioBits());
    }

    private static int halfRatio() {
        return accessed("aa").hitRatioBits();
    }

    private static CheckpointSwap parsedAgain() {
        CheckpointSwap x = Scenes.quiet();
        x.parseSystem();
        return x;
    }

    private static CheckpointSwap undone() {
        CheckpointSwap x = accessed("a");
        x.undo();
        return x;
    }

    private static void totals() {
        CheckpointSwap x = Check.system("system 2 9 clean;process int 3;process int 2;");
        for (int what = 0; what < 7; what++) {
            Document.promise(61, "Returns a total since the system text was parsed.", "Returns the total.");
            Check.due("at first", x.total(what), 0);
        }
        Check.script(x, "write 0 0 1;write 0 1 2;read 0 0;write 1 0 3;barrier 3;flush 9;commit;crash;crash;crash;"
                + "write 0 2 4;write 1 1 5;write 1 0 3;");
        String[] sentences = {"- `what`: 0: accesses;", "1: faults;", "2: values written into slots;",
            "3: committed barriers;", "4: crashes;", "5: the sum of lostPages() over all processes, counted in pages, "
            + "now;",
            "6: dirty pages now;", "7: the policy"};
        int[] due = {7, 6, 4, 1, 3, 2, 2, 2};
        for (int what = 0; what < 8; what++) {
            Document.promise(61, sentences[what]);
            Check.due("total " + what, x.total(what), due[what]);
        }
        Document.promise(61, "5: the sum of lostPages() over all processes, counted in pages, now;");
        CheckpointSwap most = Check.system("system 16 48 lru;" + Scenes.SIX);
        for (int k = 0; k < 48; k++) {
            most.writePage(k / 8, k % 8, -1);
            Check.due("lost", most.total(5), k + 1);
        }
        Document.promise(61, "6: dirty pages now;");
        Check.due("in all frames", most.total(6), 16);
        most.crash();
        Check.due("crashed", most.total(6), 0);
        Document.promise(61, "Returns a total since the system text was parsed.");
        Check.outside("a refused access", () -> most.readPage(6, 0));
        Check.due("does not count", most.total(0), 48);
        Check.parse(most, "system 1 1 clean;process int 1;");
        for (int what = 0; what < 7; what++) {
            Check.due("parsed", most.total(what), 0);
        }
        Check.due("the policy of the text", most.total(7), 2);
        CheckpointSwap spent = new CheckpointSwap();
        spent.appendText(0x73797374, 0x656d2032, 0x2034206c, 0x72753b70, 0x726f6365);
        spent.appendText(0x73732069, 0x6e742032, 0x3b202020, 0x20202020, 0x20202020);
        spent.parseSystem();
        for (int call = 4; call <= 511; call++) {
            spent.writePage(0, call % 2, call);
        }
        Check.due("the 512th call", spent.total(0), 508);
        Document.promise(61, "Throws `IllegalArgumentException` if what is not 0 to 7");
        Refusal.notBetween(0, 7, Scenes::quiet, (y, what) -> y.total(what));
        Refusal.notBetween(0, 7, Scenes::unparsed, (y, what) -> y.total(what));
    }

    private static void reports() {
        Document.promise(62, "Writes a report, in place of the previous one.", "Returns the length of the report in "
                + "bytes.");
        CheckpointSwap x = Check.system("system 16 48 lru;process float 8;process float 8;process float 8;"
                + "process float 8;process float 8;process float 8;");
        Check.due("the longest at first", x.writeReport(), 27 + 6 * 48);
        Check.due("its last byte", x.reportByte(314), 10);
        Check.parse(x, "system 1 1 lru;process int 1;");
        Check.due("the shortest with a process", x.writeReport(), 26 + 32);
        Check.due("its last byte", x.reportByte(57), 10);
        Check.outside("nothing of the previous one", () -> x.reportByte(58));
        Check.due("the same again", x.writeReport(), 58);
        CheckpointSwap none = new CheckpointSwap();
        Check.due("no processes", none.writeReport(), 26);
        Check.dueText("no processes", Check.reportOf(none), "epoch 0 free 1 accesses 0\n");
    }

    private static void reportLines() {
        Document.promise(62, "Its first line is the word epoch, a blank, the epoch, a blank, the word free, a blank, "
                + "the number of free slots, a blank, the word accesses, a blank and the number of accesses.",
                "Then follows one line for each process: the word process, a blank, its number, a blank, its kind "
                + "(int or float), a blank, the word checkpoint, a blank, the epoch of its checkpoint or the word "
                + "none, and for each of its pages a blank and its state as a digit, as pageState() returns it.",
                "Each line ends with a line feed (byte 10).");
        Check.dueText("busy", Check.reportOf(Scenes.busy()), "epoch 2 free 3 accesses 6\n"
                + "process 0 int checkpoint 1 2 1 3\nprocess 1 float checkpoint 1 0 2\n"
                + "process 2 int checkpoint none 3\n");
        Check.dueText("full", Check.reportOf(Scenes.full()), "epoch 0 free 0 accesses 4\n"
                + "process 0 int checkpoint none 1 1 3 3 0\nprocess 1 int checkpoint none 0\n");
        CheckpointSwap six = Check.system("system 1 48 lru;process int 1;process float 8;process int 1;"
                + "process float 1;process int 8;process float 1;");
        six.readPage(1, 7);
        Check.dueText("six processes", Check.reportOf(six), "epoch 0 free 48 accesses 1\n"
                + "process 0 int checkpoint none 0\nprocess 1 float checkpoint none 0 0 0 0 0 0 0 2\n"
                + "process 2 int checkpoint none 0\nprocess 3 float checkpoint none 0\n"
                + "process 4 int checkpoint none 0 0 0 0 0 0 0 0\nprocess 5 float checkpoint none 0\n");
        CheckpointSwap crashed = crashed();
        crashed.readPage(2, 0);
        Check.dueText("after a crash", Check.reportOf(crashed), "epoch 2 free 4 accesses 7\n"
                + "process 0 int checkpoint 1 1 1 0\nprocess 1 float checkpoint 1 0 1\n"
                + "process 2 int checkpoint none 2\n");
        Document.promise(62, "All numbers are decimal.");
        CheckpointSwap x = Check.system("system 1 48 lru;process int 1;");
        int[] steps = {8, 1, 1, 89, 1, 1, 900};
        int count = 0;
        for (int step : steps) {
            for (int k = 0; k < step; k++) {
                x.readPage(0, 0);
                x.startBarrier(1);
                x.commitBarrier();
            }
            count += step;
            Check.dueText("after " + count, Check.reportOf(x), "epoch " + count + " free 48 accesses " + count
                    + "\nprocess 0 int checkpoint " + count + " 2\n");
        }
    }

    private static void reportBytes() {
        Document.promise(63, "The report is empty at first.");
        Refusal.outside("a new object", CheckpointSwap::new, y -> y.reportByte(0));
        Refusal.outside("a new system", () -> accessed("abc"), y -> y.reportByte(0));
        Document.promise(63, "Returns a byte of the report that was written last.", "Returns the byte.");
        CheckpointSwap x = Check.system("system 1 1 lru;process int 1;");
        x.writeReport();
        String text = "epoch 0 free 1 accesses 0\nprocess 0 int checkpoint none 0\n";
        x.readPage(0, 0);
        for (int index = 0; index < text.length(); index++) {
            Check.due("byte " + index, x.reportByte(index), text.charAt(index));
        }
        Check.due("the state of the page then", x.reportByte(56), '0');
        x.writeReport();
        Check.due("the state of the page now", x.reportByte(56), '2');
        x.undo();
        Check.due("undo does not matter", x.reportByte(56), '2');
        Check.parse(x, "system 16 48 fifo;" + Scenes.SIX);
        Check.due("a new text does not matter", x.reportByte(57), 10);
        Document.promise(63, "Throws `IndexOutOfBoundsException` if there is no such byte");
        int length = Scenes.quiet().writeReport();
        Check.due("the last byte", Scenes.quiet().reportByte(length - 1), 10);
        for (int index : new int[] {length, length + 1, -1, Integer.MIN_VALUE, Integer.MAX_VALUE}) {
            Refusal.outside("byte " + index, Scenes::quiet, y -> y.reportByte(index));
        }
    }
}
