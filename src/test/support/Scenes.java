/** Objects in the middle of their work, always made in the same way. */
final class Scenes {
    /** The most processes and pages that there can be. */
    static final String SIX = "process int 8;process int 8;process int 8;process int 8;process int 8;process int 8;";

    static final Refusal.Scene[] ALL = {CheckpointSwap::new, Scenes::unparsed, Scenes::quiet, Scenes::busy,
        Scenes::written, Scenes::full, Scenes::fullInBarrier};

    private Scenes() {
    }

    /** A wrong text was parsed, a report was written, and a text stands in the buffer. */
    private static CheckpointSwap withTexts(CheckpointSwap x) {
        Check.parse(x, "system 4 49 lru;");
        x.writeReport();
        Check.put(x, "system 9 8 fifo;process float 7;");
        return x;
    }

    /** No system text was correct yet. */
    static CheckpointSwap unparsed() {
        CheckpointSwap x = new CheckpointSwap();
        x.setPolicy(2);
        x.crash();
        return withTexts(x);
    }

    /** The processes 0 and 1 have a checkpoint, 2 has none; only page 1 of process 1 is resident and clean. */
    private static CheckpointSwap working() {
        CheckpointSwap x = Check.system("system 4 7 lru;process int 3;process float 2;process int 1;");
        x.writePage(0, 0, 1);
        x.writePage(0, 1, 2);
        x.evictPage(0, 1);
        x.writePage(1, 1, 0x3f800000);
        x.startBarrier(3);
        x.writeBarrier(48);
        x.commitBarrier();
        x.writePage(0, 0, 5);
        x.writePage(0, 2, 6);
        x.writePage(2, 0, 7);
        return x;
    }

    /** No barrier is in progress; ten changes can be undone. */
    static CheckpointSwap quiet() {
        CheckpointSwap x = working();
        x.readPage(1, 1);
        x.setPolicy(1);
        return withTexts(x);
    }

    /** A barrier for the processes 0 and 2 is in progress; two of its three pages are still to be written. */
    static CheckpointSwap busy() {
        CheckpointSwap x = working();
        x.startBarrier(5);
        x.writeBarrier(1);
        return withTexts(x);
    }

    /** All pages of the barrier in progress, which is for the process 0, have been written. */
    static CheckpointSwap written() {
        CheckpointSwap x = working();
        x.startBarrier(1);
        x.writeBarrier(2);
        return withTexts(x);
    }

    /** No slot is free, and the pages 2 and 3 in the two frames are dirty; 4 was never accessed. */
    static CheckpointSwap full() {
        CheckpointSwap x = Check.system("system 2 2 clean;process int 5;process int 1;");
        for (int page = 0; page < 4; page++) {
            x.writePage(0, page, 10 + page);
        }
        return withTexts(x);
    }

    /** The greatest system: 32 pages in slots, 16 dirty ones in all frames, 16 free slots, and a barrier for all. */
    static CheckpointSwap large() {
        CheckpointSwap x = Check.system("system 16 48 lru;" + SIX);
        for (int k = 0; k < 40; k++) {
            x.readPage(k % 6, k % 8);
        }
        for (int k = 0; k < 48; k++) {
            x.writePage(k / 8, k % 8, 100 + k);
        }
        x.startBarrier(63);
        return x;
    }

    /** As full(), and the pages in the frames are still to be written for a barrier. */
    static CheckpointSwap fullInBarrier() {
        CheckpointSwap x = full();
        x.startBarrier(1);
        return x;
    }
}
