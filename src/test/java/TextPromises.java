/** Promises 1 to 10: a new object, the text buffer and the system text. */
public final class TextPromises {
    public static void main(String[] args) {
        newObject();
        buffer();
        correctTexts();
        wrongTexts();
        firstAnswers();
        Check.end(1, 10);
    }

    private static void newObject() {
        Check.promise(1);
        CheckpointSwap x = new CheckpointSwap();
        Check.due("NONE", CheckpointSwap.NONE, -1);
        Check.due("processCount", x.processCount(), 0);
        Check.due("frameCount", x.frameCount(), 1);
        Check.due("slotCount", x.slotCount(), 1);
        Check.due("total(7)", x.total(7), 0);
        Check.due("freeSlots", x.freeSlots(), 1);
        Check.due("frameOwner", x.frameOwner(0), -1);
        Check.due("undoDepth", x.undoDepth(), 0);
        Check.outside("pageCount(0)", () -> x.pageCount(0));
        Check.argument("startBarrier(1)", () -> x.startBarrier(1));
        Check.due("bestBarrier(48)", x.bestBarrier(48), 0);
        Check.due("victim", x.victim(), -1);
        Check.dueText("report", Check.reportOf(x), "epoch 0 free 1 accesses 0\n");
    }

    private static void buffer() {
        Check.promise(2);
        CheckpointSwap x = new CheckpointSwap();
        Check.due("appendText", x.appendText(0x73797374, 0x656d2031, 0x20312066, 0x69666f3b, 0x70726f63), 20);
        Check.due("appendText", x.appendText(0x65737320, 0x696e7420, 0x333b2020, 0x20202020, 0x20202020), 40);
        Check.due("parseSystem", x.parseSystem(), 1);
        Check.due("pageCount", x.pageCount(0), 3);
        for (int k = 1; k <= 20; k++) {
            Check.due("appendText", x.appendText(0, -1, 0, 0, 0), 20 * k);
        }
        Check.state("appendText at 400", () -> x.appendText(0, 0, 0, 0, 0));
        Check.due("the length stays", x.truncateText(400), 400);
        x.truncateText(381);
        Check.state("appendText at 381", () -> x.appendText(0, 0, 0, 0, 0));
        x.truncateText(380);
        Check.due("appendText at 380", x.appendText(0, 0, 0, 0, 0), 400);

        Check.promise(3);
        Check.argument("truncateText(401)", () -> x.truncateText(401));
        Check.argument("truncateText(-1)", () -> x.truncateText(-1));
        Check.due("truncateText(7)", x.truncateText(7), 7);
        Check.argument("truncateText(8)", () -> x.truncateText(8));
        Check.due("truncateText(7) again", x.truncateText(7), 7);
        Check.due("truncateText(0)", x.truncateText(0), 0);
        Check.argument("truncateText(1)", () -> x.truncateText(1));
        Check.due("a cut text", Check.parse(x, "system 3 9 lru;process int 12".substring(0, 28) + ";"), 1);
        Check.due("pages of the cut text", x.pageCount(0), 1);
    }

    private static void correctTexts() {
        Check.promise(4);
        CheckpointSwap x = new CheckpointSwap();
        Check.due("least", Check.parse(x, "system 1 1 lru;process int 1;"), 1);
        Check.due("greatest", Check.parse(x, "system 16 48 clean;process int 8;process float 8;process int 8;"
                + "process float 8;process int 8;process float 8;"), 6);
        Check.due("frames", x.frameCount(), 16);
        Check.due("slots", x.slotCount(), 48);
        Check.due("policy", x.total(7), 2);
        Check.due("kind 1", x.kindOf(1), 1);
        Check.due("kind 4", x.kindOf(4), 0);
        Check.due("pages 5", x.pageCount(5), 8);
        Check.due("no blanks", Check.parse(x, "system007 5fifo;process int2;process float3;"), 2);
        Check.due("leading zeros", x.frameCount(), 7);
        Check.due("fifo", x.total(7), 1);
        Check.due("many blanks", Check.parse(x, " \n\n system\n000000002  3 lru\n ; process\nint\n4\n;\n "), 1);
        Check.due("nine digits", x.frameCount(), 2);
        Check.argument("the buffer is empty", () -> x.truncateText(1));
        Check.due("the buffer is empty", x.truncateText(0), 0);
        Check.due("wrong text", Check.parse(x, "system 1 1 lru;"), -1);
        Check.argument("the buffer is empty after an error", () -> x.truncateText(1));
        Check.due("the system stays", x.frameCount(), 2);
        Check.due("the pages stay", x.pageCount(0), 4);
        parseClears();
    }

    private static void parseClears() {
        CheckpointSwap x = Check.system("system 1 4 clean;process int 4;process float 2;");
        Check.script(x, "write 0 0 5;write 0 1 6;barrier 3;flush 9;commit;write 1 0 7;barrier 1;crash;read 0 1;barrier 2;");
        Check.due("a wrong text changes nothing", Check.parse(x, "nonsense"), -1);
        Check.due("barrier stays", x.barrierSet(), 2);
        Check.due("undo stays", x.undoDepth(), 1);
        Check.due("new system", Check.parse(x, "system 1 4 clean;process int 4;process float 2;"), 2);
        for (int what = 0; what < 7; what++) {
            Check.due("total " + what, x.total(what), 0);
        }
        Check.due("no undo", x.undoDepth(), 0);
        Check.due("epoch", x.epoch(), 0);
        Check.due("no barrier", x.barrierSet(), 0);
        Check.due("no checkpoint", x.checkpointEpoch(0), -1);
        Check.due("free", x.freeSlots(), 4);
        Check.due("next", x.nextSlot(), 0);
        Check.outside("no log", () -> x.barrierLog(0, 0));
        Check.outside("no access", () -> x.recentAccess(0));
        for (int slot = 0; slot < 4; slot++) {
            Check.due("value", x.slotValue(slot), 0);
            Check.due("owner", x.slotOwner(slot), -1);
            Check.due("stamp", x.slotStamp(slot), -1);
        }
        for (int page = 0; page < 4; page++) {
            Check.due("page", x.peek(0, page), 0);
            Check.due("state", x.pageState(0, page), 0);
        }
        x.writePage(0, 0, 1);
        Check.parse(x, "system 1 4 clean;process int 4;process float 2;");
        Check.due("nothing is dirty", x.dirtyPages(0), 0);
        Check.due("nothing is dirty", x.total(6), 0);
    }

    private static void error(String text, int code, int position) {
        CheckpointSwap x = new CheckpointSwap();
        Check.promise(4);
        Check.due("parse <" + text + ">", Check.parse(x, text), -1);
        Check.promise(5);
        Check.due("code of <" + text + ">", x.errorCode(), code);
        Check.promise(6);
        Check.due("position in <" + text + ">", x.errorPosition(), position);
    }

    private static void wrongTexts() {
        String head = "system 1 1 lru;";
        String six = "process int 1;process int 1;process int 1;process int 1;process int 1;process int 1;";
        error("", 1, 0);
        error("  \n", 1, 3);
        error("syste 1 1 lru;process int 1;", 1, 0);
        error("systems 1 1 lru;process int 1;", 1, 0);
        error("systemz 1 1 lru;process int 1;", 1, 0);
        error("system{1 1 lru;process int 1;", 1, 6);
        error("System 1 1 lru;process int 1;", 1, 0);
        error(" ;", 1, 1);
        error("12 1 1 lru;", 1, 0);
        error("process int 1;", 1, 0);
        error("\tsystem 1 1 lru;process int 1;", 1, 0);
        error("system", 1, 6);
        error("system ", 1, 7);
        error("system lru", 1, 7);
        error("system 0 1 lru;process int 1;", 2, 7);
        error("system 17 1 lru;process int 1;", 2, 7);
        error("system 1 0 lru;process int 1;", 2, 9);
        error("system 1 49 lru;process int 1;", 2, 9);
        error("system 0000000001 1 lru;process int 1;", 2, 7);
        error("system 1 4294967297 lru;process int 1;", 2, 9);
        error("system 1 1 1 lru;process int 1;", 1, 11);
        error("system 1 1;process int 1;", 1, 10);
        error("system 1 1 int;process int 1;", 1, 11);
        error("system 1 1 lru process int 1;", 1, 15);
        error("system 1 -1 lru;", 1, 9);
        error("system 1 1 lru" + (char) 200 + ";", 1, 14);
        error("system 1 1 lru" + (char) 0 + ";", 1, 14);
        error(head, 1, 15);
        error(head + "   ", 1, 18);
        error(head + ";", 1, 15);
        error(head + "proces int 1;", 1, 15);
        error(head + "system 1 1 lru;", 1, 15);
        error(head + "process lru 1;", 1, 23);
        error(head + "process 1;", 1, 23);
        error(head + "process int 0;", 2, 27);
        error(head + "process int 9;", 2, 27);
        error(head + "process float 00000000001;", 2, 29);
        error(head + "process int ;", 1, 27);
        error(head + "process int 1", 1, 28);
        error(head + "process int 1 2;", 1, 29);
        error(head + "process int 1;x", 1, 29);
        error(head + "process int 1;;", 1, 29);
        error(head + "process int 1;1234567890", 1, 29);
        error(head + "process int 1;process", 1, 36);
        error(head + six + "process int 1;", 3, 99);
        error(head + six + " process", 3, 100);
        error(head + six + "proces", 1, 99);
        error(head + six + "7", 1, 99);
        error(head + "process int 9;" + six + "#", 2, 27);
    }

    private static void firstAnswers() {
        CheckpointSwap x = new CheckpointSwap();
        Check.promise(5);
        Check.due("code at first", x.errorCode(), 0);
        Check.promise(6);
        Check.due("position at first", x.errorPosition(), -1);
        Check.parse(x, "system 1 99");
        Check.script(x, "nonsense");
        Check.promise(5);
        Check.due("code after a script", x.errorCode(), 2);
        Check.promise(6);
        Check.due("position after a script", x.errorPosition(), 9);
        Check.parse(x, "system 3 2 lru;process int 1;process float 2;");
        Check.promise(5);
        Check.due("code after a correct text", x.errorCode(), 0);
        Check.promise(6);
        Check.due("position after a correct text", x.errorPosition(), -1);
        Check.promise(7);
        Check.due("processCount", x.processCount(), 2);
        Check.promise(8);
        Check.due("frameCount", x.frameCount(), 3);
        Check.promise(9);
        Check.due("slotCount", x.slotCount(), 2);
        Check.promise(10);
        Check.due("epoch", x.epoch(), 0);
        x.startBarrier(1);
        Check.due("epoch when started", x.epoch(), 1);
        x.abandonBarrier();
        Check.due("epoch when abandoned", x.epoch(), 1);
        x.startBarrier(3);
        x.crash();
        Check.due("epoch after a crash", x.epoch(), 2);
        x.undo();
        x.undo();
        Check.due("epoch after undo", x.epoch(), 1);
    }
}
