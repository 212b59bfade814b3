/** Section 5 of the description and promises 1 to 10: the buffer, system texts and script texts. */
final class TextEdges {
    private static final String HEAD = "system 1 1 lru;";
    private static final String ONE = "process int 1;";
    private static final String SIX = ONE + ONE + ONE + ONE + ONE + ONE;

    private TextEdges() {
    }

    static void run() {
        statements();
        tokens();
        blanks();
        positions();
        firstError();
        codeOne();
        codeTwo();
        codeThree();
        afterCorrectText();
        newObject();
        append();
        truncate();
        parse();
        latestError();
        counts();
    }

    private static int parsed(String text) {
        return Check.parse(new CheckpointSwap(), text);
    }

    /** The code 0 at the position -1 stands for a correct text. */
    private static void error(String text, int code, int position) {
        CheckpointSwap x = new CheckpointSwap();
        int answer = Check.parse(x, text);
        Check.due("a negative answer for <" + text + ">", answer < 0 ? 1 : 0, code == 0 ? 0 : 1);
        Check.due("code of <" + text + ">", x.errorCode(), code);
        Check.due("position in <" + text + ">", x.errorPosition(), position);
    }

    private static void statements() {
        Document.section(5, "A system text consists of statements, each with a semicolon: first \"system F S POLICY\" "
                + "with the numbers of frames and slots and a word for the policy, lru (0), fifo (1) or clean (2);");
        String[] words = {"lru", "fifo", "clean"};
        for (int policy = 0; policy < 3; policy++) {
            CheckpointSwap x = Check.system("system 3 5 " + words[policy] + ";" + ONE);
            Check.due("policy", x.total(7), policy);
            Check.due("frames", x.frameCount(), 3);
            Check.due("slots", x.slotCount(), 5);
            error(ONE + "system 3 5 " + words[policy] + ";", 1, 0);
        }
        error(ONE, 1, 0);
        error(ONE + ONE, 1, 0);
        for (int cut = 0; cut < HEAD.length(); cut++) {
            error(HEAD.substring(0, cut) + " ", 1, cut < 6 ? cut == 0 ? 1 : 0 : cut < 14 && cut > 11 ? 11 : cut + 1);
        }
        Document.section(5, "then 1 to 6 statements \"process KIND N\" with a word for the kind, int or float, and "
                + "the number of pages.");
        error(HEAD, 1, HEAD.length());
        Check.due("one", parsed(HEAD + "process float 3;"), 1);
        Check.due("six", parsed(HEAD + SIX), 6);
        error(HEAD + SIX + ONE, 3, HEAD.length() + SIX.length());
        error(HEAD + "process int 1", 1, 28);
        error(HEAD + "process int int;", 1, 27);
        error(HEAD + "process 1 int;", 1, 23);
    }

    private static void tokens() {
        Document.section(5, "A token is a word (as many letters a to z as follow one another), a number (as many "
                + "digits as follow one another), or a semicolon.");
        Check.due("tokens without blanks", parsed("system1 2lru;process int8;"), 1);
        error("systemlru 1 1 lru;" + ONE, 1, 0);
        error("system 1 1 lrufifo;" + ONE, 1, 11);
        error("system 12 3 lru;processint 1;", 1, 16);
        error("system 1 1 lru;;" + ONE, 1, 15);
        for (String word : new String[] {"systema", "systemz", "asystem", "zsystem", "xystem", "systex", "syste", "s",
                "z", "a"}) {
            error(word + " 1 1 lru;" + ONE, 1, 0);
        }
        error("`ystem 1 1 lru;", 1, 0);
        error("{ystem 1 1 lru;", 1, 0);
        error("system`1 1 lru;", 1, 6);
        error("system{1 1 lru;", 1, 6);
        error("system 1/1 lru;", 1, 8);
        error("system 1:1 lru;", 1, 8);
        error("system 1 1 lru:" + ONE, 1, 14);
        error("system 1 1 lru<" + ONE, 1, 14);
        error("sYstem 1 1 lru;", 1, 0);
        error("systeM 1 1 lru;", 1, 0);
        error("system 01 0001 lru;" + ONE, 0, -1);
    }

    private static void blanks() {
        Document.section(5, "Blanks (byte 32) and line feeds (byte 10) may stand before, between and after tokens.");
        error(" \n system\n1 \n1\n\nlru ;\n process  int\n1 ; \n", 0, -1);
        error("\n" + HEAD + ONE + "\n", 0, -1);
        for (int sign : new int[] {0, 9, 11, 12, 13, 31, 33, 127, 128, 160, 255}) {
            error("" + (char) sign + HEAD + ONE, 1, 0);
            error("system " + (char) sign + "1 1 lru;", 1, 7);
            error(HEAD + ONE + (char) sign, 1, 29);
        }
        error("sys tem 1 1 lru;", 1, 0);
        error("system 1 1 l\nru;", 1, 11);
    }

    private static void positions() {
        Document.section(5, "An error of a system text has a code and a position, which is the index of the first "
                + "byte of a token, or the length of the text at its end.");
        error("", 1, 0);
        error(" ", 1, 1);
        error("\n\n\n", 1, 3);
        error("system", 1, 6);
        error("system 1  \n", 1, 11);
        error("   systems 1", 1, 3);
        error(HEAD + "  ", 1, 17);
        String full = " ".repeat(400);
        error(full, 1, 400);
        error(full.substring(0, 399) + "x", 1, 399);
        error(full.substring(0, 399) + ";", 1, 399);
        error(full.substring(0, 399) + "1", 1, 399);
        error(HEAD + full.substring(HEAD.length()), 1, 400);
        error(full.substring(0, 400 - HEAD.length() - ONE.length()) + HEAD + ONE, 0, -1);
        error(HEAD + ONE + full.substring(HEAD.length() + ONE.length()), 0, -1);
        error(full.substring(0, 399 - HEAD.length() - ONE.length()) + HEAD + ONE + "p", 1, 399);
    }

    private static void firstError() {
        Document.section(5, "The first token with an error counts;");
        error("system 0 0 int;", 2, 7);
        error("system 1 0 int;", 2, 9);
        error("system 1 1 int process", 1, 11);
        error(HEAD + "process int 9" + SIX, 2, 27);
        error(HEAD + SIX + "process float 9 #", 3, 99);
        error(HEAD + "process int 8 process int 9;", 1, 29);
        Document.section(5, "the codes are, at one token the lowest one that applies:");
        error(HEAD + "1234567890", 1, 15);
        error("system 1 1 99;", 1, 11);
        error(HEAD + "process int 1 1234567890;", 1, 29);
        error("0000000000 1 1 lru;", 1, 0);
    }

    private static void codeOne() {
        Document.section(5, "1: the token cannot stand here (also an unknown word, a byte that begins no token, and "
                + "the end of the text within a statement or before the first process);");
        String text = HEAD + "process float 2;";
        int[] ends = {0, 6, 8, 10, 14, 15, 22, 28, 30};
        for (int end : ends) {
            error(text.substring(0, end), 1, end);
        }
        int[] starts = {0, 7, 9, 11, 14, 15, 23, 29, 30};
        for (int k = 0; k < starts.length; k++) {
            error(text.substring(0, starts[k]) + "#", 1, starts[k]);
            error(text.substring(0, starts[k]) + " abc", 1, starts[k] + 1);
            boolean number = k == 1 || k == 2 || k == 7;
            boolean semicolon = k == 4 || k == 8;
            error(text.substring(0, starts[k]) + " 99", number ? 2 : 1, starts[k] + 1);
            error(text.substring(0, starts[k]) + " ;" + (semicolon ? "#" : ""), 1, starts[k] + (semicolon ? 2 : 1));
        }
        error(text + "system", 1, 31);
        error(text + "process", 1, 38);
        error(text + "7", 1, 31);
    }

    private static void codeTwo() {
        Document.section(5, "2: a number that is out of its range, or that has more than nine digits;");
        error("system 16 48 lru;process int 8;", 0, -1);
        error("system 0 1 lru;" + ONE, 2, 7);
        error("system 17 1 lru;" + ONE, 2, 7);
        error("system 1 0 lru;" + ONE, 2, 9);
        error("system 1 49 lru;" + ONE, 2, 9);
        error(HEAD + "process int 0;", 2, 27);
        error(HEAD + "process int 9;", 2, 27);
        error("system 000000016 000000048 lru;process int 000000008;", 0, -1);
        error("system 0000000016 1 lru;" + ONE, 2, 7);
        error("system 1 0000000048 lru;" + ONE, 2, 9);
        error(HEAD + "process int 0000000008;", 2, 27);
        error("system 999999999 1 lru;" + ONE, 2, 7);
        error("system 000000000 1 lru;" + ONE, 2, 7);
        error("system 4294967297 1 lru;" + ONE, 2, 7);
        error("system 18446744073709551617 1 lru;" + ONE, 2, 7);
        error("system 1 " + "1".repeat(391), 2, 9);
    }

    private static void codeThree() {
        Document.section(5, "3: the keyword of a seventh process.");
        error(HEAD + SIX + "process", 3, 99);
        error(HEAD + SIX + "\n process int 1;", 3, 101);
        error(HEAD + SIX + "processes", 1, 99);
        error(HEAD + SIX + "system", 1, 99);
        error(HEAD + SIX + ";", 1, 99);
        error(HEAD + SIX, 0, -1);
        error(HEAD + SIX.substring(14) + "process", 1, 92);
    }

    private static void afterCorrectText() {
        Document.section(5, "After a correct text all pages have the value 0, no page is resident, all slots are free "
                + "with the value 0 and without an owner, there are no checkpoints, no barrier is in progress or was "
                + "committed, and the epoch and all counts are 0.");
        String text = "system 2 5 clean;process int 3;process float 2;";
        for (Refusal.Scene scene : Scenes.ALL) {
            CheckpointSwap x = scene.make();
            Check.due("two processes", Check.parse(x, text), 2);
            Check.dueText("as in a new object", Snapshot.ofState(x), Snapshot.ofState(Check.system(text)));
        }
        CheckpointSwap x = Scenes.busy();
        Check.parse(x, text);
        for (int slot = 0; slot < 5; slot++) {
            Check.due("slot", x.slotUse(slot) + x.slotValue(slot) + x.slotOwner(slot) + x.slotStamp(slot), -2);
        }
        for (int what = 0; what < 7; what++) {
            Check.due("total " + what, x.total(what), 0);
        }
        Check.due("epoch", x.epoch(), 0);
        Check.due("barrier", x.barrierSet() + x.pendingPages(), 0);
        Check.due("checkpoints", x.checkpointEpoch(0) + x.checkpointEpoch(1), -2);
        Check.outside("log", () -> x.barrierLog(0, 0));
        Check.due("pages", x.peek(0, 0) + x.residentPages(0) + x.residentPages(1), 0);
        x.readPage(0, 0);
        Check.due("times begin again", x.frameTime(0, 0), 1);
    }

    private static void newObject() {
        Document.promise(1, "Creates a system without processes.");
        CheckpointSwap x = new CheckpointSwap();
        Check.due("processes", x.processCount(), 0);
        Check.outside("process 0", () -> x.readPage(0, 0));
        Check.argument("a set of processes", () -> x.startBarrier(1));
        Check.argument("a set of processes", () -> x.wouldWrite(1));
        Check.due("a set of processes", x.bestBarrier(0), 0);
        Check.due("its report", x.writeReport(), 26);
    }

    private static void append() {
        Document.promise(2, "Appends twenty characters to the text buffer: the four bytes of each argument in order, "
                + "the most significant byte first.", "characters 0 to 3", "characters 4 to 7", "characters 8 to 11",
                "characters 12 to 15", "characters 16 to 19");
        String correct = "system 1 1 lru;process int 1;           ";
        for (int spoilt = 0; spoilt < 40; spoilt++) {
            CheckpointSwap x = new CheckpointSwap();
            String text = correct.substring(0, spoilt) + "#" + correct.substring(spoilt + 1);
            x.appendText(Check.word(text, 0), Check.word(text, 4), Check.word(text, 8), Check.word(text, 12),
                    Check.word(text, 16));
            x.appendText(Check.word(text, 20), Check.word(text, 24), Check.word(text, 28), Check.word(text, 32),
                    Check.word(text, 36));
            x.parseSystem();
            boolean inWord = spoilt > 0 && spoilt < 6 || spoilt > 11 && spoilt < 14 || spoilt > 15 && spoilt < 22
                    || spoilt > 23 && spoilt < 26;
            int start = spoilt < 6 ? 0 : spoilt < 14 ? 11 : spoilt < 22 ? 15 : 23;
            Check.due("the byte at " + spoilt, x.errorPosition(), inWord ? start : spoilt);
        }
        CheckpointSwap bytes = new CheckpointSwap();
        bytes.appendText(0xff000000, 0, 0, 0, 0);
        bytes.parseSystem();
        Check.due("the byte 255 and zeros", bytes.errorPosition(), 0);

        Document.promise(2, "Returns the new length of the buffer.");
        CheckpointSwap x = new CheckpointSwap();
        for (int k = 1; k <= 20; k++) {
            Check.due("length", x.appendText(-1, 0, 0x20202020, Integer.MAX_VALUE, Integer.MIN_VALUE), 20 * k);
        }
        Document.promise(2, "Throws `IllegalStateException` if the length would be above 400");
        Check.state("at 400", () -> x.appendText(0, 0, 0, 0, 0));
        for (int length : new int[] {399, 390, 381}) {
            x.truncateText(length);
            Check.state("at " + length, () -> x.appendText(0, 0, 0, 0, 0));
            Check.due("the length stays", Snapshot.bufferLength(x), length);
        }
        x.truncateText(380);
        Check.due("at 380", x.appendText(0, 0, 0, 0, 0), 400);
        x.truncateText(379);
        Check.due("at 379", x.appendText(0, 0, 0, 0, 0), 399);
        Refusal.state("a full buffer", TextEdges::filled, y -> y.appendText(0x20202020, 0, 0, 0, 0));
        Refusal.state("a buffer with 19 bytes left", TextEdges::almostFilled,
                y -> y.appendText(0x20202020, 0, 0, 0, 0));
    }

    private static CheckpointSwap filled() {
        CheckpointSwap x = Scenes.busy();
        Check.put(x, HEAD + SIX + "\n".repeat(400 - HEAD.length() - SIX.length()));
        return x;
    }

    private static CheckpointSwap almostFilled() {
        CheckpointSwap x = filled();
        x.truncateText(381);
        return x;
    }

    private static void truncate() {
        Document.promise(3, "Truncates the text buffer to its first characters.", "Returns the new length.");
        CheckpointSwap x = new CheckpointSwap();
        Check.due("an empty buffer", x.truncateText(0), 0);
        Check.put(x, HEAD + "process int 12345678;");
        Check.due("the present length", x.truncateText(36), 36);
        Check.due("one less", x.truncateText(35), 35);
        Check.due("28", x.truncateText(28), 28);
        x.appendText(Check.word(";   ", 0), Check.word("", 0), Check.word("", 0), Check.word("", 0), Check.word("", 0));
        Check.due("the first characters stay", x.parseSystem(), 1);
        Check.due("one page", x.pageCount(0), 1);
        Check.put(x, HEAD + ONE);
        Check.due("0", x.truncateText(0), 0);
        x.parseSystem();
        Check.due("nothing is left", x.errorPosition(), 0);
        Document.promise(3, "Throws `IllegalArgumentException` if length is negative or above the present length");
        Refusal.argument("-1", Scenes::busy, y -> y.truncateText(-1));
        Refusal.argument("least", Scenes::busy, y -> y.truncateText(Integer.MIN_VALUE));
        Refusal.argument("one above", Scenes::busy, y -> y.truncateText(33));
        Refusal.argument("greatest", Scenes::busy, y -> y.truncateText(Integer.MAX_VALUE));
        Refusal.argument("401 in a full buffer", TextEdges::filled, y -> y.truncateText(401));
        Refusal.argument("1 in an empty buffer", CheckpointSwap::new, y -> y.truncateText(1));
        Check.due("400 in a full buffer", filled().truncateText(400), 400);
    }

    private static void parse() {
        Document.promise(4, "Parses the text buffer as a system text.", "If it is correct, the new system replaces "
                + "the present one.", "Returns the number of processes;");
        CheckpointSwap x = Scenes.busy();
        Check.due("one process", x.parseSystem(), 1);
        Check.due("frames", x.frameCount(), 9);
        Check.due("slots", x.slotCount(), 8);
        Check.due("kind", x.kindOf(0), 1);
        Check.due("pages", x.pageCount(0), 7);
        Check.outside("the former processes are gone", () -> x.pageCount(1));
        Check.due("six processes", Check.parse(x, HEAD + SIX), 6);
        Check.due("the same again", Check.parse(x, HEAD + SIX), 6);
        Check.due("one process", Check.parse(x, HEAD + ONE), 1);
        Document.promise(4, "The buffer is empty afterwards in every case.");
        for (String text : new String[] {HEAD + ONE, "", "x", HEAD, HEAD + SIX + "process", "\n".repeat(400)}) {
            Check.parse(x, text);
            Check.argument("after <" + text + ">", () -> x.truncateText(1));
            Check.due("after <" + text + ">", x.truncateText(0), 0);
        }
        Document.promise(4, "NONE if the text has an error, and then the system stays.");
        String head = "system 2 2 lru;";
        String[] wrong = {"", head, head + "process int 9;", head + SIX + "process", head + ONE + "process"};
        for (String text : wrong) {
            CheckpointSwap y = Scenes.busy();
            Check.due("<" + text + ">", Check.parse(y, text), -1);
            Check.dueText("the system stays", Snapshot.ofState(y), Snapshot.ofState(Scenes.busy()));
            Check.due("undo stays", y.undoDepth(), 10);
        }
    }

    private static void latestError() {
        CheckpointSwap x = new CheckpointSwap();
        Document.promise(5, "0 if it had no error or was never called.");
        Check.due("never called", x.errorCode(), 0);
        Document.promise(6, "NONE if it had no error or was never called.");
        Check.due("never called", x.errorPosition(), -1);
        int[] codes = {1, 2, 3, 0, 1, 0};
        int[] places = {0, 7, 99, -1, 400, -1};
        String[] texts = {"", "system 0", HEAD + SIX + "process", HEAD + ONE, " ".repeat(400), HEAD + SIX};
        for (int k = 0; k < texts.length; k++) {
            Check.parse(x, texts[k]);
            Document.promise(5, "Returns the code of the error of the latest parseSystem().", "Returns 1 to 3;",
                    "0 if it had no error or was never called.");
            Check.due("code " + k, x.errorCode(), codes[k]);
            Document.promise(6, "Returns the position of the error of the latest parseSystem().",
                    "Returns the position;", "NONE if it had no error or was never called.");
            Check.due("position " + k, x.errorPosition(), places[k]);
        }
        Check.parse(x, "system 17");
        Check.script(x, "nonsense");
        x.crash();
        x.undo();
        Document.promise(5, "Returns the code of the error of the latest parseSystem().");
        Check.due("a script and undo do not matter", x.errorCode(), 2);
        Document.promise(6, "Returns the position of the error of the latest parseSystem().");
        Check.due("a script and undo do not matter", x.errorPosition(), 7);
    }

    private static void counts() {
        CheckpointSwap first = new CheckpointSwap();
        CheckpointSwap most = Check.system("system 16 48 lru;" + SIX);
        CheckpointSwap least = Check.system(HEAD + ONE);
        Document.promise(7, "Returns the number of processes.", "Returns 0 to 6.");
        Check.due("none", first.processCount(), 0);
        Check.due("one", least.processCount(), 1);
        Check.due("six", most.processCount(), 6);
        Document.promise(8, "Returns the number of frames.", "Returns 1 to 16.");
        Check.due("at first", first.frameCount(), 1);
        Check.due("one", least.frameCount(), 1);
        Check.due("sixteen", most.frameCount(), 16);
        Document.promise(9, "Returns the number of slots.", "Returns 1 to 48.");
        Check.due("at first", first.slotCount(), 1);
        Check.due("one", least.slotCount(), 1);
        Check.due("48", most.slotCount(), 48);
        Document.promise(10, "Returns the epoch.", "Returns 0 or more.");
        Check.due("at first", first.epoch(), 0);
        for (int k = 1; k <= 200; k++) {
            most.startBarrier(k % 63 + 1);
            Check.due("started", most.epoch(), k);
            most.abandonBarrier();
            Check.due("abandoned", most.epoch(), k);
        }
        Check.state("a refused barrier", () -> {
            most.startBarrier(1);
            return most.startBarrier(1);
        });
        Check.due("does not count", most.epoch(), 201);
        most.undo();
        Check.due("undone", most.epoch(), 200);
    }
}
