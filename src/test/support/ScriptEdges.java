/** What section 5 of the description says of script texts, and promise 21. */
final class ScriptEdges {
    private ScriptEdges() {
    }

    static void run() {
        operations();
        tokens();
        wrongTokens();
        tooEarly();
        refusedOperations();
        firstMet();
        oneChange();
        buffer();
        withoutTokens();
        answers();
        wrongAnswers();
    }

    /** Processes 0 and 1 with a checkpoint, no barrier, all slots but one in use. */
    private static CheckpointSwap scene() {
        CheckpointSwap x = Check.after("system 2 5 lru;process int 3;process float 1;process int 1;",
                "write 0 0 1;write 0 1 2;barrier 3;flush 48;commit;write 0 2 3;write 0 0 4;");
        x.setPolicy(1);
        return x;
    }

    private static void wrong(String text, int position) {
        Check.due("<" + text + ">", Check.script(scene(), text), -1 - position);
    }

    private static void operations() {
        Document.section(5, "runScript() reads a text of operations, each with a semicolon, and executes each "
                + "operation when its semicolon has been read: \"read P V\" (as readPage), \"write P V N\" (as "
                + "writePage), \"barrier M\" (as startBarrier), \"flush N\" (as writeBarrier), \"commit\", "
                + "\"abandon\", \"crash\" (as the methods with these first words), \"rollback P\" and \"evict P V\" "
                + "(as evictPage).");
        as("read 0 1;", x -> x.readPage(0, 1));
        as("write 0 1 999999999;", x -> x.writePage(0, 1, 999999999));
        as("write 0 0 0;", x -> x.writePage(0, 0, 0));
        as("barrier 7;", x -> x.startBarrier(7));
        as("barrier 1;flush 1;", x -> x.startBarrier(1) + x.writeBarrier(1));
        as("barrier 1;flush 48;", x -> x.startBarrier(1) + x.writeBarrier(48));
        as("barrier 4;commit;", x -> x.startBarrier(4) + x.commitBarrier());
        as("barrier 2;abandon;", x -> x.startBarrier(2) + x.abandonBarrier());
        as("crash;", x -> x.crash());
        as("rollback 0;", x -> x.rollback(0));
        as("write 0 1 6;write 1 0 5;rollback 1;", x -> x.writePage(0, 1, 6) + x.writePage(1, 0, 5) + x.rollback(1));
        as("write 1 0 5;write 0 1 6;rollback 0;", x -> x.writePage(1, 0, 5) + x.writePage(0, 1, 6) + x.rollback(0));
        as("evict 0 2;", x -> x.evictPage(0, 2));
        CheckpointSwap wrongBefore = scene();
        CheckpointSwap rightBefore = scene();
        wrongBefore.writePage(1, 0, 5);
        rightBefore.writePage(1, 0, 5);
        for (String wrong : new String[] {"read 0 8;", "write 0 8 8;", "evict 1 8;"}) {
            Check.script(wrongBefore, wrong);
        }
        Check.script(wrongBefore, "rollback 0;");
        rightBefore.rollback(0);
        Check.dueText("numbers of an earlier script", Snapshot.ofState(wrongBefore), Snapshot.ofState(rightBefore));
        CheckpointSwap x = scene();
        Check.due("each after the other", Check.script(x, "write 0 0 7;evict 0 0;read 0 0;rollback 0;read 0 0;"), 5);
        Check.due("the last one read it", x.peek(0, 0), 1);
    }

    private static void as(String script, Refusal.On calls) {
        CheckpointSwap x = scene();
        CheckpointSwap y = scene();
        Check.script(x, script);
        calls.call(y);
        Check.dueText("<" + script + ">", Snapshot.ofState(x), Snapshot.ofState(y));
    }

    private static void tokens() {
        Document.section(5, "The tokens are those of a system text.");
        as(" \n read\n00 000000001\n ; \n", x -> x.readPage(0, 1));
        as("read0 1;", x -> x.readPage(0, 1));
        as("crash ;crash\n;", x -> x.crash() + x.crash());
        wrong("re ad 0 1;", 0);
        wrong("readread 0 1;", 0);
        wrong("Read 0 1;", 0);
        wrong("crasha;", 0);
        wrong("crashz;", 0);
        wrong("zcrash;", 0);
        wrong("drash;", 0);
        wrong("crasi;", 0);
        wrong("crash:", 5);
        wrong("crash<", 5);
        wrong("read 0 /;", 7);
        wrong("read 0 :;", 7);
        wrong("`rash;", 0);
        wrong("{rash;", 0);
    }

    private static void wrongTokens() {
        Document.section(5, "The text is wrong at the first byte of a token that cannot stand where it stands (also a "
                + "number of more than nine digits, an unknown word, and a byte that begins no token), at its length "
                + "if it ends too early");
        String[] forms = {"read 0 1;", "write 0 1 5;", "barrier 1;", "flush 1;", "commit;", "abandon;", "crash;",
            "rollback 0;", "evict 0 0;"};
        for (String form : forms) {
            String bare = form.substring(0, form.length() - 1);
            int length = bare.length();
            wrong(bare + " 1;", length + 1);
            wrong(bare + " x;", length + 1);
            wrong(bare + "#;", length);
            wrong("crash;" + bare + "x", 6 + (bare.indexOf(' ') < 0 ? 0 : length));
            for (int space = bare.indexOf(' '); space >= 0; space = bare.indexOf(' ', space + 1)) {
                wrong(bare.substring(0, space) + " ;", space + 1);
                wrong(bare.substring(0, space) + " 1234567890;", space + 1);
                wrong(bare.substring(0, space) + " 0000000000;", space + 1);
                wrong(bare.substring(0, space) + " word;", space + 1);
                wrong(bare.substring(0, space) + " " + (char) 255, space + 1);
            }
        }
        for (String word : new String[] {"policy", "system", "process", "undo", "reads", "rea", "x"}) {
            wrong(word + " 0 1;", 0);
            wrong("crash; " + word + ";", 7);
        }
        wrong("5;", 0);
        wrong(";", 0);
        wrong("crash;;", 6);
        wrong("crash;" + (char) 0, 6);
        wrong("\t", 0);
    }

    private static void tooEarly() {
        Document.section(5, "at its length if it ends too early");
        String text = "write 0 1 5";
        for (int end : new int[] {5, 6, 7, 8, 9, 10, 11}) {
            wrong(text.substring(0, end), end);
            wrong(text.substring(0, end) + " \n", end + 2);
        }
        wrong("crash", 5);
        wrong("crash;crash", 11);
        String full = " ".repeat(395) + "crash";
        wrong(full, 400);
        Check.due("a full text that ends in time", Check.script(scene(), full.substring(1) + ";"), 1);
    }

    private static void refusedOperations() {
        Document.section(5, "and at the first byte of the word of an operation for which the corresponding method "
                + "would throw an exception.");
        String[] refused = {"read 3 0;", "read 0 3;", "read 999999999 999999999;", "write 3 0 1;", "write 1 1 1;",
            "barrier 0;", "barrier 8;", "barrier 999999999;", "flush 1;", "flush 0;", "commit;", "abandon;",
            "rollback 2;", "rollback 3;", "evict 0 3;", "evict 3 0;", "evict 1 0;"};
        for (String each : refused) {
            wrong(each, 0);
            wrong("\n  " + each, 3);
            wrong("crash;" + each, 6);
        }
        wrong("barrier 1;barrier 1;", 10);
        wrong("barrier 1;flush 49;", 10);
        wrong("barrier 1;flush 0;", 10);
        wrong("barrier 1;commit;", 10);
        wrong("barrier 1;rollback 0;", 10);
        CheckpointSwap x = Scenes.full();
        Check.due("no slot for the victim of a read", Check.script(x, "read 0 4;"), -1);
        Check.due("no slot for the victim of a write", Check.script(x, "read 0 2;write 0 4 1;"), -10);
        Check.due("no slot for an eviction", Check.script(x, "evict 0 2;"), -1);
        Check.due("no slot for the barrier", Check.script(x, "barrier 1;write 0 2 5;"), -11);
        Check.due("a flush without a slot is no exception", Check.script(x, "barrier 1;flush 1;"), 2);
    }

    private static void firstMet() {
        Document.section(5, "The first of these that is met while reading counts.");
        wrong("read 3 0", 8);
        wrong("read 3 0 0;", 9);
        wrong("read 3 0;x", 0);
        wrong("crash;commit;read", 6);
        wrong("read 3 1234567890;", 7);
        wrong("read 0 0;read 0 3;read 0", 9);
        wrong("read 0 0;read 0;read 0 3;", 15);
    }

    private static void oneChange() {
        Document.promise(21, "Parses the text buffer as a script text and executes it as one change (see section 5).");
        CheckpointSwap x = scene();
        String before = Snapshot.ofState(x);
        int depth = x.undoDepth();
        Check.due("three operations", Check.script(x, "read 0 0;write 0 0 9;crash;"), 3);
        Check.due("one change", x.undoDepth(), depth + 1);
        Check.due("undone at once", x.undo(), depth);
        Check.dueText("undone at once", Snapshot.ofState(x), before);
        for (int k = 0; k < 12; k++) {
            Check.script(x, "write 0 0 " + k + ";read 0 0;");
        }
        Check.due("ten scripts", x.undoDepth(), 10);
        for (int k = 10; k > 0; k--) {
            x.undo();
            Check.due("one script less", x.peek(0, 0), k);
        }
    }

    private static void buffer() {
        Document.promise(21, "The buffer is empty afterwards.");
        CheckpointSwap x = scene();
        for (String text : new String[] {"crash;", "", "x", "read 9 9;", "read", " ".repeat(400)}) {
            Check.script(x, text);
            Check.argument("after <" + text + ">", () -> x.truncateText(1));
            Check.due("after <" + text + ">", x.runScript(), 0);
        }
    }

    private static void withoutTokens() {
        Document.promise(21, "A text without tokens has no operations and is a change, too.");
        CheckpointSwap x = Scenes.unparsed();
        for (String text : new String[] {"", " ", "\n", " ".repeat(399) + "\n"}) {
            int depth = x.undoDepth();
            Check.due("no operations", Check.script(x, text), 0);
            Check.due("a change", x.undoDepth(), depth + 1);
        }
        CheckpointSwap y = new CheckpointSwap();
        y.runScript();
        Check.due("the first call of all", y.undo(), 0);
    }

    private static void answers() {
        Document.promise(21, "Returns the number of operations;");
        CheckpointSwap x = scene();
        Check.due("one", Check.script(x, "crash;"), 1);
        Check.due("two", Check.script(x, "crash;crash;"), 2);
        Check.due("a full text of the shortest ones", Check.script(x, "crash;".repeat(66) + "   \n"), 66);
        Check.due("all were executed", x.total(4), 69);
        Check.due("a full text of accesses", Check.script(x, "read0 0;".repeat(50)), 50);
        Check.due("all were executed", x.total(0), 54);
    }

    private static void wrongAnswers() {
        Document.promise(21, "-1 - p if the text is wrong at position p, and then nothing changes but the buffer.");
        Check.due("at 0", Check.script(scene(), "#"), -1);
        Check.due("at 1", Check.script(scene(), " #"), -2);
        Check.due("at 399", Check.script(scene(), " ".repeat(399) + "#"), -400);
        Check.due("at 400", Check.script(scene(), " ".repeat(395) + "crash"), -401);
        String[] texts = {"crash;x", "read 0 0;write 0 1 5;evict 0 0;read 0 9;", "rollback 1;rollback 3;",
            "barrier 2;commit;barrier 4;commit;commit;", "crash;barrier 7;abandon;crash"};
        for (String text : texts) {
            for (Refusal.Scene each : Scenes.ALL) {
                CheckpointSwap x = each.make();
                CheckpointSwap y = each.make();
                Check.due("wrong", Check.script(x, text) < 0 ? 1 : 0, 1);
                y.truncateText(0);
                Refusal.same("<" + text + ">", x, y);
            }
        }
    }
}
