/** The sentences of the promises 1 to 5, 21 and 22: a new object, the input buffer, runScript and its error. */
final class InputSentences extends Sentences {
    static void all() {
        newObject();
        append();
        truncateInput();
        inputLength();
        runScript();
        scriptErrorKind();
        scriptErrorOffset();
    }

    // ---- promise 1

    private static void newObject() {
        place("Promise 1: A new object");
        holds("Creates a planner as by the script", InputSentences::asByTheScript);
        holds("The input buffer is empty", InputSentences::newInputIsEmpty);
        holds("and nothing can be undone.", InputSentences::nothingToUndo);
    }

    private static void asByTheScript() {
        String script = "disk 20; item 7 30; item 9 42; item 4 12; item 12 50; item 5 12; item 3 2; pin 5; exclude 4;";
        that("as the script", all(new BackupPlanner()), all(planner(script)));
        that("items and counters", all(new BackupPlanner()), "20 0 0 0: 7,30,0,0 9,42,0,0 4,12,0,0 12,50,0,0 5,12,0,2 3,2,0,1");
        BackupPlanner first = new BackupPlanner();
        first.removeItem(0);
        first.setCapacity(1);
        that("each object on its own", all(new BackupPlanner()), all(planner(script)));
    }

    private static void newInputIsEmpty() {
        BackupPlanner p = new BackupPlanner();
        that("length", p.inputLength(), 0);
        Check.argument("no byte to cut off", () -> p.truncateInput(1));
        that("no script", p.runScript() + " " + p.scriptErrorKind() + " " + p.scriptErrorOffset(), "-1 1 0");
    }

    private static void nothingToUndo() {
        BackupPlanner p = new BackupPlanner();
        String before = all(p);
        that("count", p.undoCount(), 0);
        that("undo", p.undo(), -1);
        that("unchanged", all(p), before);
    }

    // ---- promise 2

    private static void append() {
        place("Promise 2: append");
        holds("Appends 20 bytes to the input buffer: the four bytes of each parameter", InputSentences::twentyBytes);
        holds("the most significant byte first", InputSentences::mostSignificantFirst);
        holds("Returns the new length of the buffer", InputSentences::newLength);
        holds("or NO_ROOM (and nothing is appended) if it would be greater than 500.", InputSentences::noRoomAbove500);
    }

    private static void twentyBytes() {
        BackupPlanner p = new BackupPlanner();
        // "disk", " 20;", "item", " 7 3", "0;  "
        p.append(0x6469736b, 0x2032303b, 0x6974656d, 0x20372033, 0x303b2020);
        that("20", p.inputLength(), 20);
        that("in the order of the parameters", p.runScript() + all(p), "120 0 0 0: 7,30,0,0");
        // "item" behind what was cut off: "disk 20;it" and "em 7 30;", in two calls.
        p.append(0x6469736b, 0x2032303b, 0x69742020, 0x20202020, 0x20202020);
        p.truncateInput(10);
        p.append(0x656d2037, 0x2033303b, 0x20202020, 0x20202020, 0x20202020);
        that("behind what is there", p.runScript() + all(p), "120 0 0 0: 7,30,0,0");
    }

    private static void mostSignificantFirst() {
        // "disk", " 1;" and then bytes with and without the highest bit.
        int[] third = {0x3fffffff, 0x20ffffff, 0x2020ffff, 0x202020ff, 0x20202020};
        for (int i = 0; i < third.length; i++) {
            BackupPlanner p = new BackupPlanner();
            p.append(0x6469736b, 0x20313b20, third[i], 0x20202020, 0x202020e1);
            p.runScript();
            that("wrong byte " + i, p.scriptErrorKind() + " at " + p.scriptErrorOffset(), "1 at " + (i == 4 ? 19 : 8 + i));
        }
        for (int bits : new int[] {Integer.MIN_VALUE, -1, Integer.MAX_VALUE, 0}) {
            BackupPlanner p = new BackupPlanner();
            p.append(0x6469736b, 0x20313b20, bits, bits, bits);
            p.runScript();
            that("bytes of " + bits, p.scriptErrorKind() + " at " + p.scriptErrorOffset(), "1 at 8");
        }
    }

    private static void newLength() {
        BackupPlanner p = new BackupPlanner();
        for (int i = 1; i <= 25; i++) {
            that("append " + i, p.append(-1, 0, 1, Integer.MIN_VALUE, Integer.MAX_VALUE), 20 * i);
        }
        p.truncateInput(1);
        that("behind 1", p.append(0, 0, 0, 0, 0), 21);
        p.truncateInput(0);
        that("behind 0", p.append(0, 0, 0, 0, 0), 20);
    }

    private static void noRoomAbove500() {
        for (int length = 475; length <= 485; length++) {
            BackupPlanner p = ofLength(length);
            boolean room = length <= 480;
            that("behind " + length, p.append(0x20202020, 0x20202020, 0x20202020, 0x20202020, 0x20202020), room ? length + 20 : -2);
            that("length behind " + length, p.inputLength(), room ? length + 20 : length);
        }
        BackupPlanner p = ofLength(500);
        that("behind 500", p.append(0x3f3f3f3f, 0x3f3f3f3f, 0x3f3f3f3f, 0x3f3f3f3f, 0x3f3f3f3f), -2);
        that("again", p.append(0x3f3f3f3f, 0x3f3f3f3f, 0x3f3f3f3f, 0x3f3f3f3f, 0x3f3f3f3f), -2);
        that("nothing is appended", p.runScript() + all(p), "09 0 0 0:");
        BackupPlanner q = ofLength(481);
        q.append(0x3f3f3f3f, 0x3f3f3f3f, 0x3f3f3f3f, 0x3f3f3f3f, 0x3f3f3f3f);
        that("not even the part that would fit", q.runScript() + all(q), "09 0 0 0:");
    }

    /** A planner with a right script of this length in its input buffer. */
    private static BackupPlanner ofLength(int length) {
        BackupPlanner p = new BackupPlanner();
        Check.feed(p, "disk 9;" + " ".repeat(length - 7));
        return p;
    }

    // ---- promise 3

    private static void truncateInput() {
        place("Promise 3: truncateInput");
        holds("Shortens the input buffer.", InputSentences::shortens);
        holds("- `length`: the new length", InputSentences::lengths);
        holds("Returns the new length.", InputSentences::returnsLength);
        holds("Throws `IllegalArgumentException` if `length` is negative", InputSentences::negativeLength);
        holds("or greater than the present length", InputSentences::greaterLength);
    }

    private static void shortens() {
        BackupPlanner p = new BackupPlanner();
        Check.feed(p, "disk 9;???");
        p.truncateInput(7);
        that("what is cut off is not executed", p.runScript(), 0);
        Check.feed(p, "disk 9;");
        p.truncateInput(0);
        that("to nothing", p.runScript() + " " + p.scriptErrorOffset(), "-1 0");
        Check.feed(p, "disk 19;");
        p.truncateInput(8);
        that("by nothing", p.runScript() + " " + p.capacity(), "0 19");
    }

    private static void lengths() {
        for (int length : new int[] {0, 1, 19, 20, 21, 499, 500}) {
            BackupPlanner p = ofLength(500);
            p.truncateInput(length);
            that("to " + length, p.inputLength(), length);
        }
    }

    private static void returnsLength() {
        BackupPlanner p = new BackupPlanner();
        that("0 of 0", p.truncateInput(0), 0);
        p.append(0, 0, 0, 0, 0);
        that("20 of 20", p.truncateInput(20), 20);
        that("19 of 20", p.truncateInput(19), 19);
        that("0 of 19", p.truncateInput(0), 0);
        that("500 of 500", ofLength(500).truncateInput(500), 500);
    }

    private static void negativeLength() {
        for (int length : new int[] {-1, -20, -500, Integer.MIN_VALUE}) {
            refused("length " + length, ARGUMENT, Check::worn, p -> p.truncateInput(length));
            refused("length " + length + " of nothing", ARGUMENT, BackupPlanner::new, p -> p.truncateInput(length));
        }
    }

    private static void greaterLength() {
        for (int length : new int[] {18, 20, 500, 501, Integer.MAX_VALUE}) {
            refused("length " + length + " of 17", ARGUMENT, Check::worn, p -> p.truncateInput(length));
        }
        refused("1 of 0", ARGUMENT, BackupPlanner::new, p -> p.truncateInput(1));
        refused("501 of 500", ARGUMENT, () -> ofLength(500), p -> p.truncateInput(501));
        BackupPlanner p = ofLength(20);
        p.truncateInput(7);
        Check.argument("not the length that was", () -> p.truncateInput(8));
        p.runScript();
        Check.argument("nor behind a script", () -> p.truncateInput(7));
    }

    // ---- promise 4

    private static void inputLength() {
        place("Promise 4: inputLength");
        holds("Returns the number of bytes in the input buffer.", InputSentences::numberOfBytes);
    }

    private static void numberOfBytes() {
        BackupPlanner p = new BackupPlanner();
        that("none", p.inputLength(), 0);
        p.append(0, 0, 0, 0, 0);
        that("20, though all are 0", p.inputLength(), 20);
        p.truncateInput(19);
        that("19", p.inputLength(), 19);
        Check.answer(() -> p.truncateInput(20));
        that("still 19", p.inputLength(), 19);
        p.runScript();
        that("none behind a script", p.inputLength(), 0);
        that("500", ofLength(500).inputLength(), 500);
        BackupPlanner full = ofLength(500);
        full.append(0, 0, 0, 0, 0);
        that("still 500", full.inputLength(), 500);
    }

    // ---- promise 5

    private static void runScript() {
        place("Promise 5: runScript");
        holds("Executes the input buffer as a script.", InputSentences::executesTheBuffer);
        holds("A script without an error replaces everything", InputSentences::replacesEverything);
        holds("all counters are 0 before its first command", InputSentences::countersFrom0);
        holds("The input buffer is empty afterwards in every case.", InputSentences::emptyAfterwards);
        holds("If the script has an error, only the input buffer and the script error change.", InputSentences::errorChangesNothingElse);
        holds("Returns the number of items", InputSentences::returnsItems);
        holds("or NONE if the script has an error", InputSentences::returnsNone);
    }

    private static void executesTheBuffer() {
        BackupPlanner p = new BackupPlanner();
        Check.run(p, "disk 9; item 1 2; item 3 4;");
        that("nothing is left of a longer one", Check.run(p, "disk 8;") + all(p), "08 0 0 0:");
        that("the end of a shorter one", Check.run(p, "disk 8;item 5 ") + " " + p.scriptErrorOffset(), "-1 14");
        that("an empty one", p.runScript() + " " + p.scriptErrorKind() + " at " + p.scriptErrorOffset(), "-1 1 at 0");
    }

    private static void replacesEverything() {
        BackupPlanner p = Check.worn();
        p.truncateInput(0);
        Check.run(p, "disk 9; item 1 2;");
        that("other items", all(p), "9 0 0 0: 1,2,0,0");
        Check.run(p, "disk 0;");
        that("no items", all(p), "0 0 0 0:");
        Check.run(p, "disk 100; repeat 14 (item 60 999;);");
        that("14 items", all(p), "100 0 0 0:" + " 60,999,0,0".repeat(14));
    }

    private static void countersFrom0() {
        BackupPlanner p = new BackupPlanner();
        p.runBackups(50);
        Check.run(p, "disk 9;");
        that("no backup", all(p), "9 0 0 0:");
        p.undo();
        Check.run(p, "disk 9; item 4 5; backup 2;");
        that("two backups", all(p), "9 2 8 10: 4,5,0,0");
        Check.run(p, "disk 9; item 4 5; backup 1;");
        that("not added up", all(p), "9 1 4 5: 4,5,0,0");
    }

    private static void emptyAfterwards() {
        BackupPlanner p = new BackupPlanner();
        for (String text : new String[] {"", "disk 9;", "?", "disk 9;?", "disk 101;", "disk 0; repeat 15 (item 1 1;);", "disk 0;" + " ".repeat(493)}) {
            Check.run(p, text);
            that("behind " + text.trim(), p.inputLength(), 0);
        }
    }

    private static void errorChangesNothingElse() {
        String much = "disk 1; item 1 1; pin 0; backup 3; keep; capacity 50; remove 0; ";
        error("kind 1", much + "?", 1, much.length());
        error("kind 2", much + "pin 0;", 2, much.length() + 4);
        error("kind 3", much + "item 60 1; pin 0; capacity 0; keep;", 3, much.length() + 34);
        error("kind 4", much + "repeat 1 (repeat 1 (item 1 1; repeat", 4, much.length() + 30);
        error("kind 5", much + "repeat 5 (repeat 20 (backup 1;););", 5, much.length() + 21);
        error("at the end of the text", much + "backup 50", 1, much.length() + 9);
    }

    private static void returnsItems() {
        BackupPlanner p = new BackupPlanner();
        that("0", Check.run(p, "disk 9;"), 0);
        that("1", Check.run(p, "disk 9; item 1 1;"), 1);
        that("14", Check.run(p, "disk 9; repeat 14 (item 1 1;);"), 14);
        that("those that are left", Check.run(p, "disk 9; repeat 14 (item 1 1;); repeat 14 (remove 0;);"), 0);
    }

    private static void returnsNone() {
        BackupPlanner p = new BackupPlanner();
        that("kind 1", Check.run(p, "disk 9; item 1 1"), -1);
        that("kind 2", Check.run(p, "disk 9; item 1 1000;"), -1);
        that("kind 3", Check.run(p, "disk 9; repeat 15 (item 1 1;);"), -1);
        that("kind 4", Check.run(p, "disk 9; repeat 1 (repeat 1 (repeat 1 (););););"), -1);
        that("kind 5", Check.run(p, "disk 9; repeat 6 (repeat 20 (keep;););"), -1);
        that("no text", p.runScript(), -1);
        that("no error again", Check.run(p, "disk 9;"), 0);
    }

    // ---- promises 21 and 22

    private static final String[] WRONG = {"disk 9", "disk 101;", "disk 0; item 1 1; pin 0; keep;",
        "disk 9; repeat 1 (repeat 1 (repeat 1 (););););", "disk 9; repeat 6 (repeat 20 (keep;););"};

    private static void scriptErrorKind() {
        place("Promise 21: scriptErrorKind");
        holds("Returns the kind (1 to 5) of the error of the latest script", InputSentences::kinds);
        holds("or 0 if it had no error", InputSentences::kind0);
        holds("or no script was run", InputSentences::kind0AtFirst);
    }

    private static void kinds() {
        BackupPlanner p = new BackupPlanner();
        for (int kind = 1; kind <= 5; kind++) {
            Check.run(p, WRONG[kind - 1]);
            that("kind " + kind, p.scriptErrorKind(), kind);
        }
        for (int kind = 5; kind >= 1; kind--) {
            Check.run(p, WRONG[kind - 1]);
            that("kind " + kind + " behind a greater one", p.scriptErrorKind(), kind);
        }
        p.runBackup();
        p.undo();
        p.append(1, 2, 3, 4, 5);
        that("stays", p.scriptErrorKind(), 1);
    }

    private static void kind0() {
        BackupPlanner p = new BackupPlanner();
        for (String wrong : WRONG) {
            Check.run(p, wrong);
            Check.run(p, "disk 9;");
            that("behind an error", p.scriptErrorKind(), 0);
        }
        p.undo();
        that("also if the script is undone", p.scriptErrorKind(), 0);
    }

    private static void kind0AtFirst() {
        BackupPlanner p = new BackupPlanner();
        that("at first", p.scriptErrorKind(), 0);
        Check.feed(p, "?");
        that("not yet run", p.scriptErrorKind(), 0);
        p.truncateInput(0);
        Check.answer(() -> p.pin(9));
        p.runBackup();
        that("other calls are no scripts", p.scriptErrorKind(), 0);
    }

    private static void scriptErrorOffset() {
        place("Promise 22: scriptErrorOffset");
        holds("Returns the offset of the error of the latest script", InputSentences::offsets);
        holds("or NONE if scriptErrorKind() is 0", InputSentences::noOffset);
    }

    private static void offsets() {
        BackupPlanner p = new BackupPlanner();
        int[] want = {6, 5, 29, 28, 29};
        for (int i = 0; i < 5; i++) {
            Check.run(p, WRONG[i]);
            that("kind " + (i + 1), p.scriptErrorOffset(), want[i]);
        }
        Check.run(p, "?");
        that("least", p.scriptErrorOffset(), 0);
        Check.run(p, "disk 1" + " ".repeat(494));
        that("greatest", p.scriptErrorOffset(), 500);
        p.runScript();
        that("of no text", p.scriptErrorOffset(), 0);
        p.runBackup();
        p.undo();
        that("stays", p.scriptErrorOffset(), 0);
    }

    private static void noOffset() {
        BackupPlanner p = new BackupPlanner();
        that("no script", p.scriptErrorOffset(), -1);
        Check.run(p, "disk 101;");
        Check.run(p, "disk 100;");
        that("no error behind an error", p.scriptErrorOffset(), -1);
        p.undo();
        that("undone", p.scriptErrorOffset(), -1);
    }

    private InputSentences() {
    }
}
