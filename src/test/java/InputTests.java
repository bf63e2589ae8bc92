/** Promises 1 to 5, 21 and 22: a new object, the input buffer and scripts. */
final class InputTests {
    static void all() {
        newObject();
        append();
        truncateInput();
        inputLength();
        runScript();
        commands();
        scriptError();
        tokens();
        wrongNumbers();
        impossible();
        deepRepeats();
        manyCommands();
        orderOfErrors();
    }

    private static void newObject() {
        BackupPlanner p = new BackupPlanner();
        Check.that("1 all", Check.everything(p),
                "20 0 0 0: 7,30,0,0 9,42,0,0 4,12,0,0 12,50,0,0 5,12,0,2 3,2,0,1");
        Check.that("1 input", p.inputLength(), 0);
        Check.that("1 undoCount", p.undoCount(), 0);
        Check.that("1 undo", p.undo(), -1);
        Check.that("1 kind", p.scriptErrorKind(), 0);
        Check.that("1 offset", p.scriptErrorOffset(), -1);
        Check.that("1 report", p.reportByte(0), -1);
        BackupPlanner other = Check.planner("disk 20; item 7 30; item 9 42; item 4 12; item 12 50; item 5 12; item 3 2; pin 5; exclude 4;");
        Check.that("1 as by the script", Check.everything(p), Check.everything(other));
    }

    private static void append() {
        BackupPlanner p = new BackupPlanner();
        for (int i = 1; i <= 25; i++) {
            Check.that("2 append " + i, p.append(i, -i, 0, Integer.MIN_VALUE, Integer.MAX_VALUE), 20 * i);
        }
        Check.that("2 full", p.append(1, 2, 3, 4, 5), -2);
        Check.that("2 full length", p.inputLength(), 500);
        p.truncateInput(481);
        Check.that("2 501", p.append(1, 2, 3, 4, 5), -2);
        Check.that("2 501 length", p.inputLength(), 481);
        p.truncateInput(480);
        Check.that("2 500", p.append(1, 2, 3, 4, 5), 500);
        p.truncateInput(0);
        // "disk", " 7;i", "tem ", "60 0", ";   ": the most significant byte is the first.
        Check.that("2 order", p.append(0x6469736b, 0x20373b69, 0x74656d20, 0x36302030, 0x3b202020), 20);
        Check.that("2 run", p.runScript(), 1);
        Check.that("2 all", Check.everything(p), "7 0 0 0: 60,0,0,0");
        Check.that("2 no change", p.undoCount(), 1);
    }

    private static void truncateInput() {
        BackupPlanner p = new BackupPlanner();
        Check.argument("3 empty 1", () -> p.truncateInput(1));
        Check.that("3 empty 0", p.truncateInput(0), 0);
        p.append(0, 0, 0, 0, 0);
        Check.argument("3 negative", () -> p.truncateInput(-1));
        Check.argument("3 smallest", () -> p.truncateInput(Integer.MIN_VALUE));
        Check.argument("3 greatest", () -> p.truncateInput(Integer.MAX_VALUE));
        Check.argument("3 longer", () -> p.truncateInput(21));
        Check.that("3 unchanged", p.inputLength(), 20);
        Check.that("3 same", p.truncateInput(20), 20);
        Check.that("3 shorter", p.truncateInput(7), 7);
        Check.argument("3 present length", () -> p.truncateInput(8));
        Check.that("3 length", p.inputLength(), 7);
        Check.that("3 append behind", p.append(0, 0, 0, 0, 0), 27);
    }

    private static void inputLength() {
        BackupPlanner p = new BackupPlanner();
        p.append(1, 1, 1, 1, 1);
        Check.that("4 one", p.inputLength(), 20);
        p.runScript();
        Check.that("4 behind a wrong script", p.inputLength(), 0);
        Check.feed(p, "disk 1;");
        Check.that("4 fed", p.inputLength(), 7);
        p.runScript();
        Check.that("4 behind a right script", p.inputLength(), 0);
    }

    private static void runScript() {
        BackupPlanner p = new BackupPlanner();
        p.writeRow(0);
        p.runBackup();
        p.runBackup();
        String before = Check.everything(p);
        Check.that("5 error", Check.run(p, "disk 50; item 1 1; backup 3; item 1;"), -1);
        Check.that("5 error changes nothing", Check.everything(p), before);
        Check.that("5 error cannot be undone", p.undoCount(), 2);
        Check.that("5 good", Check.run(p, "disk 50; item 1 1; backup 3;"), 1);
        Check.that("5 replaces everything", Check.everything(p), "50 3 3 3: 1,1,0,0");
        Check.that("5 is a change", p.undoCount(), 3);
        Check.that("5 keeps the report", Check.report(p), "0:0");
        p.undo();
        Check.that("5 undone", Check.everything(p), before);
        Check.that("5 only a disk", Check.run(p, "disk 0;"), 0);
        Check.that("5 nothing left", Check.everything(p), "0 0 0 0:");
        Check.that("5 empty text", p.runScript(), -1);
        Check.that("5 empty text's kind", p.scriptErrorKind(), 1);
    }

    private static void commands() {
        is("5 item", "disk 9;item 1 0;item 60 999;", "9 0 0 0: 1,0,0,0 60,999,0,0");
        is("5 pin", "disk 9;item 1 1;item 2 2;pin 1;", "9 0 0 0: 1,1,0,0 2,2,0,1");
        is("5 exclude", "disk 9;item 1 1;item 2 2;exclude 0;", "9 0 0 0: 1,1,0,2 2,2,0,0");
        is("5 release", "disk 9;item 1 1;pin 0;release 0;", "9 0 0 0: 1,1,0,0");
        is("5 remove", "disk 9;item 1 1;item 2 2;exclude 1;item 3 3;remove 0;", "9 0 0 0: 2,2,0,2 3,3,0,0");
        is("5 capacity", "disk 9;capacity 100;", "100 0 0 0:");
        is("5 backup", "disk 2;item 2 5;item 2 4;backup 3;", "2 3 6 23: 2,5,0,0 2,4,1,0");
        is("5 size", "disk 9;item 1 1;size 0 60;", "9 0 0 0: 60,1,0,0");
        is("5 value", "disk 9;item 1 1;value 0 999;", "9 0 0 0: 1,999,0,0");
        is("5 keep", "disk 3;item 3 5;item 1 1;item 2 5;keep;", "3 0 0 0: 3,5,0,0 1,1,0,1 2,5,0,1");
        is("5 keep without items", "disk 0;keep;", "0 0 0 0:");
        is("5 repeat", "disk 3;repeat 4(item 1 2;);item 9 9;", "3 0 0 0: 1,2,0,0 1,2,0,0 1,2,0,0 1,2,0,0 9,9,0,0");
        is("5 nested", "disk 3;repeat 2(item 1 1;repeat 3(item 2 2;);item 3 3;);",
                "3 0 0 0: 1,1,0,0 2,2,0,0 2,2,0,0 2,2,0,0 3,3,0,0 1,1,0,0 2,2,0,0 2,2,0,0 2,2,0,0 3,3,0,0");
        is("5 empty repeat", "disk 3;repeat 20(repeat 20(););repeat 1();", "3 0 0 0:");
        is("5 two repeats in one", "disk 3;repeat 1(repeat 1(item 1 1;);repeat 1(item 2 2;););", "3 0 0 0: 1,1,0,0 2,2,0,0");
        is("5 executed in order", "disk 1;item 2 3;backup 1;capacity 2;backup 1;size 0 1;backup 1;", "2 3 3 9: 1,3,0,0");
    }

    private static void is(String what, String script, String want) {
        Check.that(what, Check.everything(Check.planner(script)), want);
    }

    private static void scriptError() {
        BackupPlanner p = new BackupPlanner();
        Check.run(p, "disk 101;");
        Check.that("21 kind", p.scriptErrorKind(), 2);
        Check.that("22 offset", p.scriptErrorOffset(), 5);
        p.append(1, 2, 3, 4, 5);
        p.undo();
        p.runBackup();
        p.undo();
        p.saveSnapshot();
        p.restoreSnapshot();
        Check.that("21 stays", p.scriptErrorKind(), 2);
        Check.that("22 stays", p.scriptErrorOffset(), 5);
        p.truncateInput(0);
        Check.run(p, "disk 100;");
        Check.that("21 no error", p.scriptErrorKind(), 0);
        Check.that("22 no error", p.scriptErrorOffset(), -1);
        Check.run(p, "?");
        Check.that("22 offset 0", p.scriptErrorOffset(), 0);
        p.undo();
        Check.that("21 not undone", p.scriptErrorKind(), 1);
    }

    private static void tokens() {
        error("21 empty", "", 1, 0);
        error("21 only spaces", "  \n ", 1, 4);
        error("21 end in disk", "disk", 1, 4);
        error("21 end behind the number", "disk 5 ", 1, 7);
        error("21 end in a command", "disk 5; item 3", 1, 14);
        error("21 end before the semicolon", "disk 5; item 3 4\n\n", 1, 18);
        error("21 end in a repeat", "disk 5; repeat 2 (", 1, 18);
        error("21 end behind a command of a repeat", "disk 5; repeat 2 (item 1 1; ", 1, 28);
        error("21 end behind a repeat", "disk 5; repeat 2 (item 1 1;)", 1, 28);
        error("21 no disk", "item 1 1;", 1, 0);
        error("21 second disk", "disk 1; disk 2;", 1, 8);
        error("21 longer word", "disks 1;", 1, 0);
        error("21 other first letter", "risk 1;", 1, 0);
        error("21 other first letter of a command", "disk 1; item 1 1; tin 0;", 1, 18);
        error("21 other last letter of a command", "disk 1; item 1 1; pit 0;", 1, 18);
        error("21 shorter word", "dis 1;", 1, 0);
        error("21 unknown word", "disk 1; items 1 1;", 1, 8);
        error("21 word begins alike", "disk 1; ite 1 1;", 1, 8);
        error("21 great letter", "Disk 1;", 1, 0);
        error("21 lone semicolon", "disk 1;;", 1, 7);
        error("21 number as a command", "disk 1; 5;", 1, 8);
        error("21 five digits", "disk 00001;", 1, 5);
        error("21 five digits in place of a word", "disk 1; 12345", 1, 8);
        error("21 run of digits and no number", "disk 1; item 1 1; pin 99999;", 1, 22);
        error("21 wrong sign", "disk 1; item 1 -1;", 1, 15);
        error("21 tab", "disk\t1;", 1, 4);
        error("21 carriage return", "disk 1;\r", 1, 7);
        error("21 sign behind z", "disk 1;{", 1, 7);
        error("21 sign before a", "disk 1;`", 1, 7);
        error("21 sign behind 9", "disk :;", 1, 5);
        error("21 sign before 0", "disk /;", 1, 5);
        error("21 byte 0", "disk 1;\0", 1, 7);
        error("21 byte 1", "disk 1;\1", 1, 7);
        error("21 byte 2 for a number", "disk \2;", 1, 5);
        error("21 byte 255", "disk 1;\u00ff", 1, 7);
        error("21 byte 225 is no letter", "disk 1;\u00e1", 1, 7);
        error("21 closed too often", "disk 1; repeat 1(););)", 1, 19);
        error("21 parenthesis outside", "disk 1; );", 1, 8);
        error("21 no parenthesis", "disk 1; repeat 1 item 1 1;", 1, 17);
        error("21 no semicolon behind a repeat", "disk 1; repeat 2 (item 1 1;) item 1 1;", 1, 29);
        error("21 no number behind repeat", "disk 1; repeat (item 1 1;);", 1, 15);
        error("21 number too many", "disk 1; item 1 1 1;", 1, 17);
        error("21 number too few", "disk 1; item 1;", 1, 14);
        error("21 keep and a number", "disk 1; keep 1;", 1, 13);
        error("21 parenthesis before a semicolon", "disk 1; repeat 1 (item 1 1);", 1, 26);
        is("5 no separators", "disk20;item7 30;repeat2(pin0;);", "20 0 0 0: 7,30,0,1");
        is("5 separators", "\n disk \n 20 ; \n item\n7\n30 ; repeat 2 ( \n pin 0 ; ) ; \n", "20 0 0 0: 7,30,0,1");
        is("5 leading zeros", "disk 0020;item 007 0000;pin 000;", "20 0 0 0: 7,0,0,1");
        StringBuilder full = new StringBuilder("disk 1;");
        while (full.length() < 491) {
            full.append(' ');
        }
        is("5 500 bytes", full.append("item 9 9;").toString(), "1 0 0 0: 9,9,0,0");
    }

    private static void error(String what, String script, int kind, int offset) {
        BackupPlanner p = new BackupPlanner();
        String before = Check.everything(p);
        Check.that(what + ": answer", Check.run(p, script), -1);
        Check.that(what + ": kind", p.scriptErrorKind(), kind);
        Check.that(what + ": offset", p.scriptErrorOffset(), offset);
        Check.that(what + ": unchanged", Check.everything(p), before);
        Check.that(what + ": not undone", p.undoCount(), 0);
        Check.that(what + ": input", p.inputLength(), 0);
    }

    private static void wrongNumbers() {
        error("21 capacity of the disk", "disk 101;", 2, 5);
        error("21 item size 0", "disk 1; item 0 1;", 2, 13);
        error("21 item size 61", "disk 1; item 61 1;", 2, 13);
        error("21 item value", "disk 1; item 60 1000;", 2, 16);
        error("21 pin", "disk 1; item 1 1; pin 1;", 2, 22);
        error("21 pin of none", "disk 1; pin 0;", 2, 12);
        error("21 exclude", "disk 1; item 1 1; exclude 1;", 2, 26);
        error("21 release", "disk 1; item 1 1; release 9999;", 2, 26);
        error("21 remove", "disk 1; item 1 1; remove 0; remove 0;", 2, 35);
        error("21 capacity", "disk 1; capacity 101;", 2, 17);
        error("21 backup 0", "disk 1; backup 0;", 2, 15);
        error("21 backup 51", "disk 1; backup 51;", 2, 15);
        error("21 size of none", "disk 1; size 0 1;", 2, 13);
        error("21 size 61", "disk 1; item 1 1; size 0 61;", 2, 25);
        error("21 size 0", "disk 1; item 1 1; size 0 0;", 2, 25);
        error("21 value of none", "disk 1; value 0 1;", 2, 14);
        error("21 value 1000", "disk 1; item 1 1; value 0 1000;", 2, 26);
        error("21 repeat 0", "disk 1; repeat 0 ();", 2, 15);
        error("21 repeat 21", "disk 1; repeat 21 ();", 2, 15);
        is("5 greatest numbers", "disk 100; item 60 999; backup 50; repeat 20 (); value 0 0;", "100 50 3000 49950: 60,0,0,0");
    }

    private static void impossible() {
        is("5 14 items", "disk 1; repeat 14 (item 1 1;); remove 3;", Check.everything(Check.planner("disk 1; repeat 13(item 1 1;);")));
        error("21 15th item", "disk 1; repeat 15 (item 1 1 ;);", 3, 28);
        error("21 15th item behind others", "disk 1; repeat 14 (item 1 1;); item 1 1 ;", 3, 40);
        error("21 keep", "disk 1; item 2 1; pin 0; keep ;", 3, 30);
        error("21 15th item of a wrong size", "disk 1; repeat 14 (item 1 1;); item 61 1;", 2, 36);
        error("21 15th item without a semicolon", "disk 1; repeat 14 (item 1 1;); item 1 1)", 1, 39);
        is("5 a plan again", "disk 1; item 2 1; pin 0; capacity 2; keep;", "2 0 0 0: 2,1,0,1");
    }

    private static void deepRepeats() {
        error("21 third repeat", "disk 1; repeat 1 (repeat 1 (repeat 1 (););); ", 4, 28);
        error("21 third repeat in a later place", "disk 1; repeat 1(item 1 1;repeat 2(pin 0; repeat x", 4, 42);
        is("5 repeats one after the other", "disk 1; repeat 1(repeat 1();repeat 1();); repeat 1(repeat 1(););", "1 0 0 0:");
    }

    private static void manyCommands() {
        is("5 100 commands", "disk 1; item 1 1; repeat 9 (repeat 11 (pin 0;););", "1 0 0 0: 1,1,0,1");
        error("21 101st command", "disk 1; item 1 1; repeat 9 (repeat 11 (pin 0;);); release 0;", 5, 50);
        error("21 101st command in a repetition", "disk 1; repeat 6(repeat 17(backup 1;););", 5, 27);
        error("21 unknown 101st word", "disk 1; item 1 1; repeat 9 (repeat 11 (pin 0;);); releases 0;", 1, 50);
        is("5 repeat behind 100 commands", "disk 1; item 1 1; repeat 9 (repeat 11 (pin 0;);); repeat 5();", "1 0 0 0: 1,1,0,1");
        error("21 third repeat behind 100 commands", "disk 1; repeat 5(repeat 20(backup 1;);); repeat 1(repeat 1(repeat 1();););", 4, 59);
        error("21 command in a repeat behind 100", "disk 1; repeat 5(repeat 20(backup 1;);); repeat 1 (keep;);", 5, 51);
        is("5 backup 50 is one command", "disk 1; repeat 5 (repeat 20 (backup 50;););", "1 5000 0 0:");
    }

    private static void orderOfErrors() {
        error("21 number before a later token", "disk 1; item 99 x;", 2, 13);
        error("21 error in a later repetition", "disk 1; item 1 1; item 1 1; repeat 3 (remove 1;) x", 2, 45);
        error("21 later commands are not read", "disk 1; pin 0; ???", 2, 12);
        error("21 repetition before what stands behind it", "disk 1; repeat 20 (item 1 1;) ?", 3, 27);
        error("21 behind all repetitions", "disk 1; repeat 14 (item 1 1;) ?", 1, 30);
    }

    private InputTests() {
    }
}
