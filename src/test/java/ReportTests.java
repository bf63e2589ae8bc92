/** Promises 57 to 65: counters, ratios, checks and reports. */
final class ReportTests {
    static void all() {
        counters();
        fill();
        greedyShare();
        violations();
        writeItems();
        writeRow();
        reportByte();
    }

    private static void counters() {
        BackupPlanner p = new BackupPlanner();
        Check.that("57-59 new", p.backupCount() + p.backedUpSize() + p.backedUpWeight(), 0);
        p.runBackup();
        Check.that("57 one", p.backupCount(), 1);
        Check.that("58 one", p.backedUpSize(), 19);
        Check.that("59 one", p.backedUpWeight(), 74);
        p.runBackups(2);
        Check.that("57 three", p.backupCount(), 3);
        Check.that("58 three", p.backedUpSize(), 57);
        Check.that("59 weights as they were then", p.backedUpWeight(), 74 + 126 + 146);
        p.setCapacity(0);
        p.runBackups(50);
        Check.that("57 without a plan", p.backupCount(), 53);
        Check.that("58 without a plan", p.backedUpSize(), 57);
        Check.that("59 without a plan", p.backedUpWeight(), 346);
        p.removeItem(0);
        p.setSize(0, 1);
        Check.that("58 stays", p.backedUpSize(), 57);
        p.undo();
        p.undo();
        p.undo();
        Check.that("57 undone", p.backupCount(), 3);
        Check.run(p, "disk 4; item 2 3; backup 2;");
        Check.that("57 script", p.backupCount(), 2);
        Check.that("58 script", p.backedUpSize(), 4);
        Check.that("59 script", p.backedUpWeight(), 6);
    }

    private static void fill() {
        BackupPlanner p = new BackupPlanner();
        Check.that("60 new", p.fill(), 19.0 / 20.0);
        p.setCapacity(23);
        Check.that("60 another", p.fill(), (double) p.bestSize() / 23.0);
        p.setCapacity(2);
        Check.that("60 no plan", p.fill(), 0.0);
        Check.that("60 capacity 0", Check.planner("disk 0; item 1 1;").fill(), 0.0);
        Check.that("60 nothing taken", Check.planner("disk 5;").fill(), 0.0);
        Check.that("60 full", Check.planner("disk 5; item 5 1;").fill(), 1.0);
        Check.that("60 third", Check.planner("disk 3; item 1 1;").fill(), 1.0 / 3.0);
    }

    private static void greedyShare() {
        BackupPlanner p = new BackupPlanner();
        Check.that("61 new", p.greedyShare(), 1.0f);
        p.setCapacity(2);
        Check.that("61 no plan", p.greedyShare(), 1.0f);
        Check.that("61 not best", Check.planner("disk 10; item 6 60; item 5 45; item 5 45;").greedyShare(), 60.0f / 90.0f);
        Check.that("61 best is 0", Check.planner("disk 10; item 6 0;").greedyShare(), 1.0f);
        Check.that("61 greedy is 0", Check.planner("disk 0; item 6 60;").greedyShare(), 1.0f);
        Check.that("61 seventh", Check.planner("disk 7; item 1 2; item 7 7;").greedyShare(), 2.0f / 7.0f);
    }

    private static void violations() {
        BackupPlanner p = new BackupPlanner();
        for (int capacity = 0; capacity <= 100; capacity++) {
            p.setCapacity(capacity);
            Check.that("62 capacity " + capacity, p.violations(), 0);
            p.runBackup();
        }
        Check.that("62 no items", Check.planner("disk 0;").violations(), 0);
        Check.that("62 not greedy", Check.planner("disk 10; item 6 60; item 5 45; item 5 45;").violations(), 0);
    }

    private static void writeItems() {
        BackupPlanner p = new BackupPlanner();
        items("63 new", p, "7:30* 9:42* 4:12 12:50 5:12- 3:2!*");
        p.runBackup();
        items("63 ages", p, "7:30 9:42 4:24* 12:100* 5:24- 3:2!*");
        p.setCapacity(2);
        items("63 no plan", p, "7:30 9:42 4:24 12:100 5:24- 3:2!");
        items("63 no items", Check.planner("disk 1;"), "");
        items("63 one", Check.planner("disk 1; item 60 0;"), "60:0");
        BackupPlanner greatest = Check.planner("disk 0; repeat 14 (item 60 999;); backup 50; capacity 60;");
        items("63 greatest", greatest, "60:9990*" + " 60:9990".repeat(13));
    }

    private static void items(String what, BackupPlanner p, String want) {
        Check.that(what + ": length", p.writeItems(), want.length());
        Check.that(what, Check.report(p), want);
    }

    private static void row(String what, BackupPlanner p, int row, String want) {
        Check.that(what + ": length", p.writeRow(row), want.length());
        Check.that(what, Check.report(p), want);
    }

    private static void writeRow() {
        BackupPlanner p = new BackupPlanner();
        row("64 row 0", p, 0, "0:0");
        row("64 row 1", p, 1, "0:0 7:30");
        row("64 row 2", p, 2, "0:0 7:30 9:42 16:72");
        row("64 row 4", p, 4, "0:0 4:12 7:30 9:42 12:50 13:54 16:72 19:80 20:84 21:92 25:104 28:122 32:134");
        for (int row : new int[] {-1, 5, 15, Integer.MIN_VALUE, Integer.MAX_VALUE}) {
            Check.index("64 row " + row, () -> p.writeRow(row));
        }
        Check.that("64 a wrong row keeps the report", Check.report(p).length(), 75);
        p.setCapacity(1);
        row("64 without a plan", p, 1, "0:0 7:30");
        row("64 no items", Check.planner("disk 5;"), 0, "0:0");
        row("64 column 100", Check.planner("disk 5; item 60 1; item 40 1;"), 2, "0:0 40:1 100:2");
    }

    private static void reportByte() {
        BackupPlanner p = new BackupPlanner();
        Check.that("65 nothing written", p.reportByte(0), -1);
        Check.that("65 nothing written, negative", p.reportByte(-1), -1);
        p.writeRow(1);
        Check.that("65 first", p.reportByte(0), (int) '0');
        Check.that("65 space", p.reportByte(3), 32);
        Check.that("65 last", p.reportByte(7), (int) '0');
        Check.that("65 behind", p.reportByte(8), -1);
        Check.that("65 negative", p.reportByte(-1), -1);
        Check.that("65 smallest", p.reportByte(Integer.MIN_VALUE), -1);
        Check.that("65 greatest", p.reportByte(Integer.MAX_VALUE), -1);
        p.writeItems();
        p.writeRow(0);
        Check.that("65 in place of the previous one", p.reportByte(3), -1);
        p.runBackup();
        p.undo();
        Check.that("65 not undone", Check.report(p), "0:0");
    }

    private ReportTests() {
    }
}
