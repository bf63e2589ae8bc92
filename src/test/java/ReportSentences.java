/** The sentences of the promises 57 to 65 and of the 512 calls: counters, ratios, checks and reports. */
final class ReportSentences extends Sentences {
    static void all() {
        calls();
        counters();
        fill();
        greedyShare();
        violations();
        writeItems();
        writeRow();
        reportByte();
    }

    // ---- the 512 calls

    private static void calls() {
        place("What it is");
        holds("An object is used for at most 512 calls after it has been made", ReportSentences::upTo512Calls);
    }

    private static void upTo512Calls() {
        BackupPlanner backups = new BackupPlanner();
        BackupPlanner changes = new BackupPlanner();
        BackupPlanner undone = new BackupPlanner();
        BackupPlanner refusals = new BackupPlanner();
        for (int call = 1; call <= 511; call++) {
            int number = call;
            backups.runBackups(50);
            changes.setCapacity(call % 101);
            that("refusal " + call, Check.answer(() -> refusals.pin(5 + number)), INDEX);
            that("undo " + call, call % 2 == 1 ? undone.setCapacity(call % 101) : undone.undo(), call % 2 == 1 ? 20 : 0);
        }
        that("behind 511 times 50 backups", backups.backupCount(), 25550);
        that("behind 511 changes", changes.undo(), 9);
        that("behind 511 changes and undos", undone.undo(), 0);
        that("behind 511 refusals", refusals.pin(5), 1);
    }

    // ---- promises 57 to 59

    private static void counters() {
        place("Promise 57: backupCount");
        holds("Returns the number of backups that were run.", ReportSentences::backupCount);
        place("Promise 58: backedUpSize");
        holds("Returns the sum of the sizes of all items that were taken in backups.", ReportSentences::backedUpSize);
        place("Promise 59: backedUpWeight");
        holds("Returns the sum of the weights of all items that were taken in backups", ReportSentences::backedUpWeight);
        holds("as they were then", ReportSentences::asTheyWereThen);
    }

    private static void backupCount() {
        BackupPlanner p = new BackupPlanner();
        that("none", p.backupCount(), 0);
        p.runBackup();
        that("1", p.backupCount(), 1);
        p.runBackups(50);
        that("51", p.backupCount(), 51);
        Check.answer(() -> p.runBackups(51));
        p.takenInBackup(50);
        p.backupsUntil(0);
        p.neglected(50);
        that("not those that would be", p.backupCount(), 51);
        p.setCapacity(0);
        p.runBackup();
        that("without a plan too", p.backupCount(), 52);
        p.undo();
        that("undone", p.backupCount(), 51);
        that("in scripts", planner("disk 0; repeat 5 (repeat 20 (backup 50;););").backupCount(), 5000);
        that("without items", empty().backupCount() + empty().runBackup(), 0);
    }

    private static void backedUpSize() {
        BackupPlanner p = new BackupPlanner();
        that("none", p.backedUpSize(), 0);
        p.runBackup();
        that("19", p.backedUpSize(), 19);
        p.setSize(0, 60);
        p.removeItem(1);
        that("as they were then", p.backedUpSize(), 19);
        p.setCapacity(2);
        p.runBackups(50);
        that("nothing without a plan", p.backedUpSize(), 19);
        that("greatest of a script", planner("disk 98; repeat 14 (item 7 999;); repeat 4 (repeat 20 (backup 50;););").backedUpSize(), 98 * 4000);
        that("an empty plan", planner("disk 0; item 1 1; backup 50;").backedUpSize(), 0);
    }

    private static void backedUpWeight() {
        BackupPlanner p = new BackupPlanner();
        that("none", p.backedUpWeight(), 0);
        p.runBackup();
        that("74", p.backedUpWeight(), 74);
        p.setCapacity(2);
        p.runBackups(50);
        that("nothing without a plan", p.backedUpWeight(), 74);
        BackupPlanner much = planner("disk 98; repeat 14 (item 7 999;); repeat 4 (repeat 20 (backup 50;););");
        that("greatest of a script", much.backedUpWeight(), 13986 * 4000);
        for (int i = 0; i < 400; i++) {
            much.runBackups(50);
        }
        that("no wrap-around", much.backedUpWeight(), 13986 * 24000);
        that("nor of the others", much.backedUpSize() + " " + much.backupCount(), 98 * 24000 + " " + 24000);
    }

    private static void asTheyWereThen() {
        BackupPlanner p = planner("disk 0; item 5 999; backup 9; capacity 5; backup 1;");
        that("with the age before the backup", p.backedUpWeight(), 9990);
        p.setValue(0, 1);
        that("with the value of then", p.backedUpWeight(), 9990);
        p.removeItem(0);
        that("though removed", p.backedUpWeight(), 9990);
    }

    // ---- promises 60 and 61

    private static void fill() {
        place("Promise 60: fill");
        holds("Returns the size of the best plan divided by the capacity, both converted to double", ReportSentences::fillRatio);
        holds("0.0 if there is no plan", () -> PlanSentences.noneWithoutPlan(p -> p.fill(), 0.0));
        holds("or the capacity is 0.", ReportSentences::fillOfCapacity0);
    }

    private static void fillRatio() {
        PlanSentences.answers(p -> p.fill(), 0.95, 0.0, 0.0, 1.0, 1.0);
        that("a third, as a double", planner("disk 3; item 1 1;").fill(), 1.0 / 3.0);
        that("a hundredth", planner("disk 100; item 1 1;").fill(), 0.01);
        that("empty plan", planner("disk 100; item 1 0;").fill(), 0.0);
    }

    private static void fillOfCapacity0() {
        that("no items", empty().fill(), 0.0);
        that("free items", planner("disk 0; item 1 1;").fill(), 0.0);
        that("pinned items", planner("disk 0; item 1 1; pin 0;").fill(), 0.0);
        that("capacity 1", planner("disk 1; item 1 1;").fill(), 1.0);
    }

    private static void greedyShare() {
        place("Promise 61: greedyShare");
        holds("Returns the weight of the greedy plan divided by the weight of the best plan, both converted to float", ReportSentences::shareRatio);
        holds("1.0f if there is no plan", ReportSentences::shareWithoutPlan);
        holds("or the latter is 0.", ReportSentences::shareOf0);
    }

    private static void shareRatio() {
        PlanSentences.answers(p -> p.greedyShare(), 1.0f, 1.0f, 1.0f, 1.0f, 1.0f);
        that("two thirds, as a float", WhatIfSentences.notBest().greedyShare(), 60.0f / 90.0f);
        that("two sevenths", planner("disk 7; item 1 2; item 7 7;").greedyShare(), 2.0f / 7.0f);
        // The densest weighs 17, the best 60 * 16 = 960: the share is small, but not 0.
        that("small", planner("disk 60; item 1 17; item 60 960;").greedyShare(), 17.0f / 960.0f);
    }

    private static void shareWithoutPlan() {
        BackupPlanner p = planner("disk 9; item 1 2; item 9 9; item 1 0; pin 2;");
        p.setSize(2, 10);
        that("1 too great", p.greedyShare(), 1.0f);
        that("others", withoutPlan().greedyShare(), 1.0f);
        p.release(2);
        that("a plan again", p.greedyShare(), 2.0f / 9.0f);
    }

    private static void shareOf0() {
        that("no items", empty().greedyShare(), 1.0f);
        that("items without weight", planner("disk 9; item 1 0; item 2 0; pin 0;").greedyShare(), 1.0f);
        that("nothing fits", planner("disk 0; item 1 999;").greedyShare(), 1.0f);
        that("a weight of 1", planner("disk 1; item 1 1;").greedyShare(), 1.0f);
    }

    // ---- promise 62

    private static void violations() {
        place("Promise 62: violations");
        holds("it is always 0", ReportSentences::always0);
    }

    private static void always0() {
        that("no items", empty().violations(), 0);
        that("no plan", withoutPlan().violations(), 0);
        that("14 items", full().violations(), 0);
        that("greedy is not best", WhatIfSentences.notBest().violations(), 0);
        that("nothing fits", planner("disk 0; item 1 999;").violations(), 0);
        that("pinned ones as great as the disk", planner("disk 6; item 6 7; item 1 9; pin 0;").violations(), 0);
        that("greatest weights", planner("disk 98; repeat 14 (item 7 999;); capacity 0; backup 9; capacity 98;").violations(), 0);
        that("many equal plans", planner("disk 7; repeat 14 (item 1 0;);").violations(), 0);
        BackupPlanner p = new BackupPlanner();
        for (int capacity = 0; capacity <= 100; capacity++) {
            p.setCapacity(capacity);
            p.runBackup();
            that("capacity " + capacity, p.violations(), 0);
        }
    }

    // ---- promises 63 to 65

    /** What a call writes: its length and its bytes. */
    private static void writes(String what, BackupPlanner p, Call call, String want) {
        that(what + ": length", call.on(p), want.length());
        that(what, Check.report(p), want);
    }

    private static void items(String what, BackupPlanner p, String want) {
        writes(what, p, q -> q.writeItems(), want);
    }

    private static void row(String what, BackupPlanner p, int row, String want) {
        writes(what, p, q -> q.writeRow(row), want);
    }

    private static void writeItems() {
        place("Promise 63: writeItems");
        holds("Writes the items as a report", ReportSentences::writesItems);
        holds("in place of the previous report", ReportSentences::itemsInPlace);
        holds("in ascending order and separated by spaces, each as its size, a \":\" and its weight", ReportSentences::sizesAndWeights);
        holds("with a \"!\" behind it if it is pinned", () -> items("pinned", planner("disk 1; item 2 3; item 1 1; pin 0;"), "2:3! 1:1"));
        holds("a \"-\" if it is excluded", () -> items("excluded", planner("disk 1; item 1 3; item 1 1; exclude 0;"), "1:3- 1:1*"));
        holds("and a \"*\" behind all if it is in the best plan", ReportSentences::stars);
        holds("Returns the length of the report in bytes.", ReportSentences::itemsLength);
    }

    private static void writesItems() {
        items("new object", new BackupPlanner(), "7:30* 9:42* 4:12 12:50 5:12- 3:2!*");
        items("no items", empty(), "");
        items("one", planner("disk 0; item 1 1;"), "1:1");
    }

    private static void itemsInPlace() {
        BackupPlanner p = new BackupPlanner();
        p.writeRow(4);
        items("a shorter one", p, "7:30* 9:42* 4:12 12:50 5:12- 3:2!*");
        p.runBackup();
        that("the old one until then", Check.report(p), "7:30* 9:42* 4:12 12:50 5:12- 3:2!*");
        items("a longer one", p, "7:30 9:42 4:24* 12:100* 5:24- 3:2!*");
        for (int i = 0; i < 6; i++) {
            p.removeItem(0);
        }
        items("an empty one", p, "");
    }

    private static void sizesAndWeights() {
        items("1 to 4 digits", planner("disk 0; item 1 0; item 9 9; item 10 10; item 60 999;"), "1:0 9:9 10:10 60:999");
        BackupPlanner p = planner("disk 0; item 1 0; item 9 1; item 10 10; item 60 999; item 1 100; backup 9;");
        items("weights by age", p, "1:0 9:10 10:100 60:9990 1:1000");
        items("14", planner("disk 0; repeat 14 (item 60 999;); backup 9;"), "60:9990" + " 60:9990".repeat(13));
    }

    private static void stars() {
        items("free", planner("disk 1; item 1 1; item 1 1;"), "1:1* 1:1");
        items("pinned", planner("disk 2; item 1 0; item 1 1; pin 0;"), "1:0!* 1:1*");
        items("no plan", withoutPlan(), "6:7! 2:3 1:9-");
        items("empty plan", planner("disk 0; item 1 1;"), "1:1");
        BackupPlanner full = full();
        full.pinBest();
        items("all 14", full, "7:999!*" + " 7:999!*".repeat(13));
    }

    private static void itemsLength() {
        that("0", empty().writeItems(), 0);
        that("3", planner("disk 0; item 1 1;").writeItems(), 3);
        that("34", new BackupPlanner().writeItems(), 34);
        BackupPlanner greatest = planner("disk 0; repeat 14 (item 60 999;); backup 9; capacity 100; pin 0;");
        for (int i = 1; i < 14; i++) {
            greatest.exclude(i);
        }
        that("greatest", greatest.writeItems(), 9 + 13 * 9);
        that("just so many bytes", greatest.reportByte(125) + " " + greatest.reportByte(126), (int) '-' + " -1");
    }

    private static void writeRow() {
        place("Promise 64: writeRow");
        holds("Writes a row of the table as a report", ReportSentences::rowsOfTheTable);
        holds("in place of the previous report", ReportSentences::rowInPlace);
        holds("for the column 0", ReportSentences::column0);
        holds("and for each column whose cell is greater than that of the column before it", ReportSentences::greaterColumns);
        holds("in ascending order and separated by spaces, the column, a \":\" and the cell", ReportSentences::longestRow);
        holds("- `row`: 0 to freeCount()", () -> accepts((p, row) -> p.writeRow(row), 0, 1, 3, 4));
        holds("Returns the length of the report in bytes.", ReportSentences::rowLength);
        holds("Throws `IndexOutOfBoundsException` if `row` is out of range", ReportSentences::wrongRows);
    }

    private static void rowsOfTheTable() {
        BackupPlanner p = new BackupPlanner();
        row("row 0", p, 0, "0:0");
        row("row 1", p, 1, "0:0 7:30");
        row("row 2", p, 2, "0:0 7:30 9:42 16:72");
        row("row 4, the last", p, 4, "0:0 4:12 7:30 9:42 12:50 13:54 16:72 19:80 20:84 21:92 25:104 28:122 32:134");
        row("without a plan", withoutPlan(), 1, "0:0 2:3");
        row("row 14", full(), 14, "0:0 7:999 14:1998 21:2997 28:3996 35:4995 42:5994 49:6993 56:7992 63:8991 70:9990 77:10989 84:11988 91:12987 98:13986");
    }

    private static void rowInPlace() {
        BackupPlanner p = new BackupPlanner();
        p.writeItems();
        row("a shorter one", p, 0, "0:0");
        p.removeItem(0);
        that("the old one until then", Check.report(p), "0:0");
        row("a longer one", p, 1, "0:0 9:42");
    }

    private static void column0() {
        row("no items", empty(), 0, "0:0");
        row("row 0 of 14", full(), 0, "0:0");
        row("no weight", planner("disk 9; item 1 0;"), 1, "0:0");
        row("an item of size 1", planner("disk 0; item 1 1;"), 1, "0:0 1:1");
    }

    private static void greaterColumns() {
        row("column 100", planner("disk 5; item 60 1; item 40 1;"), 2, "0:0 40:1 100:2");
        row("not column 101", planner("disk 5; item 60 1; item 41 1;"), 2, "0:0 41:1");
        row("1 greater", planner("disk 5; item 1 5; item 2 6;"), 2, "0:0 1:5 2:6 3:11");
        row("not as great", planner("disk 5; item 1 5; item 2 5;"), 2, "0:0 1:5 3:10");
    }

    /** All 101 columns; the bytes are read on three objects, as one answers 512 calls only. */
    private static void longestRow() {
        StringBuilder want = new StringBuilder("0:0");
        for (int column = 1; column <= 100; column++) {
            want.append(' ').append(column).append(':').append(column < 60 ? 10 * column : 9990 + 10 * (column - 60));
        }
        for (int start = 0; start <= want.length(); start += 400) {
            BackupPlanner p = everyColumn();
            that("length", p.writeRow(7), want.length());
            for (int i = start; i <= want.length() && i < start + 400; i++) {
                that("byte " + i, p.reportByte(i), i < want.length() ? (int) want.charAt(i) : -1);
            }
        }
    }

    private static BackupPlanner everyColumn() {
        return planner("disk 0; item 1 1; item 2 2; item 4 4; item 8 8; item 16 16; item 32 32; item 60 999; backup 9;");
    }

    private static void rowLength() {
        that("3", empty().writeRow(0), 3);
        that("8", new BackupPlanner().writeRow(1), 8);
        that("75", new BackupPlanner().writeRow(4), 75);
        that("every column", everyColumn().writeRow(7), 767);
    }

    private static void wrongRows() {
        refusesBeyond(0, 4, INDEX, (p, row) -> p.writeRow(row));
        refused("row 1 of no free item", INDEX, Sentences::empty, p -> p.writeRow(1));
        refused("row 15 of 14 free items", INDEX, Sentences::full, p -> p.writeRow(15));
        refused("row 2 of one free item, without a plan", INDEX, Sentences::withoutPlan, p -> p.writeRow(2));
        BackupPlanner p = new BackupPlanner();
        p.pin(0);
        Check.index("a row that was", () -> p.writeRow(4));
    }

    private static void reportByte() {
        place("Promise 65: reportByte");
        holds("Returns a byte of the report.", ReportSentences::bytes);
        holds("- `index`: the index of the byte, from 0", ReportSentences::indexFrom0);
        holds("Returns the byte, or NONE if the report has no such byte", ReportSentences::noSuchByte);
        holds("or nothing was written.", ReportSentences::nothingWritten);
    }

    private static void bytes() {
        BackupPlanner p = new BackupPlanner();
        p.writeItems();
        String want = "7:30* 9:42* 4:12 12:50 5:12- 3:2!*";
        for (int i = 0; i < want.length(); i++) {
            that("byte " + i, p.reportByte(i), (int) want.charAt(i));
        }
        p.undo();
        p.runBackup();
        p.undo();
        Check.run(p, "disk 9;");
        that("stays as it was written", Check.report(p), want);
    }

    private static void indexFrom0() {
        BackupPlanner p = planner("disk 0; item 8 1;");
        p.writeItems();
        that("0 is the first", p.reportByte(0), (int) '8');
        that("1 is the second", p.reportByte(1), (int) ':');
        that("2 is the last of three", p.reportByte(2), (int) '1');
    }

    private static void noSuchByte() {
        BackupPlanner p = new BackupPlanner();
        p.writeRow(4);
        p.writeRow(0);
        for (int index : new int[] {3, 4, 74, 75, 1199, 1200, 65536, Integer.MAX_VALUE, -1, -3, -65536, Integer.MIN_VALUE}) {
            that("index " + index + " of 3", p.reportByte(index), -1);
        }
        for (int i = 0; i < 6; i++) {
            p.removeItem(0);
        }
        p.writeItems();
        that("index 0 of an empty report", p.reportByte(0), -1);
        that("index -1 of an empty report", p.reportByte(-1), -1);
    }

    private static void nothingWritten() {
        BackupPlanner p = new BackupPlanner();
        for (int index : new int[] {0, 1, -1, Integer.MAX_VALUE, Integer.MIN_VALUE}) {
            that("index " + index, p.reportByte(index), -1);
        }
        Check.answer(() -> p.writeRow(5));
        that("a refused call writes nothing", p.reportByte(0), -1);
        p.writeRow(0);
        that("written", p.reportByte(0), (int) '0');
    }

    private ReportSentences() {
    }
}
