/** Promises 48 to 56: the greedy plan, its bound, and what changes would do. */
final class WhatIfTests {
    private static final int[] NO_ITEMS = {-1, 6, 14, 32, Integer.MIN_VALUE, Integer.MAX_VALUE};

    static void all() {
        greedy();
        bound();
        lossIfExcluded();
        lossIfPinned();
        valueNeeded();
        takenInBackup();
        backupsUntil();
        neglected();
    }

    private static void greedy(String what, String script, int set, int weight, int bound) {
        BackupPlanner p = Check.planner(script);
        Check.that("48 " + what, p.greedyPlan(), set);
        Check.that("49 " + what, p.greedyWeight(), weight);
        Check.that("50 " + what, p.upperBound(), bound);
    }

    private static void greedy() {
        BackupPlanner p = new BackupPlanner();
        Check.that("48 new", p.greedyPlan(), 35);
        Check.that("49 new", p.greedyWeight(), 74);
        Check.that("50 new", p.upperBound(), 78);
        p.setCapacity(2);
        Check.that("48 no plan", p.greedyPlan(), -1);
        Check.that("49 no plan", p.greedyWeight(), -1);
        Check.that("50 no plan", p.upperBound(), -1);
        p.setCapacity(3);
        Check.that("48 only pinned", p.greedyPlan(), 32);
        Check.that("49 only pinned", p.greedyWeight(), 2);
        Check.that("50 only pinned", p.upperBound(), 2);
        greedy("not best", "disk 10; item 6 60; item 5 45; item 5 45;", 1, 60, 96);
        greedy("later ones still fit", "disk 10; item 6 60; item 5 45; item 4 4;", 5, 64, 96);
        greedy("smaller size first", "disk 6; item 6 12; item 3 6; item 2 4;", 6, 10, 12);
        greedy("smaller number first", "disk 3; item 2 4; item 2 4; item 3 1;", 1, 4, 6);
        greedy("no weight is taken", "disk 9; item 1 0; item 5 9; item 4 0;", 3, 9, 9);
        greedy("excluded", "disk 9; item 1 99; item 5 9; exclude 0;", 2, 9, 9);
        greedy("nothing", "disk 0;", 0, 0, 0);
        greedy("capacity 0", "disk 0; item 1 999;", 0, 0, 0);
        greedy("by age", "disk 5; item 5 10; item 5 9; backup 1;", 2, 18, 18);
    }

    private static void bound() {
        greedy("rounded down", "disk 5; item 3 9; item 3 8;", 1, 9, 14);
        greedy("nothing behind it", "disk 5; item 3 9; item 9 20; item 2 1;", 5, 10, 13);
        greedy("all fit", "disk 100; item 3 9; item 9 20; item 2 1;", 7, 30, 30);
        greedy("pinned", "disk 6; item 3 1; pin 0; item 4 10;", 1, 1, 8);
        greedy("first does not fit", "disk 5; item 60 999; item 5 1;", 2, 1, 83);
    }

    private static void lossIfExcluded() {
        BackupPlanner p = new BackupPlanner();
        int[] want = {10, 10, 0, 0, 0, -10};
        for (int i = 0; i < 6; i++) {
            Check.that("51 item " + i, p.lossIfExcluded(i), want[i]);
        }
        for (int item : NO_ITEMS) {
            Check.index("51 item " + item, () -> p.lossIfExcluded(item));
        }
        p.setCapacity(2);
        Check.that("51 no plan", p.lossIfExcluded(5), 0);
        Check.index("51 no plan, no item", () -> p.lossIfExcluded(6));
        Check.that("51 no change", p.state(5), 1);
    }

    private static void lossIfPinned() {
        BackupPlanner p = new BackupPlanner();
        int[] want = {0, 0, 10, 10, 10, 0};
        for (int i = 0; i < 6; i++) {
            Check.that("52 item " + i, p.lossIfPinned(i), want[i]);
        }
        for (int item : NO_ITEMS) {
            Check.index("52 item " + item, () -> p.lossIfPinned(item));
        }
        p.setCapacity(14);
        Check.that("52 no plan then", p.lossIfPinned(3), -1);
        p.setCapacity(15);
        Check.that("52 a plan then", p.lossIfPinned(3), 0);
        p.setCapacity(2);
        Check.that("52 no plan now", p.lossIfPinned(0), -1);
        Check.index("52 no plan, no item", () -> p.lossIfPinned(6));
        Check.that("52 no change", p.state(0), 0);
        BackupPlanner excluded = Check.planner("disk 9; item 4 5; exclude 0;");
        Check.that("52 a gain", excluded.lossIfPinned(0), -5);
    }

    private static void valueNeeded() {
        BackupPlanner p = new BackupPlanner();
        int[] want = {20, 32, 23, 61, -1, -1};
        for (int i = 0; i < 6; i++) {
            Check.that("53 item " + i, p.valueNeeded(i), want[i]);
        }
        for (int item : NO_ITEMS) {
            Check.index("53 item " + item, () -> p.valueNeeded(item));
        }
        p.setCapacity(2);
        Check.that("53 no plan", p.valueNeeded(0), -1);
        p.setCapacity(9);
        Check.that("53 does not fit", p.valueNeeded(0), -1);
        p.setCapacity(10);
        Check.that("53 just fits", p.valueNeeded(0), 13);
        Check.that("53 no change", p.value(0), 30);
        Check.that("53 smaller size wins", Check.planner("disk 5; item 5 7; item 4 1;").valueNeeded(1), 7);
        Check.that("53 greater size loses", Check.planner("disk 5; item 4 7; item 5 1;").valueNeeded(1), 8);
        Check.that("53 smaller number wins", Check.planner("disk 5; item 5 1; item 5 7;").valueNeeded(0), 7);
        Check.that("53 greater number loses", Check.planner("disk 5; item 5 7; item 5 1;").valueNeeded(1), 8);
        Check.that("53 never without weight", Check.planner("disk 5; item 5 0;").valueNeeded(0), 1);
        Check.that("53 by age", Check.planner("disk 5; item 5 0; item 5 9; backup 3;").valueNeeded(0), 3);
        Check.that("53 just 999", Check.planner("disk 5; item 5 9; item 5 998;").valueNeeded(0), 998);
        Check.that("53 999 does not do", Check.planner("disk 6; item 6 9; item 5 999;").valueNeeded(0), -1);
        Check.that("53 999 does", Check.planner("disk 6; item 6 9; item 5 998;").valueNeeded(0), 999);
    }

    private static void takenInBackup() {
        BackupPlanner p = new BackupPlanner();
        int[] want = {35, 44, 35, 44};
        String before = Check.everything(p);
        for (int i = 1; i <= 4; i++) {
            Check.that("54 backup " + i, p.takenInBackup(i), want[i - 1]);
        }
        Check.that("54 no change", Check.everything(p), before);
        Check.that("54 no undo", p.undoCount(), 0);
        for (int number : new int[] {0, 51, -1, Integer.MIN_VALUE, Integer.MAX_VALUE}) {
            Check.argument("54 number " + number, () -> p.takenInBackup(number));
        }
        for (int i = 1; i <= 50; i++) {
            int expected = p.takenInBackup(51 - i);
            BackupPlanner q = new BackupPlanner();
            int taken = 0;
            for (int k = 0; k < 51 - i; k++) {
                taken = q.runBackup();
            }
            Check.that("54 as runBackup " + i, expected, taken);
        }
        p.setCapacity(2);
        Check.that("54 no plan", p.takenInBackup(50), 0);
    }

    private static void backupsUntil() {
        BackupPlanner p = new BackupPlanner();
        int[] want = {1, 1, 2, 2, -1, 1};
        for (int i = 0; i < 6; i++) {
            Check.that("55 item " + i, p.backupsUntil(i), want[i]);
        }
        for (int item : NO_ITEMS) {
            Check.index("55 item " + item, () -> p.backupsUntil(item));
        }
        Check.that("55 no change", p.backupCount() + p.age(3), 0);
        p.setCapacity(2);
        Check.that("55 no plan", p.backupsUntil(5), -1);
        Check.that("55 tenth", Check.planner("disk 5; item 5 100; item 5 11;").backupsUntil(1), 10);
        lateBackups();
        Check.that("55 never", Check.planner("disk 5; item 5 100; item 5 10;").backupsUntil(1), -1);
    }

    private static void lateBackups() {
        BackupPlanner p = Check.planner("disk 24; item 17 29; item 24 47; item 14 45; item 6 47; item 15 84; item 13 37; item 20 45; item 12 22;");
        Check.that("55 fiftieth", p.backupsUntil(7), 50);
        Check.that("56 not in 49", p.neglected(49) >> 7 & 1, 1);
        Check.that("56 in 50", p.neglected(50) >> 7 & 1, 0);
        Check.that("54 fiftieth", p.takenInBackup(50) >> 7 & 1, 1);
        BackupPlanner later = Check.planner("disk 10; item 9 50; item 7 20; item 9 69; item 4 98; item 9 29; item 10 62; item 8 81; item 10 39;");
        Check.that("55 fifty-first", later.backupsUntil(4), -1);
        later.runBackup();
        Check.that("55 fiftieth then", later.backupsUntil(4), 50);
    }

    private static void neglected() {
        BackupPlanner p = new BackupPlanner();
        Check.that("56 one", p.neglected(1), 28);
        Check.that("56 two", p.neglected(2), 16);
        Check.that("56 fifty", p.neglected(50), 16);
        for (int number : new int[] {0, 51, -1, Integer.MIN_VALUE, Integer.MAX_VALUE}) {
            Check.argument("56 number " + number, () -> p.neglected(number));
        }
        Check.that("56 no change", p.backupCount() + p.age(3), 0);
        p.setCapacity(2);
        Check.that("56 no plan", p.neglected(50), 63);
        Check.that("56 no items", Check.planner("disk 5;").neglected(1), 0);
        Check.that("56 all", Check.planner("disk 0; repeat 14 (item 1 1;);").neglected(50), 16383);
    }

    private WhatIfTests() {
    }
}
