/** Promises 23 to 32: the items. */
final class ItemTests {
    static void all() {
        counts();
        ofItems();
        pinned();
        densestItem();
    }

    private static void counts() {
        BackupPlanner p = new BackupPlanner();
        Check.that("23 new", p.itemCount(), 6);
        p.addItem(1, 1);
        Check.that("23 more", p.itemCount(), 7);
        p.undo();
        p.removeItem(0);
        Check.that("23 fewer", p.itemCount(), 5);
        Check.that("24 new", p.capacity(), 20);
        p.setCapacity(77);
        Check.that("24 set", p.capacity(), 77);
        Check.that("23 none", Check.planner("disk 100;").itemCount(), 0);
        Check.that("24 script", Check.planner("disk 100;").capacity(), 100);
    }

    private static void ofItems() {
        BackupPlanner p = new BackupPlanner();
        p.runBackup();
        int[] sizes = {7, 9, 4, 12, 5, 3};
        int[] values = {30, 42, 12, 50, 12, 2};
        int[] ages = {0, 0, 1, 1, 1, 0};
        int[] states = {0, 0, 0, 0, 2, 1};
        int[] weights = {30, 42, 24, 100, 24, 2};
        for (int i = 0; i < 6; i++) {
            Check.that("25 item " + i, p.size(i), sizes[i]);
            Check.that("26 item " + i, p.value(i), values[i]);
            Check.that("27 item " + i, p.age(i), ages[i]);
            Check.that("28 item " + i, p.state(i), states[i]);
            Check.that("29 item " + i, p.weight(i), weights[i]);
        }
        for (int item : new int[] {-1, 6, 13, 14, Integer.MIN_VALUE, Integer.MAX_VALUE}) {
            Check.index("25 item " + item, () -> p.size(item));
            Check.index("26 item " + item, () -> p.value(item));
            Check.index("27 item " + item, () -> p.age(item));
            Check.index("28 item " + item, () -> p.state(item));
            Check.index("29 item " + item, () -> p.weight(item));
        }
        BackupPlanner old = Check.planner("disk 0; item 60 999; backup 50;");
        Check.that("27 greatest", old.age(0), 9);
        Check.that("29 greatest", old.weight(0), 9990);
    }

    private static void pinned() {
        BackupPlanner p = new BackupPlanner();
        Check.that("30 new", p.pinnedItems(), 32);
        Check.that("31 new", p.pinnedSize(), 3);
        p.pin(0);
        p.pin(3);
        Check.that("30 more", p.pinnedItems(), 41);
        Check.that("31 more than the capacity", p.pinnedSize(), 22);
        p.release(5);
        p.exclude(0);
        p.release(3);
        Check.that("30 none", p.pinnedItems(), 0);
        Check.that("31 none", p.pinnedSize(), 0);
        BackupPlanner full = Check.planner("disk 1; repeat 14 (item 60 1;);");
        for (int i = 0; i < 14; i++) {
            full.pin(i);
        }
        Check.that("30 all", full.pinnedItems(), 16383);
        Check.that("31 all", full.pinnedSize(), 840);
    }

    private static void densestItem() {
        BackupPlanner p = new BackupPlanner();
        Check.that("32 new", p.densestItem(), 1);
        p.runBackup();
        Check.that("32 ages count", p.densestItem(), 3);
        p.pin(3);
        Check.that("32 not a pinned one", p.densestItem(), 2);
        p.exclude(2);
        Check.that("32 not an excluded one", p.densestItem(), 1);
        Check.that("32 same density, smaller size", Check.planner("disk 9; item 4 8; item 2 4; item 6 12;").densestItem(), 1);
        Check.that("32 same size, smaller number", Check.planner("disk 9; item 4 7; item 2 4; item 2 4;").densestItem(), 1);
        Check.that("32 exactly", Check.planner("disk 9; item 59 982; item 60 999;").densestItem(), 1);
        Check.that("32 exactly", Check.planner("disk 9; item 60 998; item 59 982;").densestItem(), 1);
        Check.that("32 no weight", Check.planner("disk 9; item 9 0; item 8 0;").densestItem(), 1);
        Check.that("32 too great for the disk", Check.planner("disk 1; item 9 9; item 1 0;").densestItem(), 0);
        Check.that("32 without a plan", Check.planner("disk 1; item 9 9; item 1 0; pin 0;").densestItem(), 1);
        Check.that("32 none free", Check.planner("disk 9; item 9 9; pin 0; item 1 1; exclude 1;").densestItem(), -1);
        Check.that("32 no item", Check.planner("disk 9;").densestItem(), -1);
    }

    private ItemTests() {
    }
}
