/** The sentences of the promises 23 to 32: the items. */
final class ItemSentences extends Sentences {
    static void all() {
        place("Promise 23: itemCount");
        holds("Returns the number of items.", ItemSentences::itemCount);
        place("Promise 24: capacity");
        holds("Returns the capacity.", ItemSentences::capacity);
        place("Promise 25: size");
        ofAnItem((p, item) -> p.size(item), "Returns the size of an item.", "Returns its size.", 60, 1, 7, 9, 4, 12, 5, 3);
        place("Promise 26: value");
        ofAnItem((p, item) -> p.value(item), "Returns the value of an item.", "Returns its value.", 999, 0, 30, 42, 12, 50, 12, 2);
        place("Promise 27: age");
        ofAnItem((p, item) -> p.age(item), "Returns the age of an item.", "Returns its age.", 9, 0, 0, 0, 1, 1, 1, 0);
        place("Promise 28: state");
        ofAnItem((p, item) -> p.state(item), "Returns the state of an item.", "Returns FREE, PINNED or EXCLUDED.", 2, 1, 0, 0, 0, 0, 2, 1);
        place("Promise 29: weight");
        ofAnItem((p, item) -> p.weight(item), "Returns the weight of an item.", "Returns its weight.", 9990, 0, 30, 42, 24, 100, 24, 2);
        place("Promise 30: pinnedItems");
        holds("Returns the set of the pinned items.", ItemSentences::pinnedItems);
        place("Promise 31: pinnedSize");
        holds("Returns the size of the set of the pinned items.", ItemSentences::pinnedSize);
        place("Promise 32: densestItem");
        holds("Returns the item with the greatest density among the free items, as the greedy plan considers them", ItemSentences::densest);
        holds("NONE if no item is free.", ItemSentences::noneFree);
    }

    private static void itemCount() {
        that("0", empty().itemCount(), 0);
        BackupPlanner p = new BackupPlanner();
        that("6", p.itemCount(), 6);
        p.exclude(0);
        that("excluded ones count", p.itemCount(), 6);
        for (int items = 7; items <= 14; items++) {
            p.addItem(1, 1);
            that("up to " + items, p.itemCount(), items);
        }
        p.addItem(1, 1);
        that("not above 14", p.itemCount(), 14);
        for (int items = 13; items >= 0; items--) {
            p.removeItem(0);
            that("down to " + items, p.itemCount(), items);
        }
        Check.answer(() -> p.removeItem(0));
        that("not below 0", p.itemCount(), 0);
    }

    private static void capacity() {
        BackupPlanner p = new BackupPlanner();
        that("20", p.capacity(), 20);
        p.setCapacity(0);
        that("0", p.capacity(), 0);
        p.setCapacity(100);
        that("100", p.capacity(), 100);
        Check.answer(() -> p.setCapacity(101));
        that("not 101", p.capacity(), 100);
        p.weightAt(3);
        p.planAt(3);
        that("not that of a question", p.capacity(), 100);
        that("of a script", planner("disk 7; capacity 8;").capacity(), 8);
    }

    /** The four sentences of a question about an item; "want" is due for the new object behind one backup. */
    private static void ofAnItem(NumberCall call, String asks, String returns, int greatest, int least, int... want) {
        holds(asks, () -> ofEachItem(call, want));
        holds("- `item`: the number of an item", () -> takesItems(call));
        holds(returns, () -> bounds(call, greatest, least));
        holds("Throws `IndexOutOfBoundsException` if `item` is not the number of an item", () -> refusesOtherItems(call));
    }

    private static void ofEachItem(NumberCall call, int... want) {
        BackupPlanner p = new BackupPlanner();
        p.runBackup();
        for (int item = 0; item < want.length; item++) {
            that("item " + item, call.on(p, item), want[item]);
        }
        p.removeItem(0);
        for (int item = 1; item < want.length; item++) {
            that("item " + item + " behind a removal", call.on(p, item - 1), want[item]);
        }
    }

    private static void bounds(NumberCall call, int greatest, int least) {
        BackupPlanner p = planner("disk 60; item 60 999; item 1 0; pin 1; exclude 0; backup 50;");
        that("greatest", call.on(p, 0), greatest);
        that("least", call.on(p, 1), least);
        BackupPlanner full = planner("disk 0; repeat 13 (item 1 0;); item 60 999; exclude 13; backup 50;");
        that("the 14th", call.on(full, 13), greatest);
    }

    private static void pinnedItems() {
        that("none of none", empty().pinnedItems(), 0);
        BackupPlanner p = new BackupPlanner();
        p.release(5);
        that("none", p.pinnedItems(), 0);
        p.pin(0);
        that("the first", p.pinnedItems(), 1);
        p.exclude(0);
        that("excluded", p.pinnedItems(), 0);
        BackupPlanner full = full();
        full.pin(13);
        that("the last", full.pinnedItems(), 8192);
        for (int i = 0; i < 13; i++) {
            full.pin(i);
        }
        that("all", full.pinnedItems(), 16383);
        full.setCapacity(0);
        that("without a plan too", full.pinnedItems(), 16383);
        full.removeItem(0);
        that("behind a removal", full.pinnedItems(), 8191);
    }

    private static void pinnedSize() {
        that("of none", empty().pinnedSize(), 0);
        BackupPlanner p = new BackupPlanner();
        that("of one", p.pinnedSize(), 3);
        p.release(5);
        that("of the empty set", p.pinnedSize(), 0);
        BackupPlanner full = planner("disk 0; repeat 14 (item 60 1;);");
        for (int i = 0; i < 14; i++) {
            full.pin(i);
            that("of " + (i + 1), full.pinnedSize(), 60 * (i + 1));
        }
    }

    private static void densest() {
        that("new object", new BackupPlanner().densestItem(), 1);
        that("smaller size first", planner("disk 9; item 4 8; item 2 4; item 6 12;").densestItem(), 1);
        that("smaller number first", planner("disk 9; item 4 7; item 2 4; item 2 4;").densestItem(), 1);
        that("exactly", planner("disk 9; item 59 943; item 60 959;").densestItem(), 1);
        that("exactly, the other way", planner("disk 9; item 60 959; item 59 943;").densestItem(), 0);
        that("by age", planner("disk 5; item 5 10; item 5 9; backup 1;").densestItem(), 1);
        that("density 0", planner("disk 9; item 9 0; item 8 0;").densestItem(), 1);
        that("not pinned, not excluded", planner("disk 9; item 1 9; item 1 8; item 1 1; pin 0; exclude 1;").densestItem(), 2);
        that("though it does not fit", planner("disk 1; item 9 99; item 1 1;").densestItem(), 0);
        that("though there is no plan", withoutPlan().densestItem(), 1);
        that("the 14th", planner("disk 1; repeat 13 (item 2 1;); item 1 1;").densestItem(), 13);
    }

    private static void noneFree() {
        that("no items", empty().densestItem(), -1);
        BackupPlanner p = planner("disk 9; item 1 9; item 1 8; pin 0; exclude 1;");
        that("pinned and excluded ones", p.densestItem(), -1);
        p.release(1);
        that("one is free", p.densestItem(), 1);
    }

    private ItemSentences() {
    }
}
