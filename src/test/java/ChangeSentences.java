/** The sentences of the promises 6 to 20: changes, undo and the snapshot. */
final class ChangeSentences extends Sentences {
    static void all() {
        addItem();
        removeItem();
        setSize();
        setValue();
        states();
        setCapacity();
        pinBest();
        runBackup();
        runBackups();
        undo();
        undoCount();
        saveSnapshot();
        restoreSnapshot();
    }

    // ---- promise 6

    private static void addItem() {
        place("Promise 6: addItem");
        holds("Adds an item behind the others.", ChangeSentences::addsBehind);
        holds("- `size`: 1 to 60", () -> accepts((p, size) -> p.addItem(size, 5), 1, 2, 59, 60));
        holds("- `value`: 0 to 999", () -> accepts((p, value) -> p.addItem(5, value), 0, 1, 998, 999));
        holds("Returns the number of the item", ChangeSentences::addReturnsNumber);
        holds("or NO_ROOM (and nothing changes) if there are 14 items.", ChangeSentences::addNoRoom);
        holds("Throws `IllegalArgumentException` if `size` or `value` is out of range", ChangeSentences::addThrows);
    }

    private static void addsBehind() {
        BackupPlanner p = empty();
        p.addItem(1, 999);
        p.addItem(60, 0);
        that("to none, then to one", all(p), "0 0 0 0: 1,999,0,0 60,0,0,0");
        p.runBackups(9);
        p.exclude(0);
        p.pin(1);
        p.addItem(2, 3);
        that("the others stay", all(p), "0 9 0 0: 1,999,9,2 60,0,9,1 2,3,0,0");
        p.removeItem(2);
        p.removeItem(1);
        p.addItem(2, 3);
        that("FREE and of age 0 in the place of others", all(p), "0 9 0 0: 1,999,9,2 2,3,0,0");
    }

    private static void addReturnsNumber() {
        BackupPlanner p = empty();
        for (int item = 0; item < 14; item++) {
            that("item " + item, p.addItem(60, 999), item);
        }
        p.removeItem(3);
        that("the last again", p.addItem(1, 1), 13);
    }

    private static void addNoRoom() {
        BackupPlanner p = wornAndFull();
        that("15th", p.addItem(1, 1), -2);
        that("nothing changes", Check.whole(p), Check.whole(wornAndFull()));
        BackupPlanner q = wornAndFull();
        for (int i = 0; i < 20; i++) {
            that("again", q.addItem(60, 999), -2);
        }
        that("still nothing changes", Check.whole(q), Check.whole(wornAndFull()));
    }

    private static BackupPlanner wornAndFull() {
        BackupPlanner p = full();
        p.runBackup();
        p.saveSnapshot();
        Check.run(p, "disk 101;");
        p.setCapacity(9);
        p.writeRow(1);
        Check.feed(p, "disk 9;");
        return p;
    }

    private static void addThrows() {
        refusesBeyond(1, 60, ARGUMENT, (p, size) -> p.addItem(size, 5));
        refusesBeyond(0, 999, ARGUMENT, (p, value) -> p.addItem(5, value));
        refused("both", ARGUMENT, Check::worn, p -> p.addItem(0, -1));
        refused("size 0 for a 15th item", ARGUMENT, Sentences::full, p -> p.addItem(0, 1));
        refused("value 1000 for a 15th item", ARGUMENT, Sentences::full, p -> p.addItem(1, 1000));
    }

    // ---- promise 7

    private static void removeItem() {
        place("Promise 7: removeItem");
        holds("Removes an item", ChangeSentences::removes);
        holds("the numbers of the items behind it become 1 less", ChangeSentences::numbersBecomeLess);
        holds("- `item`: the number of an item", () -> takesItems((p, item) -> p.removeItem(item)));
        holds("Returns the number of items afterwards.", ChangeSentences::removeReturnsCount);
        holds("Throws `IndexOutOfBoundsException` if `item` is not the number of an item",
                () -> refusesOtherItems((p, item) -> p.removeItem(item)));
    }

    /** Four items that differ in everything. */
    private static BackupPlanner four() {
        return planner("disk 5; item 1 10; item 2 20; item 3 30; item 4 40; pin 1; exclude 2; backup 1;");
    }

    private static void removes() {
        BackupPlanner p = four();
        that("four", all(p), "5 1 3 30: 1,10,0,0 2,20,0,1 3,30,1,2 4,40,1,0");
        p.removeItem(3);
        that("the last", all(p), "5 1 3 30: 1,10,0,0 2,20,0,1 3,30,1,2");
        p.removeItem(1);
        p.removeItem(0);
        p.removeItem(0);
        that("down to none", all(p), "5 1 3 30:");
        that("what is gone is in no set", p.pinnedItems() + p.bestPlan() + p.neglected(1) + p.freeCount(), 0);
    }

    private static void numbersBecomeLess() {
        BackupPlanner p = four();
        p.removeItem(0);
        that("behind the first", all(p), "5 1 3 30: 2,20,0,1 3,30,1,2 4,40,1,0");
        p.undo();
        p.removeItem(2);
        that("behind one in the middle", all(p), "5 1 3 30: 1,10,0,0 2,20,0,1 4,40,1,0");
        BackupPlanner full = full();
        full.setSize(13, 60);
        full.removeItem(0);
        that("the 14th is the 13th", full.size(12), 60);
    }

    private static void removeReturnsCount() {
        BackupPlanner p = full();
        for (int items = 13; items >= 0; items--) {
            that("down to " + items, p.removeItem(0), items);
        }
    }

    // ---- promises 8 and 9

    private static void setSize() {
        place("Promise 8: setSize");
        holds("Sets the size of an item.", ChangeSentences::setsSize);
        holds("- `item`: the number of an item", () -> takesItems((p, item) -> p.setSize(item, 9)));
        holds("- `size`: 1 to 60", () -> accepts((p, size) -> p.setSize(0, size), 1, 2, 59, 60));
        holds("Returns the previous size.", ChangeSentences::previousSize);
        holds("Throws `IndexOutOfBoundsException` if `item` is not the number of an item",
                () -> refusesOtherItems((p, item) -> p.setSize(item, 9)));
        holds("Throws `IllegalArgumentException` if `size` is out of range",
                () -> refusesBeyond(1, 60, ARGUMENT, (p, size) -> p.setSize(5, size)));
    }

    private static void setsSize() {
        BackupPlanner p = four();
        p.setSize(0, 60);
        p.setSize(3, 1);
        that("the first and the last, nothing else", all(p), "5 1 3 30: 60,10,0,0 2,20,0,1 3,30,1,2 1,40,1,0");
        p.setSize(1, 6);
        that("a pinned one above the capacity", p.hasPlan(), false);
    }

    private static void previousSize() {
        BackupPlanner p = four();
        that("first", p.setSize(0, 60), 1);
        that("greatest", p.setSize(0, 1), 60);
        that("least", p.setSize(0, 1), 1);
        that("the last", p.setSize(3, 5), 4);
    }

    private static void setValue() {
        place("Promise 9: setValue");
        holds("Sets the value of an item.", ChangeSentences::setsValue);
        holds("- `item`: the number of an item", () -> takesItems((p, item) -> p.setValue(item, 9)));
        holds("- `value`: 0 to 999", () -> accepts((p, value) -> p.setValue(0, value), 0, 1, 998, 999));
        holds("Returns the previous value.", ChangeSentences::previousValue);
        holds("Throws `IndexOutOfBoundsException` if `item` is not the number of an item",
                () -> refusesOtherItems((p, item) -> p.setValue(item, 9)));
        holds("Throws `IllegalArgumentException` if `value` is out of range",
                () -> refusesBeyond(0, 999, ARGUMENT, (p, value) -> p.setValue(5, value)));
    }

    private static void setsValue() {
        BackupPlanner p = four();
        p.setValue(0, 999);
        p.setValue(3, 0);
        that("the first and the last, nothing else", all(p), "5 1 3 30: 1,999,0,0 2,20,0,1 3,30,1,2 4,0,1,0");
    }

    private static void previousValue() {
        BackupPlanner p = four();
        that("first", p.setValue(0, 999), 10);
        that("greatest", p.setValue(0, 0), 999);
        that("least", p.setValue(0, 0), 0);
        that("the last, not its weight", p.setValue(3, 5), 40);
    }

    // ---- promises 10 to 12

    private static void states() {
        place("Promise 10: pin");
        holds("Makes an item PINNED.", () -> makes((p, item) -> p.pin(item), 1));
        holds("- `item`: the number of an item", () -> takesItems((p, item) -> p.pin(item)));
        holds("Returns its previous state.", () -> previousStates((p, item) -> p.pin(item)));
        holds("Throws `IndexOutOfBoundsException` if `item` is not the number of an item",
                () -> refusesOtherItems((p, item) -> p.pin(item)));
        place("Promise 11: exclude");
        holds("Makes an item EXCLUDED.", () -> makes((p, item) -> p.exclude(item), 2));
        holds("- `item`: the number of an item", () -> takesItems((p, item) -> p.exclude(item)));
        holds("Returns its previous state.", () -> previousStates((p, item) -> p.exclude(item)));
        holds("Throws `IndexOutOfBoundsException` if `item` is not the number of an item",
                () -> refusesOtherItems((p, item) -> p.exclude(item)));
        place("Promise 12: release");
        holds("Makes an item FREE.", () -> makes((p, item) -> p.release(item), 0));
        holds("- `item`: the number of an item", () -> takesItems((p, item) -> p.release(item)));
        holds("Returns its previous state.", () -> previousStates((p, item) -> p.release(item)));
        holds("Throws `IndexOutOfBoundsException` if `item` is not the number of an item",
                () -> refusesOtherItems((p, item) -> p.release(item)));
    }

    private static void makes(NumberCall call, int state) {
        String[] before = {"1,10,0,0", "2,20,0,1", "3,30,1,2", "4,40,1,0"};
        for (int item = 0; item < 4; item++) {
            BackupPlanner p = four();
            call.on(p, item);
            StringBuilder want = new StringBuilder("5 1 3 30:");
            for (int i = 0; i < 4; i++) {
                want.append(' ').append(i == item ? before[i].substring(0, 7) + state : before[i]);
            }
            that("item " + item + ", nothing else", all(p), want.toString());
            call.on(p, item);
            that("item " + item + " again", all(p), want.toString());
            that("item " + item + ": a change each time", p.undoCount(), 3);
        }
        BackupPlanner full = full();
        call.on(full, 13);
        that("the 14th", full.state(13), state);
    }

    private static void previousStates(NumberCall call) {
        BackupPlanner p = four();
        int[] states = {0, 1, 2, 0};
        for (int item = 0; item < 4; item++) {
            that("item " + item, call.on(p, item), states[item]);
            that("item " + item + " again", call.on(p, item), p.state(item));
        }
    }

    // ---- promise 13

    private static void setCapacity() {
        place("Promise 13: setCapacity");
        holds("Sets the capacity.", ChangeSentences::setsCapacity);
        holds("- `capacity`: 0 to 100", () -> accepts((p, capacity) -> p.setCapacity(capacity), 0, 1, 99, 100));
        holds("Returns the previous capacity.", ChangeSentences::previousCapacity);
        holds("Throws `IllegalArgumentException` if `capacity` is out of range",
                () -> refusesBeyond(0, 100, ARGUMENT, (p, capacity) -> p.setCapacity(capacity)));
    }

    private static void setsCapacity() {
        BackupPlanner p = four();
        p.setCapacity(0);
        that("0, nothing else", all(p), "0 1 3 30: 1,10,0,0 2,20,0,1 3,30,1,2 4,40,1,0");
        that("0 is too small for what is pinned", p.hasPlan(), false);
        p.setCapacity(100);
        that("100", p.capacity() + " " + p.bestPlan(), "100 11");
    }

    private static void previousCapacity() {
        BackupPlanner p = new BackupPlanner();
        that("20", p.setCapacity(0), 20);
        that("0", p.setCapacity(100), 0);
        that("100", p.setCapacity(100), 100);
        that("100 again", p.setCapacity(50), 100);
    }

    // ---- promise 14

    private static void pinBest() {
        place("Promise 14: pinBest");
        holds("Pins all items of the best plan.", ChangeSentences::pinsBest);
        holds("Returns the number of items that were not pinned before.", ChangeSentences::newlyPinned);
        holds("Throws `IllegalStateException` if there is no plan", ChangeSentences::pinBestThrows);
    }

    private static void pinsBest() {
        BackupPlanner p = new BackupPlanner();
        p.pinBest();
        that("nothing else", all(p), "20 0 0 0: 7,30,0,1 9,42,0,1 4,12,0,0 12,50,0,0 5,12,0,2 3,2,0,1");
        BackupPlanner nothing = planner("disk 0; item 1 1; item 2 0;");
        nothing.pinBest();
        that("an empty plan", all(nothing), "0 0 0 0: 1,1,0,0 2,0,0,0");
        BackupPlanner full = full();
        full.pinBest();
        that("14", full.pinnedItems(), 16383);
    }

    private static void newlyPinned() {
        BackupPlanner p = new BackupPlanner();
        that("two of three", p.pinBest(), 2);
        that("none of three", p.pinBest(), 0);
        that("none of an empty plan", planner("disk 0; item 1 1;").pinBest(), 0);
        that("none of none", empty().pinBest(), 0);
        that("all of 14", full().pinBest(), 14);
    }

    private static void pinBestThrows() {
        refused("1 too great", STATE, Sentences::withoutPlan, p -> p.pinBest());
        refused("capacity 0", STATE, () -> planner("disk 0; item 1 1; pin 0;"), p -> p.pinBest());
        BackupPlanner p = withoutPlan();
        p.setCapacity(6);
        that("just as great as the capacity", Check.answer(() -> p.pinBest()), "0");
        p.setCapacity(5);
        that("too great again", Check.answer(() -> p.pinBest()), STATE);
    }

    // ---- promises 15 and 16

    private static void runBackup() {
        place("Promise 15: runBackup");
        holds("Runs a backup.", ChangeSentences::runsOne);
        holds("Returns the set of items that were taken.", ChangeSentences::takenSet);
    }

    private static void runsOne() {
        BackupPlanner p = new BackupPlanner();
        p.runBackup();
        that("one", all(p), "20 1 19 74: 7,30,0,0 9,42,0,0 4,12,1,0 12,50,1,0 5,12,1,2 3,2,0,1");
        p.runBackup();
        that("another", all(p), "20 2 38 200: 7,30,1,0 9,42,1,0 4,12,0,0 12,50,0,0 5,12,2,2 3,2,0,1");
        BackupPlanner none = empty();
        none.runBackup();
        that("without items", all(none), "0 1 0 0:");
    }

    private static void takenSet() {
        BackupPlanner p = new BackupPlanner();
        that("first", p.runBackup(), 35);
        that("second, the best plan of then", p.runBackup(), 44);
        that("empty plan", planner("disk 0; item 1 1;").runBackup(), 0);
        that("no plan", withoutPlan().runBackup(), 0);
        that("no items", empty().runBackup(), 0);
        that("14 items", full().runBackup(), 16383);
    }

    private static void runBackups() {
        place("Promise 16: runBackups");
        holds("Runs backups, one after the other.", ChangeSentences::runsMany);
        holds("- `number`: 1 to 50", () -> accepts((p, number) -> p.runBackups(number), 1, 2, 49, 50));
        holds("Returns the number of items that were taken at least once.", ChangeSentences::takenAtLeastOnce);
        holds("Throws `IllegalArgumentException` if `number` is out of range",
                () -> refusesBeyond(1, 50, ARGUMENT, (p, number) -> p.runBackups(number)));
    }

    private static void runsMany() {
        for (int number : new int[] {1, 2, 49, 50}) {
            BackupPlanner p = new BackupPlanner();
            BackupPlanner q = new BackupPlanner();
            p.runBackups(number);
            for (int i = 0; i < number; i++) {
                q.runBackup();
            }
            that(number + " as one by one", all(p), all(q));
            that(number + " are one change", p.undoCount() + " " + p.undo() + " " + all(p), "1 0 " + all(new BackupPlanner()));
        }
    }

    private static void takenAtLeastOnce() {
        that("of one backup", new BackupPlanner().runBackups(1), 3);
        that("of two, one item in both", new BackupPlanner().runBackups(2), 5);
        that("of 50", new BackupPlanner().runBackups(50), 5);
        that("no plan", withoutPlan().runBackups(50), 0);
        that("empty plans", planner("disk 0; item 1 1;").runBackups(50), 0);
        that("no items", empty().runBackups(50), 0);
        that("all 14 each time", full().runBackups(50), 14);
        that("in the tenth for the first time", planner("disk 5; item 5 100; item 5 11;").runBackups(10), 2);
        that("not yet in nine", planner("disk 5; item 5 100; item 5 11;").runBackups(9), 1);
    }

    // ---- promises 17 and 18

    private static void undo() {
        place("Promise 17: undo");
        holds("Undoes the latest change that has not been undone.", ChangeSentences::undoesLatest);
        holds("Returns the number of changes that can still be undone", ChangeSentences::stillUndone);
        holds("or NONE if there was nothing to undo.", ChangeSentences::nothingToUndo);
    }

    private static void undoesLatest() {
        BackupPlanner p = new BackupPlanner();
        p.setCapacity(1);
        p.setCapacity(2);
        p.setCapacity(3);
        p.undo();
        that("3 undone", p.capacity(), 2);
        p.setCapacity(4);
        p.undo();
        p.undo();
        that("4 and 2 undone, 3 is not there any more", p.capacity(), 1);
        p.undo();
        that("1 undone", p.capacity(), 20);
    }

    private static void stillUndone() {
        BackupPlanner p = new BackupPlanner();
        for (int i = 1; i <= 12; i++) {
            p.setCapacity(i);
        }
        for (int left = 9; left >= 0; left--) {
            that("left " + left, p.undo(), left);
        }
        p.runBackup();
        that("the last of one", p.undo(), 0);
    }

    private static void nothingToUndo() {
        refusedUndo("new object", new BackupPlanner(), all(new BackupPlanner()));
        BackupPlanner p = new BackupPlanner();
        p.setCapacity(1);
        p.undo();
        refusedUndo("all undone", p, all(new BackupPlanner()));
        p.saveSnapshot();
        p.setCapacity(2);
        p.restoreSnapshot();
        refusedUndo("behind a snapshot", p, all(new BackupPlanner()));
        BackupPlanner many = new BackupPlanner();
        for (int i = 1; i <= 11; i++) {
            many.setCapacity(i);
        }
        for (int i = 1; i <= 10; i++) {
            many.undo();
        }
        refusedUndo("the eleventh", many, all(new BackupPlanner()).replaceFirst("20", "1"));
    }

    private static void refusedUndo(String what, BackupPlanner p, String want) {
        that(what, p.undo(), -1);
        that(what + ", again", p.undo(), -1);
        that(what + ": count", p.undoCount(), 0);
        that(what + ": unchanged", all(p), want);
    }

    private static void undoCount() {
        place("Promise 18: undoCount");
        holds("Returns the number of changes that can be undone.", ChangeSentences::countOfUndos);
    }

    private static void countOfUndos() {
        BackupPlanner p = new BackupPlanner();
        that("none", p.undoCount(), 0);
        for (int i = 1; i <= 12; i++) {
            p.setCapacity(i);
            that("behind " + i, p.undoCount(), Math.min(i, 10));
        }
        for (int left = 9; left >= 0; left--) {
            p.undo();
            that("left " + left, p.undoCount(), left);
        }
        p.undo();
        that("not below 0", p.undoCount(), 0);
        p.setCapacity(7);
        that("1 again", p.undoCount(), 1);
    }

    // ---- promises 19 and 20

    private static void saveSnapshot() {
        place("Promise 19: saveSnapshot");
        holds("Saves a snapshot of everything that undo restores", ChangeSentences::savesEverything);
        holds("in place of an earlier one", ChangeSentences::inPlaceOfAnEarlierOne);
        holds("This is not a change.", ChangeSentences::snapshotIsNoChange);
        holds("Returns the number of items.", ChangeSentences::saveReturnsItems);
    }

    private static void savesEverything() {
        BackupPlanner p = four();
        String saved = all(p);
        p.saveSnapshot();
        Check.run(p, "disk 9; repeat 14 (item 60 999;); keep; exclude 13; backup 50;");
        p.restoreSnapshot();
        that("items, capacity and counters", all(p), saved);
        BackupPlanner none = empty();
        none.saveSnapshot();
        none.addItem(1, 1);
        none.setCapacity(100);
        none.restoreSnapshot();
        that("no items", all(none), "0 0 0 0:");
        BackupPlanner full = full();
        full.saveSnapshot();
        full.runBackup();
        full.removeItem(13);
        full.restoreSnapshot();
        that("14 items", all(full), "98 0 0 0:" + " 7,999,0,0".repeat(14));
    }

    private static void inPlaceOfAnEarlierOne() {
        BackupPlanner p = new BackupPlanner();
        for (int capacity = 1; capacity <= 12; capacity++) {
            p.setCapacity(capacity);
            p.saveSnapshot();
        }
        p.restoreSnapshot();
        that("the latest", p.capacity(), 12);
        p.removeItem(0);
        p.saveSnapshot();
        p.addItem(1, 1);
        that("one of fewer items", p.restoreSnapshot(), 5);
    }

    private static void snapshotIsNoChange() {
        BackupPlanner p = new BackupPlanner();
        String before = all(p);
        p.saveSnapshot();
        that("nothing to undo", p.undoCount() + " " + p.undo(), "0 -1");
        that("unchanged", all(p), before);
        p.setCapacity(1);
        p.saveSnapshot();
        that("the change before it is undone", p.undo() + " " + all(p), "0 " + before);
        for (int i = 1; i <= 10; i++) {
            p.setCapacity(i);
        }
        p.saveSnapshot();
        that("none of 10 is forgotten", p.undoCount(), 10);
    }

    private static void saveReturnsItems() {
        that("0", empty().saveSnapshot(), 0);
        that("6", new BackupPlanner().saveSnapshot(), 6);
        that("14", full().saveSnapshot(), 14);
    }

    private static void restoreSnapshot() {
        place("Promise 20: restoreSnapshot");
        holds("Restores the snapshot", ChangeSentences::restores);
        holds("which stays saved", ChangeSentences::staysSaved);
        holds("Nothing can be undone afterwards.", ChangeSentences::noUndoAfterwards);
        holds("Returns the number of items of the snapshot.", ChangeSentences::restoreReturnsItems);
        holds("Throws `NoSuchElementException` if no snapshot was saved", ChangeSentences::noSnapshot);
    }

    private static void restores() {
        BackupPlanner p = four();
        String saved = all(p);
        p.saveSnapshot();
        p.removeItem(0);
        p.runBackups(50);
        Check.run(p, "disk 1 1;");
        p.writeRow(0);
        Check.feed(p, "disk");
        p.restoreSnapshot();
        that("what undo restores", all(p), saved);
        that("not the rest", p.scriptErrorKind() + " " + p.scriptErrorOffset() + " " + p.inputLength() + " " + Check.report(p), "1 7 4 0:0");
        p.restoreSnapshot();
        that("at once again", all(p), saved);
    }

    private static void staysSaved() {
        BackupPlanner p = new BackupPlanner();
        String saved = all(p);
        p.saveSnapshot();
        for (int i = 0; i < 5; i++) {
            p.setValue(i, 999);
            p.removeItem(5);
            p.restoreSnapshot();
            that("time " + i, all(p), saved);
        }
        Check.run(p, "disk 9;");
        p.undo();
        Check.run(p, "disk 9;");
        p.restoreSnapshot();
        that("behind scripts", all(p), saved);
    }

    private static void noUndoAfterwards() {
        BackupPlanner p = new BackupPlanner();
        p.saveSnapshot();
        for (int i = 1; i <= 12; i++) {
            p.setCapacity(i);
        }
        p.restoreSnapshot();
        that("nothing", p.undoCount() + " " + p.undo() + " " + p.capacity(), "0 -1 20");
        p.setCapacity(9);
        that("but what comes then", p.undo() + " " + p.capacity() + " " + p.undo(), "0 20 -1");
    }

    private static void restoreReturnsItems() {
        BackupPlanner p = full();
        p.saveSnapshot();
        Check.run(p, "disk 9;");
        that("14", p.restoreSnapshot(), 14);
        BackupPlanner none = empty();
        none.saveSnapshot();
        none.addItem(1, 1);
        that("0", none.restoreSnapshot(), 0);
    }

    private static void noSnapshot() {
        refused("new object", ELEMENT, BackupPlanner::new, p -> p.restoreSnapshot());
        refused("behind a script", ELEMENT, Sentences::full, p -> p.restoreSnapshot());
        BackupPlanner other = new BackupPlanner();
        other.saveSnapshot();
        refused("of another object", ELEMENT, BackupPlanner::new, p -> p.restoreSnapshot());
        BackupPlanner p = new BackupPlanner();
        Check.answer(() -> p.restoreSnapshot());
        p.saveSnapshot();
        that("once saved", Check.answer(() -> p.restoreSnapshot()), "6");
    }

    private ChangeSentences() {
    }
}
