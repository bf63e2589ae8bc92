/** Promises 6 to 20: changes, undo and the snapshot. */
final class ChangeTests {
    private static final int[] NO_ITEMS = {-1, 6, 7, 14, Integer.MIN_VALUE, Integer.MAX_VALUE};

    static void all() {
        addItem();
        removeItem();
        setSize();
        setValue();
        states();
        setCapacity();
        pinBest();
        runBackup();
        runBackups();
        undo();
        undoCount();
        wrongCallsChangeNothing();
        snapshot();
    }

    private static void addItem() {
        BackupPlanner p = new BackupPlanner();
        Check.that("6 least", p.addItem(1, 0), 6);
        Check.that("6 greatest", p.addItem(60, 999), 7);
        Check.that("6 all", Check.everything(p),
                "20 0 0 0: 7,30,0,0 9,42,0,0 4,12,0,0 12,50,0,0 5,12,0,2 3,2,0,1 1,0,0,0 60,999,0,0");
        Check.argument("6 size 0", () -> p.addItem(0, 5));
        Check.argument("6 size 61", () -> p.addItem(61, 5));
        Check.argument("6 size negative", () -> p.addItem(-1, 5));
        Check.argument("6 value negative", () -> p.addItem(5, -1));
        Check.argument("6 value 1000", () -> p.addItem(5, 1000));
        for (int i = 8; i < 14; i++) {
            Check.that("6 item " + i, p.addItem(i, i), i);
        }
        int undos = p.undoCount();
        String before = Check.everything(p);
        Check.that("6 full", p.addItem(1, 1), -2);
        Check.argument("6 full and wrong", () -> p.addItem(0, 1));
        Check.that("6 full changes nothing", Check.everything(p), before);
        Check.that("6 full is not undone", p.undoCount(), undos);
        p.undo();
        Check.that("6 room again", p.addItem(1, 1), 13);
        p.removeItem(0);
        p.runBackup();
        p.removeItem(12);
        Check.that("6 new item behind a removed one", p.addItem(2, 3), 12);
        Check.that("6 new age", p.age(12), 0);
        Check.that("6 new state", p.state(12), 0);
    }

    private static void removeItem() {
        BackupPlanner p = new BackupPlanner();
        p.runBackup();
        Check.that("7 answer", p.removeItem(2), 5);
        Check.that("7 all", Check.everything(p), "20 1 19 74: 7,30,0,0 9,42,0,0 12,50,1,0 5,12,1,2 3,2,0,1");
        Check.that("7 last", p.removeItem(4), 4);
        Check.that("7 first", p.removeItem(0), 3);
        Check.that("7 rest", Check.everything(p), "20 1 19 74: 9,42,0,0 12,50,1,0 5,12,1,2");
        Check.index("7 behind", () -> p.removeItem(3));
        Check.index("7 negative", () -> p.removeItem(-1));
        p.removeItem(0);
        p.removeItem(0);
        Check.that("7 to none", p.removeItem(0), 0);
        Check.index("7 of none", () -> p.removeItem(0));
    }

    private static void setSize() {
        BackupPlanner p = new BackupPlanner();
        Check.that("8 answer", p.setSize(3, 60), 12);
        Check.that("8 size", p.size(3), 60);
        Check.that("8 least", p.setSize(3, 1), 60);
        Check.that("8 size", p.size(3), 1);
        Check.that("8 others", p.size(2) * 100 + p.size(4), 405);
        Check.argument("8 size 0", () -> p.setSize(3, 0));
        Check.argument("8 size 61", () -> p.setSize(3, 61));
        for (int item : NO_ITEMS) {
            Check.index("8 item " + item, () -> p.setSize(item, 5));
            Check.index("8 both wrong, item " + item, () -> p.setSize(item, 0));
        }
        Check.that("8 same size is a change", p.setSize(3, 1) * 10 + p.undoCount(), 13);
    }

    private static void setValue() {
        BackupPlanner p = new BackupPlanner();
        Check.that("9 answer", p.setValue(3, 999), 50);
        Check.that("9 value", p.value(3), 999);
        Check.that("9 least", p.setValue(3, 0), 999);
        Check.that("9 value", p.value(3), 0);
        Check.that("9 others", p.value(2) * 100 + p.value(4), 1212);
        Check.argument("9 negative", () -> p.setValue(3, -1));
        Check.argument("9 1000", () -> p.setValue(3, 1000));
        for (int item : NO_ITEMS) {
            Check.index("9 item " + item, () -> p.setValue(item, 5));
            Check.index("9 both wrong, item " + item, () -> p.setValue(item, -1));
        }
    }

    private static void states() {
        BackupPlanner p = new BackupPlanner();
        Check.that("10 of a free one", p.pin(0), 0);
        Check.that("10 state", p.state(0), 1);
        Check.that("10 of a pinned one", p.pin(0), 1);
        Check.that("10 of an excluded one", p.pin(4), 2);
        Check.that("10 state", p.state(4), 1);
        Check.that("11 of a free one", p.exclude(1), 0);
        Check.that("11 state", p.state(1), 2);
        Check.that("11 of an excluded one", p.exclude(1), 2);
        Check.that("11 of a pinned one", p.exclude(5), 1);
        Check.that("11 state", p.state(5), 2);
        Check.that("12 of a free one", p.release(2), 0);
        Check.that("12 of a pinned one", p.release(0), 1);
        Check.that("12 of an excluded one", p.release(1), 2);
        Check.that("12 state", p.state(0) + p.state(1) + p.state(2), 0);
        Check.that("10-12 each is a change", p.undoCount(), 9);
        for (int item : NO_ITEMS) {
            Check.index("10 item " + item, () -> p.pin(item));
            Check.index("11 item " + item, () -> p.exclude(item));
            Check.index("12 item " + item, () -> p.release(item));
        }
    }

    private static void setCapacity() {
        BackupPlanner p = new BackupPlanner();
        Check.that("13 answer", p.setCapacity(100), 20);
        Check.that("13 capacity", p.capacity(), 100);
        Check.that("13 least", p.setCapacity(0), 100);
        Check.that("13 capacity", p.capacity(), 0);
        Check.argument("13 negative", () -> p.setCapacity(-1));
        Check.argument("13 101", () -> p.setCapacity(101));
        Check.that("13 undos", p.undoCount(), 2);
        p.undo();
        p.undo();
        Check.that("13 undone", p.capacity(), 20);
    }

    private static void pinBest() {
        BackupPlanner p = new BackupPlanner();
        Check.that("14 answer", p.pinBest(), 2);
        Check.that("14 pinned", p.pinnedItems(), 35);
        Check.that("14 excluded stay", p.state(4), 2);
        Check.that("14 nothing new", p.pinBest(), 0);
        Check.that("14 is a change all the same", p.undoCount(), 2);
        p.setCapacity(18);
        Check.that("14 no plan", Check.answer(p::pinBest), "java.lang.IllegalStateException");
        Check.that("14 no plan is no change", p.undoCount(), 3);
        p.setCapacity(19);
        Check.that("14 plan again", p.pinBest(), 0);
    }

    private static void runBackup() {
        BackupPlanner p = new BackupPlanner();
        Check.that("15 set", p.runBackup(), 35);
        Check.that("15 all", Check.everything(p),
                "20 1 19 74: 7,30,0,0 9,42,0,0 4,12,1,0 12,50,1,0 5,12,1,2 3,2,0,1");
        Check.that("15 second", p.runBackup(), 44);
        Check.that("15 all", Check.everything(p),
                "20 2 38 200: 7,30,1,0 9,42,1,0 4,12,0,0 12,50,0,0 5,12,2,2 3,2,0,1");
        p.setCapacity(2);
        Check.that("15 no plan", p.runBackup(), 0);
        Check.that("15 all grow", Check.everything(p),
                "2 3 38 200: 7,30,2,0 9,42,2,0 4,12,1,0 12,50,1,0 5,12,3,2 3,2,1,1");
        for (int i = 0; i < 9; i++) {
            p.runBackup();
        }
        Check.that("15 not above 9", Check.everything(p),
                "2 12 38 200: 7,30,9,0 9,42,9,0 4,12,9,0 12,50,9,0 5,12,9,2 3,2,9,1");
        p.undo();
        p.undo();
        p.undo();
        Check.that("15 undone", Check.everything(p),
                "2 9 38 200: 7,30,8,0 9,42,8,0 4,12,7,0 12,50,7,0 5,12,9,2 3,2,7,1");
    }

    private static void runBackups() {
        BackupPlanner p = new BackupPlanner();
        Check.that("16 one", p.runBackups(1), 3);
        p.undo();
        Check.that("16 two", p.runBackups(2), 5);
        Check.that("16 is one change", p.undoCount(), 1);
        Check.that("16 all", Check.everything(p),
                "20 2 38 200: 7,30,1,0 9,42,1,0 4,12,0,0 12,50,0,0 5,12,2,2 3,2,0,1");
        p.undo();
        Check.that("16 fifty", p.runBackups(50), 5);
        Check.that("16 count", p.backupCount(), 50);
        Check.argument("16 zero", () -> p.runBackups(0));
        Check.argument("16 51", () -> p.runBackups(51));
        Check.argument("16 negative", () -> p.runBackups(-1));
        Check.that("16 unchanged", p.backupCount() * 10 + p.undoCount(), 501);
        p.setCapacity(0);
        Check.that("16 no plan", p.runBackups(50), 0);
        Check.that("16 counts all the same", p.backupCount(), 100);
    }

    private static void undo() {
        BackupPlanner p = new BackupPlanner();
        Check.that("17 nothing", p.undo(), -1);
        for (int i = 10; i >= 1; i--) {
            BackupPlanner changed = changedTimes(11);
            for (int left = 9; left >= i - 1; left--) {
                Check.that("17 left " + left, changed.undo(), left);
            }
            Check.that("17 restored " + i, Check.everything(changed), Check.everything(changedTimes(i)));
        }
        BackupPlanner all = changedTimes(11);
        for (int i = 10; i >= 1; i--) {
            all.undo();
        }
        Check.that("17 no eleventh", all.undo(), -1);
        Check.that("17 first change stays", Check.everything(all), Check.everything(changedTimes(1)));
    }

    private static BackupPlanner changedTimes(int changes) {
        BackupPlanner p = new BackupPlanner();
        for (int i = 0; i < changes; i++) {
            change(p, i);
        }
        return p;
    }

    private static void change(BackupPlanner p, int number) {
        switch (number) {
            case 0: p.addItem(8, 9); break;
            case 1: p.removeItem(1); break;
            case 2: p.setSize(0, 9); break;
            case 3: p.setValue(0, 8); break;
            case 4: p.pin(0); break;
            case 5: p.exclude(1); break;
            case 6: p.release(0); break;
            case 7: p.setCapacity(30); break;
            case 8: p.pinBest(); break;
            case 9: p.runBackup(); break;
            default: p.runBackups(3); break;
        }
    }

    private static void undoCount() {
        BackupPlanner p = new BackupPlanner();
        for (int i = 1; i <= 25; i++) {
            p.setCapacity(i);
            Check.that("18 count " + i, p.undoCount(), Math.min(i, 10));
        }
        for (int i = 9; i >= 0; i--) {
            p.undo();
            Check.that("18 left " + i, p.undoCount() * 1000 + p.capacity(), i * 1000 + 15 + i);
        }
        p.setCapacity(99);
        Check.that("18 again", p.undoCount(), 1);
        Check.feed(p, "disk 3;");
        p.runScript();
        Check.that("18 script", p.undoCount(), 2);
        Check.that("18 undo the script", p.undo() * 1000 + p.capacity(), 1099);
    }

    private static void wrongCallsChangeNothing() {
        BackupPlanner p = new BackupPlanner();
        p.runBackup();
        String before = Check.everything(p);
        Check.answer(() -> p.addItem(0, 0));
        Check.answer(() -> p.addItem(1, 1000));
        Check.answer(() -> p.removeItem(6));
        Check.answer(() -> p.setSize(6, 1));
        Check.answer(() -> p.setSize(0, 61));
        Check.answer(() -> p.setValue(6, 1));
        Check.answer(() -> p.setValue(0, -1));
        Check.answer(() -> p.pin(6));
        Check.answer(() -> p.exclude(-1));
        Check.answer(() -> p.release(6));
        Check.answer(() -> p.setCapacity(101));
        Check.answer(() -> p.runBackups(0));
        Check.answer(p::restoreSnapshot);
        Check.that("6-20 unchanged", Check.everything(p), before);
        Check.that("6-20 no change", p.undoCount(), 1);
    }

    private static void snapshot() {
        BackupPlanner p = new BackupPlanner();
        Check.that("20 none", Check.answer(p::restoreSnapshot), "java.util.NoSuchElementException");
        p.runBackup();
        p.addItem(1, 1);
        String saved = Check.everything(p);
        Check.that("19 answer", p.saveSnapshot(), 7);
        Check.that("19 is no change", p.undoCount(), 2);
        p.writeRow(0);
        Check.that("5 a script replaces all", Check.run(p, "disk 7;"), 0);
        Check.run(p, "disk 101;");
        Check.feed(p, "disk");
        Check.that("20 answer", p.restoreSnapshot(), 7);
        Check.that("20 restored", Check.everything(p), saved);
        Check.that("20 nothing to undo", p.undoCount(), 0);
        Check.that("20 nothing undone", p.undo(), -1);
        Check.that("20 keeps the input", p.inputLength(), 4);
        Check.that("20 keeps the script error", p.scriptErrorKind() * 10 + p.scriptErrorOffset(), 25);
        Check.that("20 keeps the report", Check.report(p), "0:0");
        p.removeItem(0);
        p.undo();
        p.removeItem(1);
        Check.that("20 stays saved", p.restoreSnapshot() + Check.everything(p), 7 + saved);
        p.setCapacity(1);
        p.saveSnapshot();
        p.undo();
        Check.that("20 undo keeps the snapshot", p.restoreSnapshot() * 100 + p.capacity(), 701);
        p.truncateInput(0);
        Check.run(p, "disk 9;");
        Check.that("19 of no items", p.saveSnapshot(), 0);
        p.undo();
        Check.that("19 replaces an earlier one", p.restoreSnapshot() * 100 + p.capacity(), 9);
    }

    private ChangeTests() {
    }
}
