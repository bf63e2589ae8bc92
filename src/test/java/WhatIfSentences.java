/** The sentences of the promises 48 to 56: the greedy plan, its bound, and what changes would do. */
final class WhatIfSentences extends Sentences {
    static void all() {
        greedy();
        lossIfExcluded();
        lossIfPinned();
        valueNeeded();
        takenInBackup();
        backupsUntil();
        neglected();
    }

    // ---- promises 48 to 50

    private static void greedy() {
        place("Promise 48: greedyPlan");
        holds("Returns the greedy plan", () -> {
            PlanSentences.answers(p -> p.greedyPlan(), 35, 0, 0, 1, 16383);
            that("not the best", notBest().greedyPlan(), 1);
        });
        holds("or NONE if there is no plan.", () -> PlanSentences.noneWithoutPlan(p -> p.greedyPlan(), -1));
        place("Promise 49: greedyWeight");
        holds("Returns the weight of the greedy plan", () -> {
            PlanSentences.answers(p -> p.greedyWeight(), 74, 0, 0, 7, 13986);
            that("not the best", notBest().greedyWeight(), 60);
        });
        holds("or NONE if there is no plan.", () -> PlanSentences.noneWithoutPlan(p -> p.greedyWeight(), -1));
        place("Promise 50: upperBound");
        holds("Returns the bound of the plans", () -> {
            PlanSentences.answers(p -> p.upperBound(), 78, 0, 66, 7, 13986);
            that("not the best", notBest().upperBound(), 96);
        });
        holds("or NONE if there is no plan.", () -> PlanSentences.noneWithoutPlan(p -> p.upperBound(), -1));
    }

    /** The densest item leaves no room for the two that would be best. */
    static BackupPlanner notBest() {
        return planner("disk 10; item 6 60; item 5 45; item 5 45;");
    }

    // ---- promise 51

    private static void lossIfExcluded() {
        place("Promise 51: lossIfExcluded");
        holds("Returns how much weight the best plan would lose if an item was excluded.", WhatIfSentences::lostIfExcluded);
        holds("- `item`: the number of an item", () -> takesItems((p, item) -> p.lossIfExcluded(item)));
        holds("Returns the difference; 0 if there is no plan now.", WhatIfSentences::noLossWithoutPlan);
        holds("Throws `IndexOutOfBoundsException` if `item` is not the number of an item",
                () -> refusesOtherItems((p, item) -> p.lossIfExcluded(item)));
    }

    private static void lostIfExcluded() {
        BackupPlanner p = new BackupPlanner();
        int[] want = {10, 10, 0, 0, 0, -10};
        for (int item = 0; item < 6; item++) {
            that("item " + item, p.lossIfExcluded(item), want[item]);
        }
        that("nothing changes", all(p), all(new BackupPlanner()));
        that("nothing can be undone", p.undoCount(), 0);
        that("all there is", planner("disk 60; item 60 999; capacity 0; backup 9; capacity 60;").lossIfExcluded(0), 9990);
        that("the 14th", full().lossIfExcluded(13), 999);
        that("one that does not fit", planner("disk 0; item 1 999;").lossIfExcluded(0), 0);
    }

    private static void noLossWithoutPlan() {
        BackupPlanner p = withoutPlan();
        for (int item = 0; item < 3; item++) {
            that("no plan now, item " + item, p.lossIfExcluded(item), 0);
        }
        p.setCapacity(6);
        that("a pinned one gives its room to a lighter one", p.lossIfExcluded(0), 4);
        p.setValue(0, 0);
        that("to a heavier one", p.lossIfExcluded(0), -3);
    }

    // ---- promise 52

    private static void lossIfPinned() {
        place("Promise 52: lossIfPinned");
        holds("Returns how much weight the best plan would lose if an item was pinned.", WhatIfSentences::lostIfPinned);
        holds("- `item`: the number of an item", () -> takesItems((p, item) -> p.lossIfPinned(item)));
        holds("Returns the difference", WhatIfSentences::pinnedDifference);
        holds("or NONE if there would be no plan then", WhatIfSentences::noPlanThen);
        holds("or there is none now", WhatIfSentences::noPlanNow);
        holds("Throws `IndexOutOfBoundsException` if `item` is not the number of an item",
                () -> refusesOtherItems((p, item) -> p.lossIfPinned(item)));
    }

    private static void lostIfPinned() {
        BackupPlanner p = new BackupPlanner();
        int[] want = {0, 0, 10, 10, 10, 0};
        for (int item = 0; item < 6; item++) {
            that("item " + item, p.lossIfPinned(item), want[item]);
        }
        that("nothing changes", all(p), all(new BackupPlanner()));
        that("nothing can be undone", p.undoCount(), 0);
        that("the 14th", planner("disk 7; repeat 13 (item 7 9;); item 7 2;").lossIfPinned(13), 7);
    }

    private static void pinnedDifference() {
        BackupPlanner p = planner("disk 9; item 4 0; item 6 7; item 3 5; exclude 2;");
        that("all that there is", p.lossIfPinned(0), 7);
        that("an item of the plan", p.lossIfPinned(1), 0);
        that("an excluded one that just fits is a gain", p.lossIfPinned(2), -5);
        p.setCapacity(13);
        that("none, as there is room", p.lossIfPinned(0), 0);
    }

    private static void noPlanThen() {
        BackupPlanner p = planner("disk 9; item 4 1; item 6 2; item 5 3; pin 0;");
        that("1 too great", p.lossIfPinned(1), -1);
        that("just as great as the room", p.lossIfPinned(2), 0);
        p.setCapacity(4);
        that("no room", p.lossIfPinned(2), -1);
        that("pinned already", p.lossIfPinned(0), 0);
        that("capacity 0", planner("disk 0; item 1 1;").lossIfPinned(0), -1);
        that("100", planner("disk 100; item 60 1; pin 0; item 40 1;").lossIfPinned(1), 0);
        that("101", planner("disk 100; item 60 1; pin 0; item 41 1;").lossIfPinned(1), -1);
    }

    private static void noPlanNow() {
        BackupPlanner p = withoutPlan();
        for (int item = 0; item < 3; item++) {
            that("item " + item, p.lossIfPinned(item), -1);
        }
    }

    // ---- promise 53

    private static void valueNeeded() {
        place("Promise 53: valueNeeded");
        holds("Returns the least value with which a free item would be in the best plan.", WhatIfSentences::leastValue);
        holds("- `item`: the number of an item", () -> takesItems((p, item) -> p.valueNeeded(item)));
        holds("Returns the smallest value from 0 to 999 with which the best plan contains the item", WhatIfSentences::valuesTo999);
        holds("or NONE if there is none", WhatIfSentences::noValue);
        holds("or the item is not free", WhatIfSentences::notFree);
        holds("Throws `IndexOutOfBoundsException` if `item` is not the number of an item",
                () -> refusesOtherItems((p, item) -> p.valueNeeded(item)));
    }

    private static void leastValue() {
        BackupPlanner p = new BackupPlanner();
        int[] want = {20, 32, 23, 61, -1, -1};
        for (int item = 0; item < 6; item++) {
            that("item " + item, p.valueNeeded(item), want[item]);
        }
        that("nothing changes", all(p), all(new BackupPlanner()));
        for (int item = 0; item < 4; item++) {
            BackupPlanner q = new BackupPlanner();
            q.setValue(item, want[item]);
            boolean with = q.isTaken(item);
            q.setValue(item, want[item] - 1);
            that("item " + item + " with it and with 1 less", with + " " + q.isTaken(item), "true false");
        }
        that("by age, rounded up", planner("disk 5; item 5 0; item 5 9; backup 3;").valueNeeded(0), 3);
        that("the 14th", planner("disk 7; repeat 13 (item 7 9;); item 7 2;").valueNeeded(13), 10);
    }

    private static void valuesTo999() {
        that("never 0, for the empty set is smaller", planner("disk 5; item 5 0;").valueNeeded(0), 1);
        that("1, though its value is 999", planner("disk 5; item 5 999;").valueNeeded(0), 1);
        that("as great a weight with less size", planner("disk 5; item 5 7; item 4 1;").valueNeeded(1), 7);
        that("as great a weight with more size", planner("disk 5; item 4 7; item 5 1;").valueNeeded(1), 8);
        that("the smaller number", planner("disk 5; item 5 1; item 5 7;").valueNeeded(0), 7);
        that("the greater number", planner("disk 5; item 5 7; item 5 1;").valueNeeded(1), 8);
        that("999 by less size", planner("disk 6; item 5 9; item 6 999;").valueNeeded(0), 999);
        that("999 by the smaller number", planner("disk 5; item 5 9; item 5 999;").valueNeeded(0), 999);
        that("999 by 1", planner("disk 6; item 6 9; item 5 998;").valueNeeded(0), 999);
    }

    private static void noValue() {
        that("1000 would do, more size", planner("disk 6; item 6 9; item 5 999;").valueNeeded(0), -1);
        that("1000 would do, the greater number", planner("disk 5; item 5 999; item 5 9;").valueNeeded(1), -1);
        that("too great for the disk", planner("disk 5; item 6 9;").valueNeeded(0), -1);
        that("just as great as the disk", planner("disk 6; item 6 9;").valueNeeded(0), 1);
        that("capacity 0", planner("disk 0; item 1 9;").valueNeeded(0), -1);
        BackupPlanner p = planner("disk 9; item 4 1; pin 0; item 6 1; item 5 1;");
        that("too great beside a pinned one", p.valueNeeded(1), -1);
        that("just as great as what is left", p.valueNeeded(2), 1);
        that("no plan", withoutPlan().valueNeeded(1), -1);
    }

    private static void notFree() {
        BackupPlanner p = planner("disk 9; item 4 1; item 4 1; pin 0; exclude 1;");
        that("pinned", p.valueNeeded(0), -1);
        that("excluded", p.valueNeeded(1), -1);
        p.release(0);
        p.release(1);
        that("released", p.valueNeeded(0) + " " + p.valueNeeded(1), "1 1");
    }

    // ---- promises 54 to 56

    private static void takenInBackup() {
        place("Promise 54: takenInBackup");
        holds("Returns the items that the next backups would take.", WhatIfSentences::wouldTake);
        holds("- `number`: 1 to 50", () -> accepts((p, number) -> p.takenInBackup(number), 1, 2, 49, 50));
        holds("Returns the set of the items that would be taken in the backup with this number, 1 for the next one.",
                WhatIfSentences::takenWithNumber);
        holds("Throws `IllegalArgumentException` if `number` is out of range",
                () -> refusesBeyond(1, 50, ARGUMENT, (p, number) -> p.takenInBackup(number)));
    }

    private static void wouldTake() {
        BackupPlanner p = new BackupPlanner();
        p.takenInBackup(50);
        that("nothing changes", all(p) + p.undoCount(), all(new BackupPlanner()) + 0);
        that("no plan", withoutPlan().takenInBackup(1) + " " + withoutPlan().takenInBackup(50), "0 0");
        that("no items", empty().takenInBackup(50), 0);
        that("14 items", full().takenInBackup(50), 16383);
    }

    private static void takenWithNumber() {
        BackupPlanner p = new BackupPlanner();
        BackupPlanner q = new BackupPlanner();
        for (int number = 1; number <= 50; number++) {
            that("backup " + number, p.takenInBackup(number), q.runBackup());
        }
        that("the next one", p.takenInBackup(1), 35);
        that("the one behind it", p.takenInBackup(2), 44);
        p.runBackup();
        that("the next one then", p.takenInBackup(1), 44);
    }

    /** An item that is taken in the 50th of the next backups for the first time, as item 7. */
    private static BackupPlanner taken50th() {
        return planner("disk 24; item 17 29; item 24 47; item 14 45; item 6 47; item 15 84; item 13 37; item 20 45; item 12 22;");
    }

    /** An item that is taken in the 51st, as item 4. */
    private static BackupPlanner taken51st() {
        return planner("disk 10; item 9 50; item 7 20; item 9 69; item 4 98; item 9 29; item 10 62; item 8 81; item 10 39;");
    }

    private static void backupsUntil() {
        place("Promise 55: backupsUntil");
        holds("Returns in which of the next backups an item would be taken for the first time.", WhatIfSentences::firstTime);
        holds("- `item`: the number of an item", () -> takesItems((p, item) -> p.backupsUntil(item)));
        holds("Returns the number of the backup, 1 for the next one", WhatIfSentences::numberOfBackup);
        holds("or NONE if it is not taken in the next 50.", WhatIfSentences::notInTheNext50);
        holds("Throws `IndexOutOfBoundsException` if `item` is not the number of an item",
                () -> refusesOtherItems((p, item) -> p.backupsUntil(item)));
    }

    private static void firstTime() {
        BackupPlanner p = new BackupPlanner();
        int[] want = {1, 1, 2, 2, -1, 1};
        for (int item = 0; item < 6; item++) {
            that("item " + item, p.backupsUntil(item), want[item]);
        }
        that("nothing changes", all(p) + p.undoCount(), all(new BackupPlanner()) + 0);
        p.runBackup();
        that("taken already, but that was before", p.backupsUntil(0), 2);
        that("the 14th", full().backupsUntil(13), 1);
    }

    private static void numberOfBackup() {
        that("1", full().backupsUntil(0), 1);
        that("10", planner("disk 5; item 5 100; item 5 11;").backupsUntil(1), 10);
        that("50", taken50th().backupsUntil(7), 50);
        BackupPlanner p = taken50th();
        p.runBackups(49);
        that("1 behind 49", p.backupsUntil(7), 1);
        BackupPlanner later = taken51st();
        later.runBackup();
        that("50 behind 1", later.backupsUntil(4), 50);
    }

    private static void notInTheNext50() {
        that("51", taken51st().backupsUntil(4), -1);
        that("never", planner("disk 5; item 5 100; item 5 10;").backupsUntil(1), -1);
        that("excluded", new BackupPlanner().backupsUntil(4), -1);
        that("too great", planner("disk 5; item 6 1;").backupsUntil(0), -1);
        that("without weight", planner("disk 5; item 5 0;").backupsUntil(0), -1);
        that("no plan, though pinned", withoutPlan().backupsUntil(0), -1);
    }

    private static void neglected() {
        place("Promise 56: neglected");
        holds("Returns the items that would not be taken in any of the next backups.", WhatIfSentences::notTakenInAny);
        holds("- `number`: 1 to 50", () -> accepts((p, number) -> p.neglected(number), 1, 2, 49, 50));
        holds("Returns the set of these items.", WhatIfSentences::setOfNeglected);
        holds("Throws `IllegalArgumentException` if `number` is out of range",
                () -> refusesBeyond(1, 50, ARGUMENT, (p, number) -> p.neglected(number)));
    }

    private static void notTakenInAny() {
        BackupPlanner p = new BackupPlanner();
        that("of 1", p.neglected(1), 28);
        that("of 2", p.neglected(2), 16);
        that("of 50, the excluded one", p.neglected(50), 16);
        that("nothing changes", all(p) + p.undoCount(), all(new BackupPlanner()) + 0);
        that("of 49, item 7", taken50th().neglected(49) >> 7 & 1, 1);
        that("of 50, not item 7", taken50th().neglected(50) >> 7 & 1, 0);
    }

    private static void setOfNeglected() {
        that("no items", empty().neglected(50), 0);
        that("all are taken", full().neglected(1), 0);
        that("none is taken", planner("disk 0; repeat 14 (item 1 1;);").neglected(50), 16383);
        that("no plan", withoutPlan().neglected(50), 7);
        that("only the last", planner("disk 91; repeat 13 (item 7 999;); item 7 1;").neglected(1), 8192);
    }

    private WhatIfSentences() {
    }
}
