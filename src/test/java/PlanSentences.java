/** The sentences of the promises 33 to 47: the best plan and the table. */
final class PlanSentences extends Sentences {
    static void all() {
        hasPlan();
        bestPlan();
        isTaken();
        optimalPlans();
        otherCapacities();
        capacityFor();
        steps();
        nextStep();
        freeCount();
        cell();
        isRaised();
    }

    // ---- promise 33

    private static void hasPlan() {
        place("Promise 33: hasPlan");
        holds("Returns whether there is a plan.", PlanSentences::whetherThereIsAPlan);
    }

    private static void whetherThereIsAPlan() {
        that("no items, capacity 0", empty().hasPlan(), true);
        that("nothing fits", planner("disk 0; item 1 1;").hasPlan(), true);
        BackupPlanner p = withoutPlan();
        that("1 too great", p.hasPlan(), false);
        p.setCapacity(6);
        that("just as great", p.hasPlan(), true);
        p.setSize(0, 7);
        that("1 too great again", p.hasPlan(), false);
        p.exclude(0);
        that("excluded", p.hasPlan(), true);
        p.pin(0);
        p.removeItem(0);
        that("removed", p.hasPlan(), true);
        BackupPlanner full = planner("disk 100; item 60 1; item 40 1; item 1 1; pin 0; pin 1;");
        that("100", full.hasPlan(), true);
        full.pin(2);
        that("101", full.hasPlan(), false);
    }

    // ---- promises 34 to 37

    private static void bestPlan() {
        place("Promise 34: bestWeight");
        holds("Returns the weight of the best plan", () -> answers(p -> p.bestWeight(), 74, 0, 0, 7, 13986));
        holds("or NONE if there is no plan.", () -> noneWithoutPlan(p -> p.bestWeight(), -1));
        place("Promise 35: bestPlan");
        holds("Returns the best plan", () -> answers(p -> p.bestPlan(), 35, 0, 0, 1, 16383));
        holds("or NONE if there is no plan.", () -> noneWithoutPlan(p -> p.bestPlan(), -1));
        place("Promise 36: bestSize");
        holds("Returns the size of the best plan", () -> answers(p -> p.bestSize(), 19, 0, 0, 6, 98));
        holds("or NONE if there is no plan.", () -> noneWithoutPlan(p -> p.bestSize(), -1));
        place("Promise 37: slack");
        holds("Returns the capacity minus the size of the best plan", PlanSentences::slack);
        holds("or NONE if there is no plan.", () -> noneWithoutPlan(p -> p.slack(), -1));
    }

    /** A new object, no items, nothing that fits, pinned ones as great as the disk, and 14 items. */
    static void answers(Call call, Object... want) {
        that("new object", call.on(new BackupPlanner()), want[0]);
        that("no items", call.on(empty()), want[1]);
        that("nothing fits", call.on(planner("disk 4; item 5 9; item 60 999;")), want[2]);
        BackupPlanner p = withoutPlan();
        p.setCapacity(6);
        that("pinned ones as great as the disk", call.on(p), want[3]);
        that("14 items", call.on(full()), want[4]);
    }

    static void noneWithoutPlan(Call call, Object none) {
        BackupPlanner p = withoutPlan();
        that("1 too great", call.on(p), none);
        p.setCapacity(6);
        that("just as great", call.on(p).equals(none), false);
        p.setCapacity(0);
        that("capacity 0", call.on(p), none);
        BackupPlanner full = full();
        for (int i = 0; i < 14; i++) {
            full.pin(i);
            full.setSize(i, 60);
        }
        that("14 pinned ones of 60", call.on(full), none);
    }

    private static void slack() {
        answers(p -> p.slack(), 1, 0, 4, 0, 0);
        BackupPlanner p = planner("disk 100;");
        that("all", p.slack(), 100);
        p.addItem(1, 0);
        that("an item without weight is left out", p.slack(), 100);
        p.setValue(0, 1);
        that("all but 1", p.slack(), 99);
    }

    // ---- promise 38

    private static void isTaken() {
        place("Promise 38: isTaken");
        holds("Tells whether an item is in the best plan.", PlanSentences::inTheBestPlan);
        holds("- `item`: the number of an item", () -> takesItems((p, item) -> p.isTaken(item)));
        holds("Returns whether there is a plan and the best one contains the item.", PlanSentences::planContains);
        holds("Throws `IndexOutOfBoundsException` if `item` is not the number of an item",
                () -> refusesOtherItems((p, item) -> p.isTaken(item)));
    }

    private static void inTheBestPlan() {
        BackupPlanner p = new BackupPlanner();
        boolean[] want = {true, true, false, false, false, true};
        for (int item = 0; item < 6; item++) {
            that("item " + item, p.isTaken(item), want[item]);
        }
        BackupPlanner last = planner("disk 1; repeat 13 (item 2 1;); item 1 1;");
        that("the 14th", last.isTaken(13), true);
        that("the 13th", last.isTaken(12), false);
    }

    private static void planContains() {
        BackupPlanner p = withoutPlan();
        for (int item = 0; item < 3; item++) {
            that("no plan, item " + item, p.isTaken(item), false);
        }
        p.setCapacity(6);
        that("a pinned one", p.isTaken(0), true);
        that("one that does not fit", p.isTaken(1), false);
        that("an excluded one", p.isTaken(2), false);
        p.setCapacity(8);
        that("one that just fits", p.isTaken(1), true);
        that("in an empty plan", planner("disk 0; item 1 1;").isTaken(0), false);
    }

    // ---- promise 39

    private static void optimalPlans() {
        place("Promise 39: optimalPlans");
        holds("Returns the number of plans with the weight of the best plan", PlanSentences::numberOfPlans);
        holds("0 if there is no plan.", () -> noneWithoutPlan(p -> p.optimalPlans(), 0));
    }

    private static void numberOfPlans() {
        answers(p -> p.optimalPlans(), 1, 1, 1, 1, 1);
        that("the same size", planner("disk 6; item 3 5; item 3 5; item 3 5;").optimalPlans(), 3);
        that("different sizes", planner("disk 9; item 8 10; item 3 5; item 4 5;").optimalPlans(), 2);
        that("one as great as the disk, one less", planner("disk 9; item 9 7; item 8 7; item 10 7;").optimalPlans(), 2);
        that("items without weight", planner("disk 9; item 1 0; item 2 0; item 3 1;").optimalPlans(), 4);
        that("those without weight that fit", planner("disk 5; item 1 0; item 2 0; item 3 1;").optimalPlans(), 3);
        that("of weight 0", planner("disk 0; item 1 0;").optimalPlans(), 1);
        that("all sets", planner("disk 14; repeat 14 (item 1 0;);").optimalPlans(), 16384);
        that("on the greatest disk, full", planner("disk 100; item 60 1; item 40 1; item 40 1;").optimalPlans(), 3);
        that("on the greatest disk, not full", planner("disk 100; item 60 1; item 41 1;").optimalPlans(), 2);
        that("all sets on the greatest disk", planner("disk 100; repeat 14 (item 1 0;);").optimalPlans(), 16384);
        that("all sets but one", planner("disk 13; repeat 14 (item 1 0;);").optimalPlans(), 16383);
        that("halves of 14", planner("disk 7; repeat 14 (item 1 1;);").optimalPlans(), 3432);
        that("a pinned and an excluded one", planner("disk 14; repeat 14 (item 1 0;); pin 3; exclude 4;").optimalPlans(), 4096);
    }

    // ---- promises 40 and 41

    private static void otherCapacities() {
        place("Promise 40: weightAt");
        holds("Returns the weight of the best plan for another capacity.", PlanSentences::weightAt);
        holds("- `capacity`: 0 to 100", () -> accepts((p, capacity) -> p.weightAt(capacity), 0, 1, 99, 100));
        holds("Returns the weight, or NONE if there is no plan.", () -> noneBelow6((p, capacity) -> p.weightAt(capacity), 7, 10));
        holds("Throws `IllegalArgumentException` if `capacity` is out of range",
                () -> refusesBeyond(0, 100, ARGUMENT, (p, capacity) -> p.weightAt(capacity)));
        place("Promise 41: planAt");
        holds("Returns the best plan for another capacity.", PlanSentences::planAt);
        holds("- `capacity`: 0 to 100", () -> accepts((p, capacity) -> p.planAt(capacity), 0, 1, 99, 100));
        holds("Returns the plan, or NONE if there is no plan.", () -> noneBelow6((p, capacity) -> p.planAt(capacity), 1, 3));
        holds("Throws `IllegalArgumentException` if `capacity` is out of range",
                () -> refusesBeyond(0, 100, ARGUMENT, (p, capacity) -> p.planAt(capacity)));
    }

    private static void weightAt() {
        BackupPlanner p = planner("disk 0; item 60 5; item 40 7;");
        int[] capacities = {0, 39, 40, 59, 60, 99, 100};
        int[] want = {0, 0, 7, 7, 7, 7, 12};
        for (int i = 0; i < want.length; i++) {
            that("at " + capacities[i], p.weightAt(capacities[i]), want[i]);
        }
        that("the capacity stays", p.capacity() + " " + p.undoCount() + " " + p.bestWeight(), "0 1 0");
        that("the present one", new BackupPlanner().weightAt(20), 74);
    }

    private static void planAt() {
        BackupPlanner p = planner("disk 0; item 60 8; item 40 7; item 40 7;");
        int[] capacities = {0, 39, 40, 59, 60, 79, 80, 99, 100};
        int[] want = {0, 0, 2, 2, 1, 1, 6, 6, 3};
        for (int i = 0; i < want.length; i++) {
            that("at " + capacities[i], p.planAt(capacities[i]), want[i]);
        }
        that("the capacity stays", p.capacity() + " " + p.undoCount() + " " + p.bestPlan(), "0 1 0");
        that("the present one", new BackupPlanner().planAt(20), 35);
    }

    private static void noneBelow6(NumberCall call, int at6, int at8) {
        BackupPlanner p = withoutPlan();
        that("0", call.on(p, 0), -1);
        that("5, 1 too small", call.on(p, 5), -1);
        that("6, just enough", call.on(p, 6), at6);
        that("8", call.on(p, 8), at8);
        p.setCapacity(100);
        that("5 though there is a plan now", call.on(p, 5), -1);
        BackupPlanner full = planner("disk 100; item 60 1; item 41 1; pin 0; pin 1;");
        that("100, 1 too small", call.on(full, 100), -1);
    }

    // ---- promise 42

    private static void capacityFor() {
        place("Promise 42: capacityFor");
        holds("Returns the smallest capacity with which the best plan has at least a weight.", PlanSentences::smallestCapacity);
        holds("- `weight`: any number", PlanSentences::anyWeight);
        holds("Returns the capacity, or NONE if 100 does not suffice.", PlanSentences::noCapacity);
    }

    private static void smallestCapacity() {
        BackupPlanner p = planner("disk 50; item 4 5; item 6 7;");
        int[] weights = {1, 5, 6, 7, 8, 12};
        int[] want = {4, 4, 6, 6, 10, 10};
        for (int i = 0; i < want.length; i++) {
            that("for " + weights[i], p.capacityFor(weights[i]), want[i]);
        }
        p.setCapacity(0);
        that("whatever the present one", p.capacityFor(12), 10);
        p.pin(1);
        that("with a pinned one", p.capacityFor(1) + " " + p.capacityFor(8), "6 10");
    }

    private static void anyWeight() {
        BackupPlanner p = planner("disk 50; item 4 5;");
        for (int weight : new int[] {0, -1, -2, -9990, Integer.MIN_VALUE}) {
            that("for " + weight + ", nothing pinned", p.capacityFor(weight), 0);
        }
        p.pin(0);
        for (int weight : new int[] {5, 0, -1, -2, -9990, Integer.MIN_VALUE}) {
            that("for " + weight + ": a plan is needed", p.capacityFor(weight), 4);
        }
        for (int weight : new int[] {6, 9990, Integer.MAX_VALUE}) {
            that("for " + weight, p.capacityFor(weight), -1);
        }
        that("for 0, no items", empty().capacityFor(0), 0);
        that("for 1, no items", empty().capacityFor(1), -1);
    }

    private static void noCapacity() {
        BackupPlanner p = planner("disk 0; item 60 5; item 40 7; item 1 1;");
        that("100 just suffices", p.capacityFor(12), 100);
        that("1 more", p.capacityFor(13), -1);
        p.setSize(1, 41);
        that("101 would be needed", p.capacityFor(12), -1);
        p.pin(0);
        p.pin(1);
        that("no plan up to 100", p.capacityFor(0) + " " + p.capacityFor(-1) + " " + p.capacityFor(Integer.MIN_VALUE), "-1 -1 -1");
    }

    // ---- promises 43 and 44

    private static void steps() {
        place("Promise 43: steps");
        holds("Returns the number of capacities from 1 to 100", PlanSentences::stepsFrom1To100);
        holds("for which the weight of the best plan is greater than for the capacity that is 1 less", PlanSentences::stepsAreGreater);
        holds("(no plan counts as a smaller weight than any)", PlanSentences::stepToAPlan);
    }

    private static void stepsFrom1To100() {
        that("at 1", planner("disk 0; item 1 1;").steps(), 1);
        that("at 100", planner("disk 0; item 60 1; item 40 1; pin 0; pin 1;").steps(), 1);
        that("not at 101", planner("disk 0; item 60 1; item 41 1; pin 0; pin 1;").steps(), 0);
        that("not at 0", planner("disk 0; item 1 0;").steps(), 0);
        that("no items", empty().steps(), 0);
        BackupPlanner each = planner("disk 0; item 1 1; item 2 2; item 4 4; item 8 8; item 16 16; item 32 32; item 37 37;");
        that("all 100", each.steps(), 100);
        each.setCapacity(100);
        that("all 100, whatever the present capacity", each.steps(), 100);
    }

    private static void stepsAreGreater() {
        that("two items, both and each", planner("disk 0; item 4 5; item 6 7;").steps(), 3);
        that("the smaller one is the heavier", planner("disk 0; item 4 7; item 6 7;").steps(), 2);
        that("new object", new BackupPlanner().steps(), 13);
        that("excluded ones give none", planner("disk 0; item 4 5; exclude 0;").steps(), 0);
    }

    private static void stepToAPlan() {
        that("to a plan without weight", planner("disk 0; item 4 0; pin 0;").steps(), 1);
        that("to a plan, and one more", planner("disk 0; item 4 0; item 1 1; pin 0;").steps(), 2);
        that("never a plan", planner("disk 0; item 60 9; item 60 9; pin 0; pin 1;").steps(), 0);
    }

    private static void nextStep() {
        place("Promise 44: nextStep");
        holds("Returns the smallest capacity, greater than the present one", PlanSentences::nextIsGreater);
        holds("for which the weight of the best plan is greater than for the present one", PlanSentences::nextIsHeavier);
        holds("NONE if there is none up to 100.", PlanSentences::noNext);
    }

    private static void nextIsGreater() {
        BackupPlanner p = planner("disk 0; item 1 1; item 2 1; item 3 9;");
        int[] want = {1, 3, 3, 4, 6, 6};
        for (int capacity = 0; capacity < want.length; capacity++) {
            p.setCapacity(capacity);
            that("behind " + capacity, p.nextStep(), want[capacity]);
        }
    }

    private static void nextIsHeavier() {
        BackupPlanner p = planner("disk 5; item 5 5; item 6 5; item 7 6;");
        that("not by the same weight", p.nextStep(), 7);
        p.exclude(2);
        that("by both", p.nextStep(), 11);
        BackupPlanner light = planner("disk 3; item 4 0; pin 0;");
        that("from no plan to one without weight", light.nextStep(), 4);
        light.setCapacity(0);
        that("from no plan at 0", light.nextStep(), 4);
        light.setCapacity(4);
        that("a plan without weight has no next", light.nextStep(), -1);
    }

    private static void noNext() {
        BackupPlanner p = planner("disk 99; item 60 5; item 40 7;");
        that("100", p.nextStep(), 100);
        p.setCapacity(100);
        that("at 100", p.nextStep(), -1);
        p.setCapacity(99);
        p.setSize(1, 41);
        that("101 is none", p.nextStep(), -1);
        p.pin(0);
        p.pin(1);
        that("no plan up to 100", p.nextStep(), -1);
        that("no items", empty().nextStep(), -1);
        that("all taken", full().nextStep(), -1);
    }

    // ---- promises 45 to 47

    private static void freeCount() {
        place("Promise 45: freeCount");
        holds("Returns the number of free items.", PlanSentences::numberOfFree);
    }

    private static void numberOfFree() {
        that("no items", empty().freeCount(), 0);
        that("new object", new BackupPlanner().freeCount(), 4);
        BackupPlanner p = full();
        that("14", p.freeCount(), 14);
        p.pin(0);
        p.exclude(13);
        that("12", p.freeCount(), 12);
        p.removeItem(0);
        that("a pinned one less", p.freeCount(), 12);
        p.removeItem(0);
        that("a free one less", p.freeCount(), 11);
        p.setCapacity(98);
        p.pinBest();
        that("none", p.freeCount(), 0);
        that("no plan", withoutPlan().freeCount(), 1);
    }

    private static void cell() {
        place("Promise 46: cell");
        holds("Returns a cell of the table.", PlanSentences::cells);
        holds("- `row`: 0 to freeCount()", () -> accepts((p, row) -> p.cell(row, 50), 0, 1, 3, 4));
        holds("- `column`: 0 to 100", () -> accepts((p, column) -> p.cell(4, column), 0, 1, 99, 100));
        holds("Returns the weight in the cell.", PlanSentences::cellWeights);
        holds("Throws `IndexOutOfBoundsException` if `row`", () -> refusesBeyond(0, 4, INDEX, (p, row) -> p.cell(row, 50)));
        holds("or `column` is out of range", () -> refusesBeyond(0, 100, INDEX, (p, column) -> p.cell(4, column)));
        holds("Throws `IndexOutOfBoundsException` if `row` or `column` is out of range", () -> {
            refused("both", INDEX, Check::worn, p -> p.cell(5, 101));
            refused("row 1 of no free item", INDEX, Sentences::empty, p -> p.cell(1, 0));
            refused("row 15 of 14 free items", INDEX, Sentences::full, p -> p.cell(15, 100));
            refused("row 2 of one free item, without a plan", INDEX, Sentences::withoutPlan, p -> p.cell(2, 0));
        });
    }

    private static void cells() {
        BackupPlanner p = new BackupPlanner();
        that("the first corner", p.cell(0, 0), 0);
        that("the last of the row 0", p.cell(0, 100), 0);
        that("the first of the last row", p.cell(4, 0), 0);
        that("the last corner", p.cell(4, 100), 134);
        that("row 0 of no items", empty().cell(0, 100), 0);
        that("without a plan", withoutPlan().cell(1, 2), 3);
    }

    private static void cellWeights() {
        BackupPlanner p = new BackupPlanner();
        int[] columns = {6, 7, 8, 9, 15, 16, 17};
        int[] first = {0, 30, 30, 30, 30, 30, 30};
        int[] second = {0, 30, 30, 42, 42, 72, 72};
        for (int i = 0; i < columns.length; i++) {
            that("row 1, column " + columns[i], p.cell(1, columns[i]), first[i]);
            that("row 2, column " + columns[i], p.cell(2, columns[i]), second[i]);
        }
        p.runBackup();
        that("by age", p.cell(4, 100), 30 + 42 + 24 + 100);
    }

    private static void isRaised() {
        place("Promise 47: isRaised");
        holds("Tells whether the best set of a cell uses the latest of its items.", PlanSentences::raised);
        holds("- `row`: 1 to freeCount()", () -> accepts((p, row) -> p.isRaised(row, 50), 1, 2, 3, 4));
        holds("- `column`: 0 to 100", () -> accepts((p, column) -> p.isRaised(4, column), 0, 1, 99, 100));
        holds("Returns whether the cell is greater than the cell above it (of the row that is 1 less).", PlanSentences::greaterThanAbove);
        holds("Throws `IndexOutOfBoundsException` if `row`", () -> refusesBeyond(1, 4, INDEX, (p, row) -> p.isRaised(row, 50)));
        holds("or `column` is out of range", () -> refusesBeyond(0, 100, INDEX, (p, column) -> p.isRaised(4, column)));
        holds("Throws `IndexOutOfBoundsException` if `row` or `column` is out of range", () -> {
            refused("row 0", INDEX, Check::worn, p -> p.isRaised(0, 50));
            refused("both", INDEX, Check::worn, p -> p.isRaised(0, 101));
            refused("row 0 of no free item", INDEX, Sentences::empty, p -> p.isRaised(0, 0));
            refused("row 1 of no free item", INDEX, Sentences::empty, p -> p.isRaised(1, 0));
            refused("row 15 of 14 free items", INDEX, Sentences::full, p -> p.isRaised(15, 100));
        });
    }

    private static void raised() {
        BackupPlanner p = new BackupPlanner();
        that("the first item is too great", p.isRaised(1, 6), false);
        that("the first item just fits", p.isRaised(1, 7), true);
        that("in place of the first", p.isRaised(2, 9), true);
        that("beside the first", p.isRaised(2, 16), true);
        that("the last item of all", p.isRaised(4, 100), true);
        that("the 14th", full().isRaised(14, 98), true);
        that("the 14th without room", full().isRaised(14, 97), false);
    }

    private static void greaterThanAbove() {
        BackupPlanner p = planner("disk 1; item 5 5; item 5 5; item 4 5; item 1 0; item 5 6;");
        that("as great as above", p.isRaised(2, 5), false);
        that("as great as above with less size", p.isRaised(3, 5), false);
        that("a greater cell of the column before is not above", p.isRaised(3, 4), true);
        that("no weight", p.isRaised(4, 100), false);
        that("1 greater", p.isRaised(5, 5), true);
        that("column 0", p.isRaised(5, 0), false);
    }

    private PlanSentences() {
    }
}
