/** Promises 33 to 47: the best plan and the table. */
final class PlanTests {
    private static final String OVERFULL = "disk 5; item 6 7; item 2 3; pin 0;";

    static void all() {
        newObject();
        noPlan();
        noItems();
        ties();
        isTaken();
        optimalPlans();
        otherCapacities();
        capacityFor();
        stepsAndNextStep();
        table();
        isRaised();
    }

    private static void newObject() {
        BackupPlanner p = new BackupPlanner();
        Check.that("33 new", p.hasPlan(), true);
        Check.that("34 new", p.bestWeight(), 74);
        Check.that("35 new", p.bestPlan(), 35);
        Check.that("36 new", p.bestSize(), 19);
        Check.that("37 new", p.slack(), 1);
        Check.that("39 new", p.optimalPlans(), 1);
        p.setCapacity(19);
        Check.that("37 none left", p.slack(), 0);
        p.setCapacity(18);
        Check.that("35 smaller", p.bestPlan(), 38);
    }

    private static void noPlan() {
        BackupPlanner p = Check.planner(OVERFULL);
        Check.that("33 no plan", p.hasPlan(), false);
        Check.that("34 no plan", p.bestWeight(), -1);
        Check.that("35 no plan", p.bestPlan(), -1);
        Check.that("36 no plan", p.bestSize(), -1);
        Check.that("37 no plan", p.slack(), -1);
        Check.that("38 no plan", p.isTaken(0) || p.isTaken(1), false);
        Check.that("39 no plan", p.optimalPlans(), 0);
        p.setCapacity(6);
        Check.that("33 just a plan", p.hasPlan(), true);
        Check.that("34 just a plan", p.bestWeight(), 7);
        Check.that("35 just a plan", p.bestPlan(), 1);
        Check.that("36 just a plan", p.bestSize(), 6);
        Check.that("37 just a plan", p.slack(), 0);
        Check.that("39 just a plan", p.optimalPlans(), 1);
        BackupPlanner full = Check.planner("disk 100; repeat 14 (item 60 1;);");
        for (int i = 0; i < 14; i++) {
            full.pin(i);
        }
        Check.that("33 all pinned", full.hasPlan(), false);
        Check.that("34 all pinned", full.bestWeight(), -1);
    }

    private static void noItems() {
        BackupPlanner p = Check.planner("disk 0;");
        Check.that("33 no items", p.hasPlan(), true);
        Check.that("34 no items", p.bestWeight(), 0);
        Check.that("35 no items", p.bestPlan(), 0);
        Check.that("36 no items", p.bestSize(), 0);
        Check.that("37 no items", p.slack(), 0);
        Check.that("39 no items", p.optimalPlans(), 1);
        Check.that("45 no items", p.freeCount(), 0);
        Check.that("43 no items", p.steps(), 0);
        Check.that("44 no items", p.nextStep(), -1);
    }

    private static void ties() {
        plan("35 smaller size", "disk 9; item 6 7; item 5 7; item 9 7;", 2, 7, 5);
        plan("35 smaller size of two", "disk 9; item 8 10; item 3 5; item 4 5;", 6, 10, 7);
        plan("35 smaller number", "disk 6; item 3 5; item 3 5; item 3 5;", 3, 10, 6);
        plan("35 smaller number, not fewer items", "disk 6; item 2 2; item 4 4; item 6 6;", 3, 6, 6);
        plan("35 smaller number, fewer items", "disk 6; item 6 6; item 2 2; item 4 4;", 1, 6, 6);
        plan("35 no weight is left out", "disk 9; item 1 0; item 2 0; item 3 1;", 4, 1, 3);
        plan("35 pinned without weight", "disk 9; item 1 0; item 2 3; pin 0;", 3, 3, 3);
        plan("35 excluded", "disk 9; item 1 9; item 2 3; exclude 0;", 2, 3, 2);
        plan("35 greedy is not best", "disk 10; item 6 60; item 5 45; item 5 45;", 6, 90, 10);
        plan("35 ages count", "disk 5; item 5 10; item 5 9; backup 1;", 2, 18, 5);
        plan("35 greatest", "disk 100; repeat 14 (item 7 999;); capacity 0; backup 10; capacity 100;", 16383, 139860, 98);
    }

    private static void plan(String what, String script, int set, int weight, int size) {
        BackupPlanner p = Check.planner(script);
        Check.that(what, p.bestPlan(), set);
        Check.that("34 " + what, p.bestWeight(), weight);
        Check.that("36 " + what, p.bestSize(), size);
        Check.that("37 " + what, p.slack(), p.capacity() - size);
        Check.that("62 " + what, p.violations(), 0);
    }

    private static void isTaken() {
        BackupPlanner p = new BackupPlanner();
        for (int i = 0; i < 6; i++) {
            Check.that("38 item " + i, p.isTaken(i), i == 0 || i == 1 || i == 5);
        }
        for (int item : new int[] {-1, 6, 14, 32, Integer.MIN_VALUE, Integer.MAX_VALUE}) {
            Check.index("38 item " + item, () -> p.isTaken(item));
        }
        p.setCapacity(2);
        Check.that("38 without a plan", p.isTaken(5), false);
        Check.index("38 without a plan", () -> p.isTaken(6));
    }

    private static void optimalPlans() {
        Check.that("39 equals", Check.planner("disk 6; item 3 5; item 3 5; item 3 5;").optimalPlans(), 3);
        Check.that("39 different sizes", Check.planner("disk 9; item 8 10; item 3 5; item 4 5;").optimalPlans(), 2);
        Check.that("39 one of three", Check.planner("disk 9; item 9 7; item 8 7; item 7 7;").optimalPlans(), 3);
        Check.that("39 without weight", Check.planner("disk 9; item 1 0; item 2 0; item 3 1;").optimalPlans(), 4);
        Check.that("39 without weight, too great", Check.planner("disk 5; item 1 0; item 2 0; item 3 1;").optimalPlans(), 3);
        Check.that("39 all", Check.planner("disk 14; repeat 14 (item 1 0;);").optimalPlans(), 16384);
        Check.that("39 half", Check.planner("disk 7; repeat 14 (item 1 1;);").optimalPlans(), 3432);
        Check.that("39 excluded", Check.planner("disk 14; repeat 14 (item 1 0;); exclude 3;").optimalPlans(), 8192);
        Check.that("39 pinned", Check.planner("disk 14; repeat 14 (item 1 0;); pin 3;").optimalPlans(), 8192);
    }

    private static void otherCapacities() {
        BackupPlanner p = new BackupPlanner();
        Check.that("40 2", p.weightAt(2), -1);
        Check.that("41 2", p.planAt(2), -1);
        Check.that("40 3", p.weightAt(3), 2);
        Check.that("41 3", p.planAt(3), 32);
        Check.that("40 10", p.weightAt(10), 32);
        Check.that("41 10", p.planAt(10), 33);
        Check.that("40 100", p.weightAt(100), 136);
        Check.that("41 100", p.planAt(100), 47);
        Check.that("40 0", p.weightAt(0), -1);
        Check.that("40 no change", p.capacity() * 10 + p.undoCount(), 200);
        for (int capacity : new int[] {-1, 101, Integer.MIN_VALUE, Integer.MAX_VALUE}) {
            Check.argument("40 " + capacity, () -> p.weightAt(capacity));
            Check.argument("41 " + capacity, () -> p.planAt(capacity));
        }
        p.release(5);
        Check.that("40 0 with a plan", p.weightAt(0), 0);
        Check.that("41 0 with a plan", p.planAt(0), 0);
    }

    private static void capacityFor() {
        BackupPlanner p = new BackupPlanner();
        Check.that("42 74", p.capacityFor(74), 19);
        Check.that("42 75", p.capacityFor(75), 22);
        Check.that("42 136", p.capacityFor(136), 35);
        Check.that("42 137", p.capacityFor(137), -1);
        Check.that("42 greatest", p.capacityFor(Integer.MAX_VALUE), -1);
        Check.that("42 2", p.capacityFor(2), 3);
        Check.that("42 0", p.capacityFor(0), 3);
        Check.that("42 -1", p.capacityFor(-1), 3);
        Check.that("42 smallest", p.capacityFor(Integer.MIN_VALUE), 3);
        p.setCapacity(0);
        Check.that("42 not of the present capacity", p.capacityFor(74), 19);
        BackupPlanner full = Check.planner("disk 1; repeat 2 (item 51 1;); pin 0; pin 1;");
        Check.that("42 no plan up to 100", full.capacityFor(-5), -1);
        Check.that("42 no items", Check.planner("disk 1;").capacityFor(0), 0);
    }

    private static void stepsAndNextStep() {
        BackupPlanner p = new BackupPlanner();
        Check.that("43 new", p.steps(), 13);
        Check.that("44 new", p.nextStep(), 22);
        p.setCapacity(35);
        Check.that("44 at the end", p.nextStep(), -1);
        p.setCapacity(34);
        Check.that("44 before the end", p.nextStep(), 35);
        p.setCapacity(100);
        Check.that("44 at 100", p.nextStep(), -1);
        p.setCapacity(0);
        Check.that("44 without a plan", p.nextStep(), 3);
        Check.that("43 does not depend on the capacity", p.steps(), 13);
        BackupPlanner light = Check.planner("disk 0; item 4 0; pin 0;");
        Check.that("43 a plan counts though without weight", light.steps(), 1);
        Check.that("44 a plan counts though without weight", light.nextStep(), 4);
        BackupPlanner full = Check.planner("disk 0; item 60 1; item 40 1; pin 0; pin 1;");
        Check.that("43 at 100", full.steps(), 1);
        Check.that("44 to 100", full.nextStep(), 100);
        full.setSize(1, 41);
        Check.that("43 never", full.steps(), 0);
        Check.that("44 never", full.nextStep(), -1);
        Check.that("43 the first capacity", Check.planner("disk 9; item 1 1;").steps(), 1);
    }

    private static void table() {
        BackupPlanner p = new BackupPlanner();
        Check.that("45 new", p.freeCount(), 4);
        p.release(4);
        Check.that("45 released", p.freeCount(), 5);
        p.undo();
        Check.that("46 row 0", p.cell(0, 100), 0);
        Check.that("46 too small", p.cell(1, 6), 0);
        Check.that("46 first", p.cell(1, 7), 30);
        Check.that("46 first at 100", p.cell(1, 100), 30);
        Check.that("46 two", p.cell(2, 16), 72);
        Check.that("46 two less", p.cell(2, 15), 42);
        Check.that("46 last", p.cell(4, 17), 72);
        Check.that("46 all", p.cell(4, 100), 134);
        Check.that("46 column 0", p.cell(4, 0), 0);
        p.exclude(0);
        Check.that("46 numbered anew", p.cell(1, 9), 42);
        Check.index("46 row behind", () -> p.cell(4, 0));
        p.undo();
        wrongCells(p);
        BackupPlanner over = Check.planner(OVERFULL);
        Check.that("46 without a plan", over.cell(1, 100), 3);
        Check.that("45 without a plan", over.freeCount(), 1);
        Check.that("46 no items", Check.planner("disk 0;").cell(0, 100), 0);
    }

    private static void wrongCells(BackupPlanner p) {
        for (int row : new int[] {-1, 5, 15, Integer.MIN_VALUE, Integer.MAX_VALUE}) {
            Check.index("46 row " + row, () -> p.cell(row, 0));
            Check.index("47 row " + row, () -> p.isRaised(row, 0));
        }
        for (int column : new int[] {-1, 101, Integer.MIN_VALUE, Integer.MAX_VALUE}) {
            Check.index("46 column " + column, () -> p.cell(1, column));
            Check.index("47 column " + column, () -> p.isRaised(1, column));
        }
        Check.index("47 row 0", () -> p.isRaised(0, 5));
        Check.that("46 row 0", Check.answer(() -> p.cell(0, 5)), "0");
        Check.that("47 corner", Check.answer(() -> p.isRaised(4, 100)), "true");
    }

    private static void isRaised() {
        BackupPlanner p = new BackupPlanner();
        Check.that("47 too small", p.isRaised(1, 6), false);
        Check.that("47 first", p.isRaised(1, 7), true);
        Check.that("47 better", p.isRaised(2, 9), true);
        Check.that("47 not better", p.isRaised(3, 16), false);
        Check.that("47 last", p.isRaised(4, 100), true);
        BackupPlanner equal = Check.planner("disk 1; item 5 5; item 5 5; item 4 5; item 1 0;");
        Check.that("47 equal", equal.isRaised(2, 5), false);
        Check.that("47 equal of less size", equal.isRaised(3, 5), false);
        Check.that("47 no weight", equal.isRaised(4, 100), false);
    }

    private PlanTests() {
    }
}
