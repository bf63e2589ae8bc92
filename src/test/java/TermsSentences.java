/** The sentences of "Terms", but for those about scripts. */
final class TermsSentences extends Sentences {
    static void all() {
        place("Terms");
        items();
        plans();
        table();
        greedyPlan();
        bound();
        backups();
        undo();
        refusedCalls();
        constants();
    }

    // ---- items

    private static void items() {
        holds("At most 14 items are there at a time", TermsSentences::atMost14Items);
        holds("they are numbered from 0", TermsSentences::numberedFrom0);
        holds("An item has a size (1 to 60)", TermsSentences::sizes);
        holds("a value (0 to 999)", TermsSentences::values);
        holds("an age (0 to 9, 0 at first)", TermsSentences::ages);
        holds("a state: FREE (at first), PINNED or EXCLUDED", TermsSentences::states);
        holds("Its weight is the value times (1 plus the age).", TermsSentences::weights);
        holds("Sets of items are returned as the sum of 2 to the power of their numbers.", TermsSentences::sets);
        holds("The weight and the size of a set are the sums of those of its items.", TermsSentences::sums);
    }

    private static void atMost14Items() {
        BackupPlanner p = empty();
        for (int i = 0; i < 14; i++) {
            p.addItem(1, 1);
        }
        that("14", p.itemCount(), 14);
        that("no 15th", p.addItem(1, 1), -2);
        that("still 14", p.itemCount(), 14);
        p.removeItem(0);
        that("at a time: again one", p.addItem(1, 1), 13);
        that("14 by a script", full().itemCount(), 14);
        error("no 15th by a script", "disk 1;repeat 15(item 1 1;);", 3, 25);
    }

    private static void numberedFrom0() {
        BackupPlanner p = empty();
        that("first", p.addItem(3, 30), 0);
        that("second", p.addItem(4, 40), 1);
        that("sizes", p.size(0) * 10 + p.size(1), 34);
        that("not from 1", Check.answer(() -> p.size(2)), INDEX);
    }

    private static void sizes() {
        BackupPlanner p = empty();
        p.addItem(1, 1);
        p.addItem(60, 1);
        that("bounds", all(p), "0 0 0 0: 1,1,0,0 60,1,0,0");
        Check.argument("0", () -> p.addItem(0, 1));
        Check.argument("61", () -> p.addItem(61, 1));
        Check.argument("0 for an item", () -> p.setSize(0, 0));
        Check.argument("61 for an item", () -> p.setSize(0, 61));
        error("0 by a script", "disk 1; item 0 1;", 2, 13);
        error("61 by a script", "disk 1; item 61 1;", 2, 13);
        script("bounds by a script", "disk 1; item 1 1; item 60 1; size 0 60; size 1 1;", "1 0 0 0: 60,1,0,0 1,1,0,0");
    }

    private static void values() {
        BackupPlanner p = empty();
        p.addItem(1, 0);
        p.addItem(1, 999);
        that("bounds", all(p), "0 0 0 0: 1,0,0,0 1,999,0,0");
        Check.argument("-1", () -> p.addItem(1, -1));
        Check.argument("1000", () -> p.addItem(1, 1000));
        Check.argument("-1 for an item", () -> p.setValue(0, -1));
        Check.argument("1000 for an item", () -> p.setValue(0, 1000));
        error("1000 by a script", "disk 1; item 1 1000;", 2, 15);
        script("bounds by a script", "disk 1; item 1 0; item 1 999; value 0 999; value 1 0;", "1 0 0 0: 1,999,0,0 1,0,0,0");
    }

    private static void ages() {
        BackupPlanner p = planner("disk 0; item 1 1;");
        that("at first", p.age(0), 0);
        for (int age = 1; age <= 9; age++) {
            p.runBackup();
            that("behind backup " + age, p.age(0), age);
        }
        p.runBackup();
        that("not above 9", p.age(0), 9);
        p.addItem(1, 1);
        that("at first, behind an old one", p.age(1), 0);
        p.removeItem(0);
        p.removeItem(0);
        p.addItem(1, 1);
        that("at first, in the place of an old one", p.age(0), 0);
    }

    private static void states() {
        BackupPlanner p = empty();
        p.addItem(1, 1);
        that("at first", p.state(0), 0);
        p.pin(0);
        that("pinned", p.state(0), 1);
        p.exclude(0);
        that("excluded", p.state(0), 2);
        p.removeItem(0);
        p.addItem(1, 1);
        that("at first, in the place of an excluded one", p.state(0), 0);
        script("at first by a script", "disk 1; item 1 1; exclude 0; remove 0; item 1 1;", "1 0 0 0: 1,1,0,0");
    }

    private static void weights() {
        BackupPlanner p = planner("disk 0; item 1 999; item 1 0; item 1 1;");
        that("age 0", p.weight(0), 999);
        that("value 0, age 0", p.weight(1), 0);
        p.runBackup();
        that("age 1", p.weight(0), 1998);
        p.runBackups(8);
        that("greatest", p.weight(0), 9990);
        that("value 0, age 9", p.weight(1), 0);
        that("value 1, age 9", p.weight(2), 10);
    }

    private static void sets() {
        BackupPlanner p = empty();
        that("empty set", p.pinnedItems() + p.bestPlan() + p.greedyPlan() + p.runBackup() + p.neglected(1), 0);
        BackupPlanner full = full();
        that("all", full.bestPlan(), 16383);
        that("all greedy", full.greedyPlan(), 16383);
        for (int i = 0; i < 13; i++) {
            full.removeItem(0);
            full.addItem(60, 0);
        }
        full.exclude(0);
        that("items 0 of 14", full.bestPlan(), 0);
        full.release(0);
        that("the first alone", full.bestPlan(), 1);
        BackupPlanner last = planner("disk 1; repeat 13 (item 2 1;); item 1 1;");
        that("the last alone", last.bestPlan(), 8192);
        that("all but the last", last.neglected(50), 8191);
    }

    private static void sums() {
        BackupPlanner p = empty();
        that("of the empty set", p.pinnedSize() + p.bestWeight() + p.bestSize() + p.greedyWeight(), 0);
        BackupPlanner full = full();
        that("size of all", full.bestSize(), 98);
        that("weight of all", full.bestWeight(), 13986);
        full.setCapacity(0);
        full.runBackups(9);
        full.setCapacity(98);
        that("greatest weight", full.bestWeight(), 139860);
        for (int i = 0; i < 14; i++) {
            full.setSize(i, 60);
            full.pin(i);
        }
        that("greatest size", full.pinnedSize(), 840);
    }

    // ---- plans

    private static void plans() {
        holds("The disk has a capacity from 0 to 100.", TermsSentences::capacities);
        holds("a set of items that contains all pinned items", TermsSentences::allPinned);
        holds("and no excluded one", TermsSentences::noExcluded);
        holds("whose size is at most the capacity", TermsSentences::atMostTheCapacity);
        holds("The best plan is the plan with the greatest weight", TermsSentences::greatestWeight);
        holds("of several the one with the smallest size", TermsSentences::smallestSize);
        holds("of several of these the one that is smallest as a number", TermsSentences::smallestNumber);
        holds("There is no plan if the pinned items alone are greater than the capacity.", TermsSentences::noPlan);
    }

    private static void capacities() {
        BackupPlanner p = new BackupPlanner();
        p.setCapacity(0);
        that("0", p.capacity(), 0);
        p.setCapacity(100);
        that("100", p.capacity(), 100);
        Check.argument("-1", () -> p.setCapacity(-1));
        Check.argument("101", () -> p.setCapacity(101));
        script("0 by a script", "disk 0;", "0 0 0 0:");
        script("100 by a script", "disk 100; capacity 0; capacity 100;", "100 0 0 0:");
        error("101 by a script", "disk 101;", 2, 5);
        error("101 later", "disk 1; capacity 101;", 2, 17);
    }

    private static void allPinned() {
        BackupPlanner p = planner("disk 3; item 1 0; item 2 0; item 1 9; item 2 9; pin 0; pin 1;");
        that("pinned ones without weight", p.bestPlan(), 3);
        p.setCapacity(4);
        that("and what still fits", p.bestPlan(), 7);
    }

    private static void noExcluded() {
        BackupPlanner p = planner("disk 9; item 1 999; item 2 3; item 1 5; exclude 0;");
        that("not the heaviest", p.bestPlan(), 6);
        p.exclude(1);
        p.exclude(2);
        that("nothing", p.bestPlan(), 0);
        that("all sets but those", p.optimalPlans(), 1);
    }

    private static void atMostTheCapacity() {
        BackupPlanner p = planner("disk 10; item 4 5; item 6 7;");
        that("just the capacity", p.bestPlan(), 3);
        p.setCapacity(9);
        that("1 too great", p.bestPlan(), 2);
        p.setCapacity(5);
        that("the lighter one", p.bestPlan(), 1);
        p.setCapacity(3);
        that("none fits", p.bestPlan(), 0);
        p.pin(0);
        p.setCapacity(10);
        that("just the capacity with a pinned one", p.bestPlan(), 3);
        p.setCapacity(9);
        that("1 too great with a pinned one", p.bestPlan(), 1);
        that("100", planner("disk 100; item 60 1; item 40 1;").bestPlan(), 3);
        that("101", planner("disk 100; item 60 1; item 41 1;").bestPlan(), 2);
    }

    private static void greatestWeight() {
        that("not the most items", planner("disk 6; item 2 3; item 2 3; item 2 3; item 6 10;").bestPlan(), 8);
        that("not the densest", planner("disk 6; item 1 5; item 6 6;").bestPlan(), 2);
        that("by 1 greater, though greater in size", planner("disk 60; item 1 998; item 60 999;").bestPlan(), 2);
        that("by age", planner("disk 5; item 5 10; item 5 9; backup 1;").bestPlan(), 2);
    }

    private static void smallestSize() {
        that("second smaller", planner("disk 60; item 60 7; item 59 7;").bestPlan(), 2);
        that("first smaller", planner("disk 60; item 59 7; item 60 7;").bestPlan(), 1);
        that("two smaller than one", planner("disk 9; item 8 10; item 3 5; item 4 5;").bestPlan(), 6);
        that("the greater number", planner("disk 9; item 9 10; item 9 10; item 9 10; item 8 10;").bestPlan(), 8);
        that("nothing without weight", planner("disk 9; item 1 0; item 2 3;").bestPlan(), 2);
        that("nothing at all", planner("disk 100; repeat 14 (item 1 0;);").bestPlan(), 0);
    }

    private static void smallestNumber() {
        that("the first", planner("disk 3; item 3 5; item 3 5;").bestPlan(), 1);
        that("the first two", planner("disk 6; repeat 14 (item 3 5;);").bestPlan(), 3);
        that("two before one", planner("disk 6; item 2 2; item 4 4; item 6 6;").bestPlan(), 3);
        that("one before two", planner("disk 6; item 6 6; item 2 2; item 4 4;").bestPlan(), 1);
        // {1, 2} is 6, {0, 3} is 9: the greatest item decides.
        that("not the first item", planner("disk 5; item 1 1; item 2 2; item 3 3; item 4 4;").bestPlan(), 6);
        that("of 14 the last is left out", planner("disk 13; repeat 14 (item 1 1;);").bestPlan(), 8191);
    }

    private static void noPlan() {
        BackupPlanner p = planner("disk 9; item 4 1; item 5 1; item 1 1; pin 0; pin 1;");
        that("just as great", p.hasPlan() + " " + p.bestPlan(), "true 3");
        p.setCapacity(8);
        that("1 greater", p.hasPlan() + " " + p.bestPlan(), "false -1");
        p.setCapacity(0);
        that("capacity 0", p.hasPlan(), false);
        p.release(0);
        p.exclude(1);
        that("none pinned, capacity 0", p.hasPlan() + " " + p.bestPlan(), "true 0");
        BackupPlanner full = full();
        for (int i = 0; i < 14; i++) {
            full.pin(i);
        }
        that("14 pinned ones of 98", full.bestPlan(), 16383);
        full.setCapacity(97);
        that("14 pinned ones, 97", full.hasPlan(), false);
        full.setSize(0, 60);
        full.setCapacity(100);
        that("14 pinned ones above 100", full.hasPlan(), false);
    }

    // ---- the table

    private static void table() {
        holds("The free items are numbered anew, without gaps, in their order.", TermsSentences::numberedAnew);
        holds("the greatest weight of a set of free items among the first r of them with a size of at most c", TermsSentences::cells);
        holds("the rows go from 0 to the number of free items", TermsSentences::rows);
        holds("the columns from 0 to 100", TermsSentences::columns);
    }

    private static void numberedAnew() {
        BackupPlanner p = planner("disk 9; item 1 1; item 1 2; item 1 4; item 1 8; item 1 16; item 1 32; exclude 0; pin 2; exclude 5;");
        that("rows", "" + p.cell(0, 9) + " " + p.cell(1, 9) + " " + p.cell(2, 9) + " " + p.cell(3, 9), "0 2 10 26");
        Check.index("no row for the others", () -> p.cell(4, 9));
        p.release(2);
        that("rows with item 2", "" + p.cell(1, 9) + " " + p.cell(2, 9) + " " + p.cell(3, 9) + " " + p.cell(4, 9), "2 6 14 30");
        p.removeItem(1);
        that("rows behind a removal", "" + p.cell(1, 9) + " " + p.cell(2, 9) + " " + p.cell(3, 9), "4 12 28");
    }

    private static void cells() {
        BackupPlanner p = planner("disk 0; item 4 5; item 6 7; item 1 0;");
        that("1 too small for the first", p.cell(1, 3), 0);
        that("just the first", p.cell(1, 4), 5);
        that("only the first counts", p.cell(1, 6), 5);
        that("1 too small for the second", p.cell(2, 5), 5);
        that("just the second", p.cell(2, 6), 7);
        that("1 too small for both", p.cell(2, 9), 7);
        that("just both", p.cell(2, 10), 12);
        that("nothing among none", p.cell(0, 100), 0);
        that("nothing of size 0", p.cell(3, 0), 0);
        that("without weight", p.cell(3, 100), 12);
        BackupPlanner full = planner("disk 0; repeat 14 (item 7 999;); backup 9;");
        that("greatest", full.cell(14, 98), 139860);
        that("1 less", full.cell(14, 97), 129870);
    }

    private static void rows() {
        BackupPlanner none = planner("disk 9; item 1 1; item 1 1; pin 0; exclude 1;");
        that("no free item: row 0", none.cell(0, 9), 0);
        Check.index("no free item: no row 1", () -> none.cell(1, 9));
        BackupPlanner full = full();
        that("14 free items: row 14", full.cell(14, 7), 999);
        Check.index("14 free items: no row 15", () -> full.cell(15, 7));
        Check.index("no row -1", () -> full.cell(-1, 7));
    }

    private static void columns() {
        BackupPlanner p = planner("disk 5; item 60 1; item 40 2;");
        that("0", p.cell(2, 0), 0);
        that("99", p.cell(2, 99), 2);
        that("100, whatever the capacity", p.cell(2, 100), 3);
        Check.index("-1", () -> p.cell(2, -1));
        Check.index("101", () -> p.cell(2, 101));
    }

    // ---- the greedy plan and its bound

    private static void greedyPlan() {
        holds("It contains the pinned items.", TermsSentences::greedyPinned);
        holds("the free items are considered by descending density (the weight divided by the size, exactly)", TermsSentences::exactDensity);
        holds("of equal densities the smaller size first", TermsSentences::densitySmallerSize);
        holds("of equal sizes the smaller number first", TermsSentences::densitySmallerNumber);
        holds("each item that still fits is added", TermsSentences::stillFits);
    }

    private static void greedyPinned() {
        BackupPlanner p = planner("disk 4; item 4 0; item 1 9; pin 0;");
        that("though without weight, just full", p.greedyPlan(), 1);
        p.setCapacity(5);
        that("and one more", p.greedyPlan(), 3);
        p.exclude(1);
        that("excluded ones never", p.greedyPlan(), 1);
        p.pin(1);
        that("all pinned", p.greedyPlan(), 3);
    }

    private static void exactDensity() {
        that("greater by a fraction, greater size", planner("disk 60; item 59 982; item 60 999;").greedyPlan(), 2);
        // 943/59 = 15.98305.., 959/60 = 15.98333..
        that("greater by 1/3540, greater size", planner("disk 60; item 59 943; item 60 959;").greedyPlan(), 2);
        that("less by 1/3540", planner("disk 60; item 59 945; item 60 961;").greedyPlan(), 1);
        that("both below 1", planner("disk 60; item 60 2; item 31 1;").greedyPlan(), 1);
        that("by age", planner("disk 60; item 60 100; item 30 49; backup 1;").greedyPlan(), 2);
        // 9990/60 = 166.5, 1000/6 = 166.66..: the greatest weights.
        BackupPlanner p = planner("disk 0; item 60 999; item 6 100; backup 9;");
        p.setCapacity(60);
        that("greatest", p.greedyPlan(), 2);
    }

    private static void densitySmallerSize() {
        that("second", planner("disk 6; item 6 12; item 5 10;").greedyPlan(), 2);
        that("first", planner("disk 6; item 5 10; item 6 12;").greedyPlan(), 1);
        that("density 0", planner("disk 6; item 6 0; item 5 0; item 1 0;").greedyPlan(), 6);
        that("third of three", planner("disk 3; item 3 9; item 2 6; item 1 3;").greedyPlan(), 6);
    }

    private static void densitySmallerNumber() {
        that("of two", planner("disk 6; item 6 12; item 6 12;").greedyPlan(), 1);
        that("of 14", planner("disk 9; repeat 14 (item 3 1;);").greedyPlan(), 7);
        that("behind a denser one", planner("disk 5; item 4 8; item 1 9; item 4 8;").greedyPlan(), 3);
    }

    private static void stillFits() {
        that("just fits", planner("disk 10; item 4 8; item 6 6;").greedyPlan(), 3);
        that("1 too great", planner("disk 9; item 4 8; item 6 6;").greedyPlan(), 1);
        that("behind one that did not fit", planner("disk 9; item 4 8; item 6 6; item 5 1;").greedyPlan(), 5);
        that("behind two that did not fit", planner("disk 5; item 6 60; item 6 59; item 5 1;").greedyPlan(), 4);
        that("without weight too", planner("disk 2; item 1 0; item 1 0; item 1 0;").greedyPlan(), 3);
        that("nothing on a disk of 0", planner("disk 0; item 1 999;").greedyPlan(), 0);
    }

    private static void bound() {
        holds("items are added as long as they fit", TermsSentences::boundAsLongAsTheyFit);
        holds("of the first item that does not fit, the part that fits is counted with the same part of its weight", TermsSentences::boundPart);
        holds("rounded down", TermsSentences::boundRoundedDown);
        holds("and nothing after it", TermsSentences::boundNothingAfterIt);
    }

    private static void boundAsLongAsTheyFit() {
        that("all fit", planner("disk 100; item 3 9; item 9 20;").upperBound(), 29);
        that("all just fit", planner("disk 12; item 3 9; item 9 20;").upperBound(), 29);
        that("pinned ones first", planner("disk 12; item 3 1; item 9 20; pin 0;").upperBound(), 21);
        that("no items", empty().upperBound(), 0);
    }

    private static void boundPart() {
        that("1 missing", planner("disk 11; item 3 9; item 9 18;").upperBound(), 25);
        that("the first does not fit", planner("disk 10; item 60 120;").upperBound(), 20);
        that("no part, full already", planner("disk 3; item 3 9; item 9 18;").upperBound(), 9);
        that("no part, capacity 0", planner("disk 0; item 1 999;").upperBound(), 0);
        that("behind pinned ones", planner("disk 6; item 3 1; pin 0; item 4 12;").upperBound(), 10);
    }

    private static void boundRoundedDown() {
        that("5.5", planner("disk 1; item 2 11;").upperBound(), 5);
        that("0.98", planner("disk 59; item 60 1;").upperBound(), 0);
        that("9 and 5.9", planner("disk 61; item 2 9; item 60 6;").upperBound(), 14);
        that("greatest", planner("disk 59; item 60 999; capacity 0; backup 9; capacity 59;").upperBound(), 9823);
    }

    private static void boundNothingAfterIt() {
        that("though it would fit", planner("disk 5; item 3 9; item 9 18; item 2 1;").upperBound(), 13);
        that("though without a part", planner("disk 3; item 3 9; item 9 18; item 1 1;").upperBound(), 9);
    }

    // ---- backups

    private static void backups() {
        holds("A backup takes the best plan: the age of its items becomes 0", TermsSentences::takenBecome0);
        holds("the age of all other items becomes 1 greater", TermsSentences::othersGrow);
        holds("(but not greater than 9)", TermsSentences::notGreaterThan9);
        holds("also of excluded ones", TermsSentences::excludedGrow);
        holds("If there is no plan, nothing is taken, and the ages of all items grow.", TermsSentences::noPlanAllGrow);
    }

    private static void takenBecome0() {
        BackupPlanner p = planner("disk 0; item 2 5; item 3 6; backup 9;");
        p.setCapacity(5);
        that("all", p.runBackup(), 3);
        that("from 9 to 0", all(p), "5 10 5 110: 2,5,0,0 3,6,0,0");
        that("from 0 to 0", p.runBackup() + all(p), "35 11 10 121: 2,5,0,0 3,6,0,0");
    }

    private static void othersGrow() {
        BackupPlanner p = planner("disk 3; item 3 5; item 3 1; item 4 9;");
        that("first", p.runBackup() + all(p), "13 1 3 5: 3,5,0,0 3,1,1,0 4,9,1,0");
        that("second", p.runBackup() + all(p), "13 2 6 10: 3,5,0,0 3,1,2,0 4,9,2,0");
        BackupPlanner nothing = planner("disk 3; item 3 0;");
        that("what is left out of an empty plan", nothing.runBackup() + all(nothing), "03 1 0 0: 3,0,1,0");
    }

    private static void notGreaterThan9() {
        BackupPlanner p = planner("disk 3; item 3 500; item 3 1; backup 8;");
        that("8", p.age(1), 8);
        p.runBackup();
        that("9", p.age(1), 9);
        p.runBackup();
        that("no 10", p.age(1), 9);
        p.runBackups(50);
        that("still 9", p.age(1), 9);
    }

    private static void excludedGrow() {
        BackupPlanner p = planner("disk 3; item 3 5; exclude 0; backup 1;");
        that("1", p.age(0), 1);
        p.runBackups(9);
        that("up to 9", p.age(0), 9);
    }

    private static void noPlanAllGrow() {
        BackupPlanner p = withoutPlan();
        that("nothing is taken", p.runBackup(), 0);
        that("pinned, free and excluded ones grow", all(p), "5 1 0 0: 6,7,1,1 2,3,1,0 1,9,1,2");
        p.runBackups(50);
        that("up to 9", all(p), "5 51 0 0: 6,7,9,1 2,3,9,0 1,9,9,2");
    }

    // ---- undo

    private static void undo() {
        holds("The methods from `runScript` to `runBackups` are changes.", TermsSentences::changes);
        holds("Each call of a change that neither throws an exception", TermsSentences::thrownIsNotUndone);
        holds("nor returns NO_ROOM", TermsSentences::noRoomIsNotUndone);
        holds("and each successful script, can be undone", TermsSentences::scriptsAreUndone);
        holds("the latest one first", TermsSentences::latestFirst);
        holds("the planner remembers the latest 10", TermsSentences::latest10);
        holds("Undoing restores everything", TermsSentences::restoresEverything);
        holds("except the input buffer, the script error, the report and the snapshot", TermsSentences::notRestored);
    }

    private static final Call[] CHANGES = {
        p -> Check.run(p, "disk 9;"), p -> p.addItem(1, 1), p -> p.removeItem(0), p -> p.setSize(0, 2), p -> p.setValue(0, 2), p -> p.pin(0),
        p -> p.exclude(0), p -> p.release(5), p -> p.setCapacity(33), p -> p.pinBest(), p -> p.runBackup(), p -> p.runBackups(2)};

    private static final Call[] NO_CHANGES = {
        p -> p.append(1, 2, 3, 4, 5), p -> p.truncateInput(0), p -> p.inputLength(), p -> p.undoCount(), p -> p.saveSnapshot(),
        p -> p.scriptErrorKind(), p -> p.scriptErrorOffset(), p -> p.itemCount(), p -> p.capacity(), p -> p.size(0), p -> p.value(0),
        p -> p.age(0), p -> p.state(0), p -> p.weight(0), p -> p.pinnedItems(), p -> p.pinnedSize(), p -> p.densestItem(), p -> p.hasPlan(),
        p -> p.bestWeight(), p -> p.bestPlan(), p -> p.bestSize(), p -> p.slack(), p -> p.isTaken(0), p -> p.optimalPlans(),
        p -> p.weightAt(9), p -> p.planAt(9), p -> p.capacityFor(9), p -> p.steps(), p -> p.nextStep(), p -> p.freeCount(),
        p -> p.cell(1, 9), p -> p.isRaised(1, 9), p -> p.greedyPlan(), p -> p.greedyWeight(), p -> p.upperBound(),
        p -> p.lossIfExcluded(0), p -> p.lossIfPinned(3), p -> p.valueNeeded(0), p -> p.takenInBackup(9), p -> p.backupsUntil(0),
        p -> p.neglected(9), p -> p.backupCount(), p -> p.backedUpSize(), p -> p.backedUpWeight(), p -> p.fill(), p -> p.greedyShare(),
        p -> p.violations(), p -> p.writeItems(), p -> p.writeRow(0), p -> p.reportByte(0)};

    private static void changes() {
        for (int i = 0; i < CHANGES.length; i++) {
            BackupPlanner p = new BackupPlanner();
            String before = all(p);
            CHANGES[i].on(p);
            that("change " + i + " can be undone", p.undoCount(), 1);
            that("change " + i + " does something", all(p).equals(before), false);
            that("change " + i + " is undone", p.undo() + all(p), 0 + before);
        }
        for (int i = 0; i < NO_CHANGES.length; i++) {
            BackupPlanner p = new BackupPlanner();
            p.runBackup();
            String before = all(p);
            NO_CHANGES[i].on(p);
            that("call " + i + " changes nothing", all(p), before);
            that("call " + i + " cannot be undone", p.undoCount(), 1);
        }
    }

    private static void thrownIsNotUndone() {
        BackupPlanner p = new BackupPlanner();
        p.setCapacity(2);
        Check.answer(() -> p.addItem(61, 1));
        Check.answer(() -> p.removeItem(6));
        Check.answer(() -> p.setSize(6, 1));
        Check.answer(() -> p.setSize(0, 61));
        Check.answer(() -> p.setValue(6, 1));
        Check.answer(() -> p.setValue(0, 1000));
        Check.answer(() -> p.pin(6));
        Check.answer(() -> p.exclude(6));
        Check.answer(() -> p.release(6));
        Check.answer(() -> p.setCapacity(101));
        Check.answer(() -> p.pinBest());
        Check.answer(() -> p.runBackups(51));
        that("one change", p.undoCount(), 1);
        that("it is undone", p.undo() + " " + p.capacity(), "0 20");
        p.setCapacity(20);
        that("a change without an effect is one", p.undoCount(), 1);
    }

    private static void noRoomIsNotUndone() {
        BackupPlanner p = full();
        that("no room", p.addItem(1, 1), -2);
        that("only the script is undone", p.undoCount(), 1);
        that("6 items again", p.undo() * 10 + p.itemCount(), 6);
    }

    private static void scriptsAreUndone() {
        BackupPlanner p = new BackupPlanner();
        p.runBackup();
        String before = all(p);
        Check.run(p, "disk 7; item 1 1; backup 2;");
        that("a script is one change", p.undoCount(), 2);
        Check.run(p, "disk 7; item 1 1; backup 51;");
        that("a wrong one is none", p.undoCount(), 2);
        p.runScript();
        that("nor is an empty one", p.undoCount(), 2);
        that("undone", p.undo() + all(p), 1 + before);
    }

    private static void latestFirst() {
        BackupPlanner p = new BackupPlanner();
        p.setCapacity(30);
        p.setValue(0, 31);
        p.setCapacity(40);
        p.undo();
        that("third", p.capacity() * 100 + p.value(0), 3031);
        p.undo();
        that("second", p.capacity() * 100 + p.value(0), 3030);
        p.setValue(0, 32);
        p.undo();
        that("a new one behind undone ones", p.capacity() * 100 + p.value(0), 3030);
        p.undo();
        that("first", p.capacity() * 100 + p.value(0), 2030);
    }

    private static void latest10() {
        BackupPlanner p = new BackupPlanner();
        for (int i = 1; i <= 10; i++) {
            p.setCapacity(i);
        }
        that("10", p.undoCount(), 10);
        p.setCapacity(11);
        that("not 11", p.undoCount(), 10);
        for (int i = 10; i >= 1; i--) {
            that("undo to " + i, p.undo() * 100 + p.capacity(), (i - 1) * 100 + i);
        }
        that("the eleventh is forgotten", p.undo() + " " + p.capacity(), "-1 1");
    }

    private static void restoresEverything() {
        BackupPlanner p = new BackupPlanner();
        p.runBackups(3);
        String before = all(p);
        Check.run(p, "disk 7; repeat 14 (item 1 1;); keep; backup 9; exclude 3;");
        p.undo();
        that("items, capacity and counters", all(p), before);
        p.removeItem(0);
        p.undo();
        that("a removed item with its age", all(p), before);
        p.pinBest();
        p.undo();
        that("states", all(p), before);
        p.runBackups(50);
        p.undo();
        that("ages and counters", all(p), before);
        that("no undo is left of them", p.undoCount(), 1);
    }

    private static void notRestored() {
        BackupPlanner p = new BackupPlanner();
        p.saveSnapshot();
        p.setCapacity(50);
        p.saveSnapshot();
        Check.run(p, "disk 1 1;");
        p.writeRow(0);
        Check.feed(p, "disk");
        p.undo();
        that("capacity", p.capacity(), 20);
        that("input buffer", p.inputLength(), 4);
        that("script error", p.scriptErrorKind() + " at " + p.scriptErrorOffset(), "1 at 7");
        that("report", Check.report(p), "0:0");
        p.restoreSnapshot();
        that("snapshot", p.capacity(), 50);
        p.append(0x20333b20, 0x20202020, 0x20202020, 0x20202020, 0x20202020);
        that("the input goes on behind what was there", p.runScript(), 0);
        p.undo();
        that("the error of the script that was undone", p.scriptErrorKind() + " at " + p.scriptErrorOffset(), "0 at -1");
        that("the input of the script that was undone", p.inputLength(), 0);
    }

    // ---- refused calls

    private static void refusedCalls() {
        holds("A call that throws an exception changes nothing, unless its description says otherwise.", TermsSentences::thrownChangesNothing);
        holds("If several exceptions apply, the one that is listed first is thrown.", TermsSentences::firstListed);
    }

    private static void thrownChangesNothing() {
        refused("truncateInput", ARGUMENT, Check::worn, p -> p.truncateInput(18));
        refused("addItem, size", ARGUMENT, Check::worn, p -> p.addItem(61, 1));
        refused("addItem, value", ARGUMENT, Check::worn, p -> p.addItem(1, 1000));
        refused("removeItem", INDEX, Check::worn, p -> p.removeItem(6));
        refused("setSize, item", INDEX, Check::worn, p -> p.setSize(6, 1));
        refused("setSize, size", ARGUMENT, Check::worn, p -> p.setSize(0, 61));
        refused("setValue, item", INDEX, Check::worn, p -> p.setValue(6, 1));
        refused("setValue, value", ARGUMENT, Check::worn, p -> p.setValue(0, 1000));
        refused("pin", INDEX, Check::worn, p -> p.pin(6));
        refused("exclude", INDEX, Check::worn, p -> p.exclude(6));
        refused("release", INDEX, Check::worn, p -> p.release(6));
        refused("setCapacity", ARGUMENT, Check::worn, p -> p.setCapacity(101));
        refused("pinBest", STATE, Sentences::withoutPlan, p -> p.pinBest());
        refused("runBackups", ARGUMENT, Check::worn, p -> p.runBackups(51));
        refused("restoreSnapshot", ELEMENT, BackupPlanner::new, p -> p.restoreSnapshot());
        refused("isTaken", INDEX, Check::worn, p -> p.isTaken(6));
        refused("weightAt", ARGUMENT, Check::worn, p -> p.weightAt(101));
        refused("planAt", ARGUMENT, Check::worn, p -> p.planAt(101));
        refused("cell", INDEX, Check::worn, p -> p.cell(5, 0));
        refused("isRaised", INDEX, Check::worn, p -> p.isRaised(0, 0));
        refused("lossIfExcluded", INDEX, Check::worn, p -> p.lossIfExcluded(6));
        refused("lossIfPinned", INDEX, Check::worn, p -> p.lossIfPinned(6));
        refused("valueNeeded", INDEX, Check::worn, p -> p.valueNeeded(6));
        refused("takenInBackup", ARGUMENT, Check::worn, p -> p.takenInBackup(51));
        refused("backupsUntil", INDEX, Check::worn, p -> p.backupsUntil(6));
        refused("neglected", ARGUMENT, Check::worn, p -> p.neglected(51));
        refused("writeRow", INDEX, Check::worn, p -> p.writeRow(5));
    }

    private static void firstListed() {
        for (int item : new int[] {-1, 6, Integer.MIN_VALUE, Integer.MAX_VALUE}) {
            refused("setSize, item " + item + ", size 0", INDEX, Check::worn, p -> p.setSize(item, 0));
            refused("setSize, item " + item + ", size 61", INDEX, Check::worn, p -> p.setSize(item, 61));
            refused("setValue, item " + item + ", value -1", INDEX, Check::worn, p -> p.setValue(item, -1));
            refused("setValue, item " + item + ", value 1000", INDEX, Check::worn, p -> p.setValue(item, 1000));
        }
        refused("setSize of no items", INDEX, Sentences::empty, p -> p.setSize(0, 0));
        refused("setValue of no items", INDEX, Sentences::empty, p -> p.setValue(0, -1));
    }

    // ---- the constants

    private static void constants() {
        holds("The constants: `NONE = -1`: Returned if there is no such value.", TermsSentences::none);
        holds("`NO_ROOM = -2`: Returned by addItem() if there are 14 items", TermsSentences::noRoomForAnItem);
        holds("and by append() if the input buffer is full", TermsSentences::noRoomInTheInput);
        holds("`FREE = 0, PINNED = 1, EXCLUDED = 2`: The states of an item.", TermsSentences::stateConstants);
    }

    private static void none() {
        that("NONE", BackupPlanner.NONE, -1);
        BackupPlanner p = withoutPlan();
        that("no plan", p.bestPlan(), BackupPlanner.NONE);
        p.undo();
        that("no undo", p.undo(), BackupPlanner.NONE);
        that("no script error", p.scriptErrorOffset(), BackupPlanner.NONE);
        that("no report", p.reportByte(0), BackupPlanner.NONE);
        that("no script", p.runScript(), BackupPlanner.NONE);
    }

    private static void noRoomForAnItem() {
        that("NO_ROOM", BackupPlanner.NO_ROOM, -2);
        BackupPlanner p = full();
        p.removeItem(0);
        that("13 items", p.addItem(1, 1), 13);
        that("14 items", p.addItem(1, 1), BackupPlanner.NO_ROOM);
    }

    private static void noRoomInTheInput() {
        BackupPlanner p = new BackupPlanner();
        for (int i = 1; i <= 25; i++) {
            that("append " + i, p.append(0, 0, 0, 0, 0), 20 * i);
        }
        that("full", p.append(0, 0, 0, 0, 0), BackupPlanner.NO_ROOM);
        p.runScript();
        that("empty again", p.append(0, 0, 0, 0, 0), 20);
    }

    private static void stateConstants() {
        that("FREE", BackupPlanner.FREE, 0);
        that("PINNED", BackupPlanner.PINNED, 1);
        that("EXCLUDED", BackupPlanner.EXCLUDED, 2);
        BackupPlanner p = new BackupPlanner();
        that("a free one", p.state(0), BackupPlanner.FREE);
        that("a pinned one", p.state(5), BackupPlanner.PINNED);
        that("an excluded one", p.state(4), BackupPlanner.EXCLUDED);
    }

    private TermsSentences() {
    }
}
