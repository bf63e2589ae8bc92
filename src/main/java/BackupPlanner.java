import java.util.NoSuchElementException;

/** Plans backups on a disk of limited capacity, as the promises of DOC.md say. */
public final class BackupPlanner {
    public static final int NONE = -1;
    public static final int NO_ROOM = -2;
    public static final int FREE = 0, PINNED = 1, EXCLUDED = 2;

    private static final int MAX_ITEMS = 14;
    private static final int MAX_SIZE = 60;
    private static final int MAX_VALUE = 999;
    private static final int MAX_AGE = 9;
    private static final int MAX_CAPACITY = 100;
    private static final int MAX_BACKUPS = 50;
    private static final int MAX_REPEATS = 20;
    private static final int MAX_REPEAT_LEVEL = 2;
    private static final int MAX_COMMANDS = 100;
    private static final int MAX_DIGITS = 4;
    private static final int MAX_TEXT = 500;
    private static final int MAX_UNDOS = 10;
    // 101 columns of at most "100:139860 " stay below this.
    private static final int MAX_REPORT = 1200;

    // The units of a rank: a set stays below one unit of size, a size and a set below one of weight.
    private static final int SIZE_SHIFT = 14;
    private static final int WEIGHT_SHIFT = 28;
    private static final int SET_MASK = (1 << SIZE_SHIFT) - 1;
    private static final long NO_PLAN = -(1L << 62);

    // What a command of a script expects behind its word.
    private static final int NOTHING = 0, AN_ITEM = 1, A_SIZE = 2, A_VALUE = 3, A_CAPACITY = 4, BACKUPS = 5;

    // The kinds of tokens; the signs stand for themselves.
    private static final int END = 0, WORD = 1, NUMBER = 2, WRONG = 3;
    private static final int OPEN = '(', CLOSE = ')', SEMICOLON = ';';

    private static final int WRONG_TOKEN = 1, WRONG_NUMBER = 2, IMPOSSIBLE = 3, TOO_DEEP = 4, TOO_MANY = 5;

    private static final Command[] COMMANDS = Command.values();

    private final Disk disk = new Disk();
    // What scripts and "what if" questions are tried on, so that the disk itself stays as it is.
    private final Disk trial = new Disk();
    private final Disk snapshot = new Disk();
    private boolean snapshotSaved = false;
    private final History history = new History();
    private final Table table = new Table();
    private final Greedy greedy = new Greedy();
    private final Script script = new Script();
    private final Report report = new Report();

    public BackupPlanner() {
        disk.reset(20);
        disk.add(7, 30);
        disk.add(9, 42);
        disk.add(4, 12);
        disk.add(12, 50);
        disk.add(5, 12);
        disk.add(3, 2);
        disk.states[5] = PINNED;
        disk.states[4] = EXCLUDED;
    }

    // ---- input

    public int append(int a, int b, int c, int d, int e) {
        if (script.length + 20 > MAX_TEXT) {
            return NO_ROOM;
        }
        script.addBytes(a);
        script.addBytes(b);
        script.addBytes(c);
        script.addBytes(d);
        script.addBytes(e);
        return script.length;
    }

    public int truncateInput(int length) throws IllegalArgumentException {
        requireWithin(length, 0, script.length);
        script.length = length;
        return length;
    }

    public int inputLength() {
        return script.length;
    }

    // ---- changes

    public int runScript() {
        boolean ran = script.runDisk(trial) && script.runCommands(trial, table, 0);
        script.length = 0;
        if (!ran) {
            return NONE;
        }
        history.remember(disk);
        disk.copyFrom(trial);
        return disk.count;
    }

    public int addItem(int size, int value) throws IllegalArgumentException {
        requireWithin(size, 1, MAX_SIZE);
        requireWithin(value, 0, MAX_VALUE);
        if (disk.count >= MAX_ITEMS) {
            return NO_ROOM;
        }
        history.remember(disk);
        disk.add(size, value);
        return disk.count - 1;
    }

    public int removeItem(int item) throws IndexOutOfBoundsException {
        requireItem(item);
        history.remember(disk);
        disk.drop(item);
        return disk.count;
    }

    public int setSize(int item, int size) throws IndexOutOfBoundsException, IllegalArgumentException {
        requireItem(item);
        requireWithin(size, 1, MAX_SIZE);
        history.remember(disk);
        int previous = disk.sizes[item];
        disk.sizes[item] = size;
        return previous;
    }

    public int setValue(int item, int value) throws IndexOutOfBoundsException, IllegalArgumentException {
        requireItem(item);
        requireWithin(value, 0, MAX_VALUE);
        history.remember(disk);
        int previous = disk.values[item];
        disk.values[item] = value;
        return previous;
    }

    public int pin(int item) throws IndexOutOfBoundsException {
        return changeState(item, PINNED);
    }

    public int exclude(int item) throws IndexOutOfBoundsException {
        return changeState(item, EXCLUDED);
    }

    public int release(int item) throws IndexOutOfBoundsException {
        return changeState(item, FREE);
    }

    public int setCapacity(int capacity) throws IllegalArgumentException {
        requireWithin(capacity, 0, MAX_CAPACITY);
        history.remember(disk);
        int previous = disk.capacity;
        disk.capacity = capacity;
        return previous;
    }

    public int pinBest() throws IllegalStateException {
        long best = bestRank(disk);
        if (best == NO_PLAN) {
            throw new IllegalStateException("there is no plan");
        }
        history.remember(disk);
        return disk.keep(rankSet(best));
    }

    public int runBackup() {
        history.remember(disk);
        return disk.backUp(table);
    }

    public int runBackups(int number) throws IllegalArgumentException {
        requireWithin(number, 1, MAX_BACKUPS);
        history.remember(disk);
        return Integer.bitCount(backUpAll(disk, number));
    }

    // ---- undo and snapshot

    public int undo() {
        if (history.length == 0) {
            return NONE;
        }
        history.takeBack(disk);
        return history.length;
    }

    public int undoCount() {
        return history.length;
    }

    public int saveSnapshot() {
        snapshot.copyFrom(disk);
        snapshotSaved = true;
        return disk.count;
    }

    public int restoreSnapshot() throws NoSuchElementException {
        if (!snapshotSaved) {
            throw new NoSuchElementException("no snapshot was saved");
        }
        disk.copyFrom(snapshot);
        history.length = 0;
        return disk.count;
    }

    // ---- script errors

    public int scriptErrorKind() {
        return script.errorKind;
    }

    public int scriptErrorOffset() {
        return script.errorOffset;
    }

    // ---- items

    public int itemCount() {
        return disk.count;
    }

    public int capacity() {
        return disk.capacity;
    }

    public int size(int item) throws IndexOutOfBoundsException {
        requireItem(item);
        return disk.sizes[item];
    }

    public int value(int item) throws IndexOutOfBoundsException {
        requireItem(item);
        return disk.values[item];
    }

    public int age(int item) throws IndexOutOfBoundsException {
        requireItem(item);
        return disk.ages[item];
    }

    public int state(int item) throws IndexOutOfBoundsException {
        requireItem(item);
        return disk.states[item];
    }

    public int weight(int item) throws IndexOutOfBoundsException {
        requireItem(item);
        return disk.weightOf(item);
    }

    public int pinnedItems() {
        return disk.setOf(PINNED);
    }

    public int pinnedSize() {
        return disk.totalSize(disk.setOf(PINNED));
    }

    public int densestItem() {
        greedy.sort(disk);
        return greedy.first();
    }

    // ---- the best plan

    public boolean hasPlan() {
        return disk.room() >= 0;
    }

    public int bestWeight() {
        return rankWeight(bestRank(disk));
    }

    public int bestPlan() {
        return rankSet(bestRank(disk));
    }

    public int bestSize() {
        return rankSize(bestRank(disk));
    }

    public int slack() {
        long best = bestRank(disk);
        return best == NO_PLAN ? NONE : disk.capacity - rankSize(best);
    }

    public boolean isTaken(int item) throws IndexOutOfBoundsException {
        requireItem(item);
        return contains(rankSetOrEmpty(bestRank(disk)), item);
    }

    public int optimalPlans() {
        if (disk.room() < 0) {
            return 0;
        }
        table.build(disk, MAX_CAPACITY);
        return table.countOptimal(disk);
    }

    public int weightAt(int capacity) throws IllegalArgumentException {
        requireWithin(capacity, 0, MAX_CAPACITY);
        table.build(disk, capacity);
        return rankWeight(table.bestFor(capacity));
    }

    public int planAt(int capacity) throws IllegalArgumentException {
        requireWithin(capacity, 0, MAX_CAPACITY);
        table.build(disk, capacity);
        return rankSet(table.bestFor(capacity));
    }

    public int capacityFor(int weight) {
        // Without a plan the weight is NONE, which must not pass as "at least" a negative number.
        return firstCapacity(0, weight < 0 ? 0 : weight);
    }

    public int steps() {
        table.build(disk, MAX_CAPACITY);
        int steps = 0;
        for (int capacity = 1; capacity <= MAX_CAPACITY; capacity++) {
            if (rankWeight(table.bestFor(capacity)) > rankWeight(table.bestFor(capacity - 1))) {
                steps++;
            }
        }
        return steps;
    }

    public int nextStep() {
        return firstCapacity(disk.capacity + 1, rankWeight(bestRank(disk)) + 1);
    }

    // ---- the table

    public int freeCount() {
        return Integer.bitCount(disk.setOf(FREE));
    }

    public int cell(int row, int column) throws IndexOutOfBoundsException {
        requireCell(row, 0, column);
        table.build(disk, MAX_CAPACITY);
        return table.cellWeight(row, column);
    }

    public boolean isRaised(int row, int column) throws IndexOutOfBoundsException {
        requireCell(row, 1, column);
        table.build(disk, MAX_CAPACITY);
        return table.cellWeight(row, column) > table.cellWeight(row - 1, column);
    }

    // ---- greedy plan and bound

    public int greedyPlan() {
        if (disk.room() < 0) {
            return NONE;
        }
        greedy.sort(disk);
        return greedy.takeFitting(disk);
    }

    public int greedyWeight() {
        if (disk.room() < 0) {
            return NONE;
        }
        greedy.sort(disk);
        return disk.totalWeight(greedy.takeFitting(disk));
    }

    public int upperBound() {
        if (disk.room() < 0) {
            return NONE;
        }
        greedy.sort(disk);
        return greedy.bound(disk);
    }

    // ---- what changes would do

    public int lossIfExcluded(int item) throws IndexOutOfBoundsException {
        requireItem(item);
        long now = bestRank(disk);
        if (now == NO_PLAN) {
            return 0;
        }
        return rankWeight(now) - rankWeight(rankIfState(item, EXCLUDED));
    }

    public int lossIfPinned(int item) throws IndexOutOfBoundsException {
        requireItem(item);
        long now = bestRank(disk);
        long then = rankIfState(item, PINNED);
        if (now == NO_PLAN || then == NO_PLAN) {
            return NONE;
        }
        return rankWeight(now) - rankWeight(then);
    }

    public int valueNeeded(int item) throws IndexOutOfBoundsException {
        requireItem(item);
        if (disk.states[item] != FREE) {
            return NONE;
        }
        // Which items go best along with this one does not depend on its value.
        long without = rankIfState(item, EXCLUDED);
        long others = table.bestFor(disk.capacity - disk.sizes[item]);
        if (others == NO_PLAN) {
            return NONE;
        }
        for (int value = 0; value <= MAX_VALUE; value++) {
            if (others + rank(value * (1 + disk.ages[item]), disk.sizes[item], 1 << item) > without) {
                return value;
            }
        }
        return NONE;
    }

    public int takenInBackup(int number) throws IllegalArgumentException {
        requireWithin(number, 1, MAX_BACKUPS);
        trial.copyFrom(disk);
        int taken = 0;
        for (int backup = 1; backup <= number; backup++) {
            taken = trial.backUp(table);
        }
        return taken;
    }

    public int backupsUntil(int item) throws IndexOutOfBoundsException {
        requireItem(item);
        trial.copyFrom(disk);
        for (int backup = 1; backup <= MAX_BACKUPS; backup++) {
            if (contains(trial.backUp(table), item)) {
                return backup;
            }
        }
        return NONE;
    }

    public int neglected(int number) throws IllegalArgumentException {
        requireWithin(number, 1, MAX_BACKUPS);
        trial.copyFrom(disk);
        int all = (1 << disk.count) - 1;
        return all & ~backUpAll(trial, number);
    }

    // ---- counters, ratios and checks

    public int backupCount() {
        return disk.backups;
    }

    public int backedUpSize() {
        return disk.sizeBackedUp;
    }

    public int backedUpWeight() {
        return disk.weightBackedUp;
    }

    public double fill() {
        long best = bestRank(disk);
        if (best == NO_PLAN || disk.capacity == 0) {
            return 0.0;
        }
        return (double) rankSize(best) / (double) disk.capacity;
    }

    public float greedyShare() {
        int best = rankWeight(bestRank(disk));
        if (best <= 0) {
            return 1.0f;
        }
        greedy.sort(disk);
        return (float) disk.totalWeight(greedy.takeFitting(disk)) / (float) best;
    }

    public int violations() {
        long best = bestRank(disk);
        if (best == NO_PLAN) {
            return 0;
        }
        int plan = rankSet(best);
        int found = 0;
        if (differsFromTable(plan)) {
            found++;
        }
        if (isForbidden(plan)) {
            found++;
        }
        if (isOutOfBounds(plan)) {
            found++;
        }
        return found;
    }

    // ---- report

    public int writeItems() {
        int plan = rankSetOrEmpty(bestRank(disk));
        report.length = 0;
        for (int item = 0; item < disk.count; item++) {
            report.putPair(disk.sizes[item], disk.weightOf(item));
            if (disk.states[item] == PINNED) {
                report.put('!');
            } else if (disk.states[item] == EXCLUDED) {
                report.put('-');
            }
            if (contains(plan, item)) {
                report.put('*');
            }
        }
        return report.length;
    }

    public int writeRow(int row) throws IndexOutOfBoundsException {
        requireCell(row, 0, 0);
        table.build(disk, MAX_CAPACITY);
        report.length = 0;
        for (int column = 0; column <= MAX_CAPACITY; column++) {
            int weight = table.cellWeight(row, column);
            if (column == 0 || weight > table.cellWeight(row, column - 1)) {
                report.putPair(column, weight);
            }
        }
        return report.length;
    }

    public int reportByte(int index) {
        return report.byteAt(index);
    }

    // ---- what arguments must be

    private static void requireWithin(int number, int lowest, int highest) {
        if (number < lowest || number > highest) {
            throw new IllegalArgumentException("a number is out of its range");
        }
    }

    private void requireItem(int item) {
        if (item < 0 || item >= disk.count) {
            throw new IndexOutOfBoundsException("there is no such item");
        }
    }

    private void requireCell(int row, int lowestRow, int column) {
        if (row < lowestRow || row > Integer.bitCount(disk.setOf(FREE)) || column < 0 || column > MAX_CAPACITY) {
            throw new IndexOutOfBoundsException("there is no such cell");
        }
    }

    // ---- helpers of the calls

    private int changeState(int item, int state) {
        requireItem(item);
        history.remember(disk);
        int previous = disk.states[item];
        disk.states[item] = state;
        return previous;
    }

    private int backUpAll(Disk which, int number) {
        int taken = 0;
        for (int backup = 0; backup < number; backup++) {
            taken |= which.backUp(table);
        }
        return taken;
    }

    private long bestRank(Disk which) {
        table.build(which, which.capacity);
        return table.bestFor(which.capacity);
    }

    private long rankIfState(int item, int state) {
        trial.copyFrom(disk);
        trial.states[item] = state;
        return bestRank(trial);
    }

    private int firstCapacity(int lowest, int weight) {
        table.build(disk, MAX_CAPACITY);
        for (int capacity = lowest; capacity <= MAX_CAPACITY; capacity++) {
            if (rankWeight(table.bestFor(capacity)) >= weight) {
                return capacity;
            }
        }
        return NONE;
    }

    private boolean differsFromTable(int plan) {
        table.build(disk, MAX_CAPACITY);
        int expected = table.cellWeight(table.rows, disk.room()) + disk.totalWeight(disk.setOf(PINNED));
        return disk.totalWeight(plan) != expected;
    }

    private boolean isForbidden(int plan) {
        int pinned = disk.setOf(PINNED);
        return disk.totalSize(plan) > disk.capacity
                || (plan & disk.setOf(EXCLUDED)) != 0
                || (plan & pinned) != pinned;
    }

    private boolean isOutOfBounds(int plan) {
        greedy.sort(disk);
        int weight = disk.totalWeight(plan);
        return disk.totalWeight(greedy.takeFitting(disk)) > weight || weight > greedy.bound(disk);
    }

    private static boolean contains(int set, int item) {
        return (set >> item & 1) != 0;
    }

    // ---- ranks
    // A rank is one number for a set's weight, size and number, greater for the better set: more weight
    // first, then less size, then the smaller number. The rank of a set is the sum of its items' ranks.

    private static long rank(int weight, int size, int set) {
        return ((long) weight << WEIGHT_SHIFT) - ((long) size << SIZE_SHIFT) - set;
    }

    private static int rankWeight(long rank) {
        if (rank == NO_PLAN) {
            return NONE;
        }
        return (int) (rank + (1L << WEIGHT_SHIFT) - 1 >> WEIGHT_SHIFT);
    }

    private static int rankSize(long rank) {
        return rank == NO_PLAN ? NONE : (int) (-rank >> SIZE_SHIFT & SET_MASK);
    }

    private static int rankSet(long rank) {
        return rank == NO_PLAN ? NONE : (int) (-rank & SET_MASK);
    }

    private static int rankSetOrEmpty(long rank) {
        return rank == NO_PLAN ? 0 : (int) (-rank & SET_MASK);
    }

    /** Everything that undo restores: the items, the capacity and the counters. */
    private static final class Disk {
        final int[] sizes = new int[MAX_ITEMS];
        final int[] values = new int[MAX_ITEMS];
        final int[] ages = new int[MAX_ITEMS];
        final int[] states = new int[MAX_ITEMS];
        int count = 0;
        int capacity = 0;
        int backups = 0;
        int sizeBackedUp = 0;
        int weightBackedUp = 0;

        void reset(int newCapacity) {
            count = 0;
            capacity = newCapacity;
            backups = 0;
            sizeBackedUp = 0;
            weightBackedUp = 0;
        }

        void copyFrom(Disk other) {
            System.arraycopy(other.sizes, 0, sizes, 0, MAX_ITEMS);
            System.arraycopy(other.values, 0, values, 0, MAX_ITEMS);
            System.arraycopy(other.ages, 0, ages, 0, MAX_ITEMS);
            System.arraycopy(other.states, 0, states, 0, MAX_ITEMS);
            count = other.count;
            capacity = other.capacity;
            backups = other.backups;
            sizeBackedUp = other.sizeBackedUp;
            weightBackedUp = other.weightBackedUp;
        }

        void add(int size, int value) {
            if (count < MAX_ITEMS) {
                sizes[count] = size;
                values[count] = value;
                ages[count] = 0;
                states[count] = FREE;
                count++;
            }
        }

        void drop(int item) {
            for (int behind = item + 1; behind < count; behind++) {
                sizes[behind - 1] = sizes[behind];
                values[behind - 1] = values[behind];
                ages[behind - 1] = ages[behind];
                states[behind - 1] = states[behind];
            }
            count--;
        }

        int weightOf(int item) {
            return values[item] * (1 + ages[item]);
        }

        int setOf(int state) {
            int set = 0;
            for (int item = 0; item < count; item++) {
                if (states[item] == state) {
                    set |= 1 << item;
                }
            }
            return set;
        }

        int totalSize(int set) {
            int total = 0;
            for (int item = 0; item < count; item++) {
                if (contains(set, item)) {
                    total += sizes[item];
                }
            }
            return total;
        }

        int totalWeight(int set) {
            int total = 0;
            for (int item = 0; item < count; item++) {
                if (contains(set, item)) {
                    total += weightOf(item);
                }
            }
            return total;
        }

        /** What the pinned items leave of the capacity; negative if there is no plan. */
        int room() {
            return capacity - totalSize(setOf(PINNED));
        }

        int keep(int set) {
            int added = 0;
            for (int item = 0; item < count; item++) {
                if (contains(set, item) && states[item] != PINNED) {
                    states[item] = PINNED;
                    added++;
                }
            }
            return added;
        }

        int backUp(Table table) {
            table.build(this, capacity);
            int taken = rankSetOrEmpty(table.bestFor(capacity));
            backups++;
            sizeBackedUp += totalSize(taken);
            weightBackedUp += totalWeight(taken);
            for (int item = 0; item < count; item++) {
                if (contains(taken, item)) {
                    ages[item] = 0;
                } else if (ages[item] < MAX_AGE) {
                    ages[item]++;
                }
            }
            return taken;
        }
    }

    /** The latest states of the disk, the oldest first. */
    private static final class History {
        private final Disk[] kept = new Disk[MAX_UNDOS];
        int length = 0;

        History() {
            for (int place = 0; place < MAX_UNDOS; place++) {
                kept[place] = new Disk();
            }
        }

        void remember(Disk disk) {
            if (length >= MAX_UNDOS) {
                forgetOldest();
            }
            kept[length].copyFrom(disk);
            length++;
        }

        // The oldest disk goes to the end, where it is used again.
        private void forgetOldest() {
            Disk oldest = kept[0];
            for (int place = 1; place < MAX_UNDOS; place++) {
                kept[place - 1] = kept[place];
            }
            kept[MAX_UNDOS - 1] = oldest;
            length = MAX_UNDOS - 1;
        }

        void takeBack(Disk disk) {
            if (length > 0) {
                length--;
                disk.copyFrom(kept[length]);
            }
        }
    }

    /** The table of dynamic programming; its cells hold the ranks of the best sets. */
    private static final class Table {
        private final long[][] ranks = new long[MAX_ITEMS + 1][MAX_CAPACITY + 1];
        private final int[] rowItems = new int[MAX_ITEMS];
        private final int[] ways = new int[MAX_CAPACITY + 1];
        int rows = 0;
        private int pinnedSize = 0;
        private long pinnedRank = 0;

        // The row 0 is never written: the rank of the empty set is 0.
        void build(Disk disk, int lastColumn) {
            rows = 0;
            pinnedSize = 0;
            pinnedRank = 0;
            for (int item = 0; item < disk.count; item++) {
                long itemRank = rank(disk.weightOf(item), disk.sizes[item], 1 << item);
                if (disk.states[item] == PINNED) {
                    pinnedSize += disk.sizes[item];
                    pinnedRank += itemRank;
                } else if (disk.states[item] == FREE) {
                    rowItems[rows] = item;
                    rows++;
                    buildRow(disk.sizes[item], itemRank, lastColumn);
                }
            }
        }

        private void buildRow(int size, long itemRank, int lastColumn) {
            long[] above = ranks[rows - 1];
            long[] row = ranks[rows];
            for (int column = 0; column <= lastColumn; column++) {
                long best = above[column];
                if (column >= size && above[column - size] + itemRank > best) {
                    best = above[column - size] + itemRank;
                }
                row[column] = best;
            }
        }

        int cellWeight(int row, int column) {
            return rankWeight(ranks[row][column]);
        }

        /** The rank of the best plan for a capacity up to the last column that was built. */
        long bestFor(int capacity) {
            int room = capacity - pinnedSize;
            return room < 0 ? NO_PLAN : pinnedRank + ranks[rows][room];
        }

        int countOptimal(Disk disk) {
            int room = disk.room();
            for (int column = 0; column <= room; column++) {
                ways[column] = 1;
            }
            for (int row = 1; row <= rows; row++) {
                countRow(row, room, disk.sizes[rowItems[row - 1]], disk.weightOf(rowItems[row - 1]));
            }
            return ways[room];
        }

        // From the right, because each count needs those of the row above on its left.
        private void countRow(int row, int room, int size, int weight) {
            for (int column = room; column >= 0; column--) {
                int best = cellWeight(row, column);
                int count = cellWeight(row - 1, column) == best ? ways[column] : 0;
                if (column >= size && cellWeight(row - 1, column - size) + weight == best) {
                    count += ways[column - size];
                }
                ways[column] = count;
            }
        }
    }

    /** The free items by descending density, and what is taken in this order. */
    private static final class Greedy {
        private final int[] order = new int[MAX_ITEMS];
        private int length = 0;

        void sort(Disk disk) {
            length = 0;
            for (int item = 0; item < disk.count; item++) {
                if (disk.states[item] == FREE) {
                    insert(disk, item);
                }
            }
        }

        private void insert(Disk disk, int item) {
            int place = length;
            while (place > 0 && isBefore(disk, item, order[place - 1])) {
                order[place] = order[place - 1];
                place--;
            }
            order[place] = item;
            length++;
        }

        // Items come in by ascending number, so the number needs no comparison.
        private static boolean isBefore(Disk disk, int item, int other) {
            int density = disk.weightOf(item) * disk.sizes[other];
            int otherDensity = disk.weightOf(other) * disk.sizes[item];
            return density > otherDensity
                    || density == otherDensity && disk.sizes[item] < disk.sizes[other];
        }

        int first() {
            return length == 0 ? NONE : order[0];
        }

        int takeFitting(Disk disk) {
            int set = disk.setOf(PINNED);
            int room = disk.room();
            for (int place = 0; place < length; place++) {
                int item = order[place];
                if (disk.sizes[item] <= room) {
                    set |= 1 << item;
                    room -= disk.sizes[item];
                }
            }
            return set;
        }

        int bound(Disk disk) {
            int weight = disk.totalWeight(disk.setOf(PINNED));
            int room = disk.room();
            for (int place = 0; place < length; place++) {
                int item = order[place];
                int size = disk.sizes[item];
                if (size > room && size > 0) {
                    return weight + disk.weightOf(item) * room / size;
                }
                weight += disk.weightOf(item);
                room -= size;
            }
            return weight;
        }
    }

    /** The commands of a script, but for "repeat", and what stands behind their words. */
    private enum Command {
        ITEM("item", A_SIZE, A_VALUE),
        PIN("pin", AN_ITEM, NOTHING),
        EXCLUDE("exclude", AN_ITEM, NOTHING),
        RELEASE("release", AN_ITEM, NOTHING),
        REMOVE("remove", AN_ITEM, NOTHING),
        CAPACITY("capacity", A_CAPACITY, NOTHING),
        BACKUP("backup", BACKUPS, NOTHING),
        SIZE("size", AN_ITEM, A_SIZE),
        VALUE("value", AN_ITEM, A_VALUE),
        KEEP("keep", NOTHING, NOTHING);

        final String word;
        final int first;
        final int second;

        Command(String word, int first, int second) {
            this.word = word;
            this.first = first;
            this.second = second;
        }
    }

    /** The input buffer, and how it is executed: each command as soon as its semicolon is read. */
    private static final class Script {
        private final byte[] text = new byte[MAX_TEXT];
        int length = 0;
        int errorKind = 0;
        int errorOffset = NONE;
        private int next = 0;
        private int tokenKind = END;
        private int tokenStart = 0;
        private int executed = 0;

        void addBytes(int four) {
            for (int shift = 24; shift >= 0; shift -= 8) {
                if (length < MAX_TEXT) {
                    text[length] = (byte) (four >> shift);
                    length++;
                }
            }
        }

        boolean runDisk(Disk disk) {
            errorKind = 0;
            errorOffset = NONE;
            next = 0;
            executed = 0;
            readToken();
            if (!isWord("disk")) {
                return fail(WRONG_TOKEN);
            }
            int capacity = readNumber(0, MAX_CAPACITY);
            if (capacity == NONE || !expect(SEMICOLON)) {
                return false;
            }
            disk.reset(capacity);
            return true;
        }

        /** Runs commands up to the end of the text or, inside a repeat, up to its parenthesis. */
        private boolean runCommands(Disk disk, Table table, int level) {
            int end = level == 0 ? END : CLOSE;
            // Every command takes at least one byte of the text.
            for (int command = 0; command <= MAX_TEXT; command++) {
                readToken();
                if (tokenKind == end) {
                    return true;
                }
                boolean ran = isWord("repeat") ? runRepeat(disk, table, level) : runCommand(disk, table);
                if (!ran) {
                    return false;
                }
            }
            return false;
        }

        private boolean runRepeat(Disk disk, Table table, int level) {
            if (level >= MAX_REPEAT_LEVEL) {
                return fail(TOO_DEEP);
            }
            int times = readNumber(1, MAX_REPEATS);
            if (times == NONE || !expect(OPEN)) {
                return false;
            }
            int body = next;
            for (int round = 0; round < times; round++) {
                next = body;
                if (!runCommands(disk, table, level + 1)) {
                    return false;
                }
            }
            return expect(SEMICOLON);
        }

        private boolean runCommand(Disk disk, Table table) {
            Command command = findCommand();
            if (command == null) {
                return fail(WRONG_TOKEN);
            }
            if (executed >= MAX_COMMANDS) {
                return fail(TOO_MANY);
            }
            executed++;
            int first = readArgument(command.first, disk);
            if (first == NONE) {
                return false;
            }
            int second = readArgument(command.second, disk);
            if (second == NONE || !expect(SEMICOLON)) {
                return false;
            }
            return execute(command, first, second, disk, table);
        }

        private Command findCommand() {
            for (int place = 0; place < COMMANDS.length; place++) {
                if (isWord(COMMANDS[place].word)) {
                    return COMMANDS[place];
                }
            }
            return null;
        }

        private boolean execute(Command command, int first, int second, Disk disk, Table table) {
            switch (command) {
                case ITEM:
                    if (disk.count >= MAX_ITEMS) {
                        return fail(IMPOSSIBLE);
                    }
                    disk.add(first, second);
                    break;
                case PIN:
                    disk.states[first] = PINNED;
                    break;
                case EXCLUDE:
                    disk.states[first] = EXCLUDED;
                    break;
                case RELEASE:
                    disk.states[first] = FREE;
                    break;
                case REMOVE:
                    disk.drop(first);
                    break;
                case CAPACITY:
                    disk.capacity = first;
                    break;
                case BACKUP:
                    for (int backup = 0; backup < first; backup++) {
                        disk.backUp(table);
                    }
                    break;
                case SIZE:
                    disk.sizes[first] = second;
                    break;
                case VALUE:
                    disk.values[first] = second;
                    break;
                case KEEP:
                    if (disk.room() < 0) {
                        return fail(IMPOSSIBLE);
                    }
                    table.build(disk, disk.capacity);
                    disk.keep(rankSetOrEmpty(table.bestFor(disk.capacity)));
                    break;
            }
            return true;
        }

        /** Reads what a command expects: a number, 0 if it expects nothing, NONE behind an error. */
        private int readArgument(int kind, Disk disk) {
            switch (kind) {
                case AN_ITEM:
                    return readNumber(0, disk.count - 1);
                case A_SIZE:
                    return readNumber(1, MAX_SIZE);
                case A_VALUE:
                    return readNumber(0, MAX_VALUE);
                case A_CAPACITY:
                    return readNumber(0, MAX_CAPACITY);
                case BACKUPS:
                    return readNumber(1, MAX_BACKUPS);
                default:
                    return 0;
            }
        }

        private int readNumber(int lowest, int highest) {
            readToken();
            if (tokenKind != NUMBER) {
                fail(WRONG_TOKEN);
                return NONE;
            }
            int number = 0;
            for (int place = tokenStart; place < next; place++) {
                number = number * 10 + text[place] - '0';
            }
            if (number < lowest || number > highest) {
                fail(WRONG_NUMBER);
                return NONE;
            }
            return number;
        }

        private boolean expect(int kind) {
            readToken();
            return tokenKind == kind || fail(WRONG_TOKEN);
        }

        private boolean fail(int kind) {
            errorKind = kind;
            errorOffset = tokenStart;
            return false;
        }

        /** Reads the token that stands next, from tokenStart up to the byte before next. */
        private void readToken() {
            while (next < length && (text[next] == ' ' || text[next] == '\n')) {
                next++;
            }
            tokenStart = next;
            if (next >= length) {
                tokenKind = END;
                return;
            }
            tokenKind = kindOf(text[next]);
            next++;
            if (tokenKind == WORD || tokenKind == NUMBER) {
                while (next < length && kindOf(text[next]) == tokenKind) {
                    next++;
                }
            }
            if (tokenKind == NUMBER && next - tokenStart > MAX_DIGITS) {
                tokenKind = WRONG;
            }
        }

        private boolean isWord(String word) {
            if (tokenKind != WORD || next - tokenStart != word.length()) {
                return false;
            }
            for (int place = 0; place < word.length(); place++) {
                if (text[tokenStart + place] != word.charAt(place)) {
                    return false;
                }
            }
            return true;
        }

        private static int kindOf(int sign) {
            if (sign >= 'a' && sign <= 'z') {
                return WORD;
            }
            if (sign >= '0' && sign <= '9') {
                return NUMBER;
            }
            return sign == OPEN || sign == CLOSE || sign == SEMICOLON ? sign : WRONG;
        }
    }

    /** The latest report, as bytes. */
    private static final class Report {
        private final byte[] bytes = new byte[MAX_REPORT];
        int length = 0;

        void put(int sign) {
            if (length < MAX_REPORT) {
                bytes[length] = (byte) sign;
                length++;
            }
        }

        /** Writes two numbers with a colon, behind a space if something stands there already. */
        void putPair(int first, int second) {
            if (length > 0) {
                put(' ');
            }
            putNumber(first);
            put(':');
            putNumber(second);
        }

        private void putNumber(int number) {
            for (int unit = 1000000; unit > 0; unit /= 10) {
                if (number >= unit || unit == 1) {
                    put('0' + number / unit % 10);
                }
            }
        }

        int byteAt(int index) {
            return index < 0 || index >= length ? NONE : bytes[index];
        }
    }
}
