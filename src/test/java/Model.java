import java.util.ArrayList;
import java.util.List;

/** The document told a second time, in the plainest way: it looks at every set of items. */
final class Model {
    static final class Item {
        int size, value, age, state;

        int weight() {
            return value * (1 + age);
        }

        Item copy() {
            Item item = new Item();
            item.size = size;
            item.value = value;
            item.age = age;
            item.state = state;
            return item;
        }
    }

    static final class World {
        List<Item> items = new ArrayList<>();
        int capacity, backups;
        long sizes, weights;

        World copy() {
            World world = new World();
            for (Item item : items) {
                world.items.add(item.copy());
            }
            world.capacity = capacity;
            world.backups = backups;
            world.sizes = sizes;
            world.weights = weights;
            return world;
        }

        void add(int size, int value) {
            Item item = new Item();
            item.size = size;
            item.value = value;
            items.add(item);
        }

        int sum(int set, boolean weights) {
            int sum = 0;
            for (int i = 0; i < items.size(); i++) {
                if ((set >> i & 1) == 1) {
                    sum += weights ? items.get(i).weight() : items.get(i).size;
                }
            }
            return sum;
        }

        int set(int state) {
            int set = 0;
            for (int i = 0; i < items.size(); i++) {
                set += items.get(i).state == state ? 1 << i : 0;
            }
            return set;
        }

        /** The best set of the free items within "allowed", of a size up to "room". */
        int best(int allowed, int room) {
            int best = 0;
            int bestWeight = 0;
            int bestSize = 0;
            for (int set = allowed; set > 0; set = set - 1 & allowed) {
                int size = sum(set, false);
                if (size > room) {
                    continue;
                }
                int weight = sum(set, true);
                boolean better = weight != bestWeight ? weight > bestWeight
                        : size != bestSize ? size < bestSize : set < best;
                if (better) {
                    best = set;
                    bestWeight = weight;
                    bestSize = size;
                }
            }
            return best;
        }

        int plan(int forCapacity) {
            int pinned = set(1);
            int room = forCapacity - sum(pinned, false);
            return room < 0 ? -1 : pinned | best(set(0), room);
        }

        int planWeight(int forCapacity) {
            int plan = plan(forCapacity);
            return plan < 0 ? -1 : sum(plan, true);
        }

        int backUp() {
            int taken = Math.max(plan(capacity), 0);
            backups++;
            sizes += sum(taken, false);
            weights += sum(taken, true);
            for (int i = 0; i < items.size(); i++) {
                items.get(i).age = (taken >> i & 1) == 1 ? 0 : Math.min(9, items.get(i).age + 1);
            }
            return taken;
        }

        int keep() {
            int plan = plan(capacity);
            int added = 0;
            for (int i = 0; i < items.size(); i++) {
                if ((plan >> i & 1) == 1 && items.get(i).state != 1) {
                    items.get(i).state = 1;
                    added++;
                }
            }
            return added;
        }

        List<Integer> greedyOrder() {
            List<Integer> order = new ArrayList<>();
            for (int i = 0; i < items.size(); i++) {
                if (items.get(i).state == 0) {
                    order.add(i);
                }
            }
            order.sort((a, b) -> {
                Item x = items.get(a);
                Item y = items.get(b);
                int density = Integer.compare(y.weight() * x.size, x.weight() * y.size);
                return density != 0 ? density : x.size != y.size ? x.size - y.size : a - b;
            });
            return order;
        }

        int greedy() {
            int set = set(1);
            for (int i : greedyOrder()) {
                if (sum(set | 1 << i, false) <= capacity) {
                    set |= 1 << i;
                }
            }
            return set;
        }

        int bound() {
            int set = set(1);
            for (int i : greedyOrder()) {
                if (sum(set | 1 << i, false) > capacity) {
                    int part = capacity - sum(set, false);
                    return sum(set, true) + items.get(i).weight() * part / items.get(i).size;
                }
                set |= 1 << i;
            }
            return sum(set, true);
        }
    }

    /** Ends a script; carries its error. */
    @SuppressWarnings("serial")
    static final class ScriptError extends RuntimeException {
        final int kind, offset;

        ScriptError(int kind, int offset) {
            this.kind = kind;
            this.offset = offset;
        }
    }

    /** Runs a script over the tokens of a regular expression, made before anything is executed. */
    static final class Run {
        final List<String> tokens = new ArrayList<>();
        final List<Integer> offsets = new ArrayList<>();
        final World world = new World();
        int at = 0;
        int executed = 0;

        Run(String text) {
            java.util.regex.Matcher matcher = java.util.regex.Pattern.compile("[a-z]+|[0-9]+|[^ \n]", java.util.regex.Pattern.DOTALL).matcher(text);
            while (matcher.find()) {
                tokens.add(matcher.group());
                offsets.add(matcher.start());
            }
            tokens.add("");
            offsets.add(text.length());
        }

        ScriptError error(int kind) {
            return new ScriptError(kind, offsets.get(at));
        }

        void sign(String sign) {
            if (!tokens.get(at).equals(sign)) {
                throw error(1);
            }
            at++;
        }

        int number(int lowest, int highest) {
            if (!tokens.get(at).matches("[0-9]{1,4}")) {
                throw error(1);
            }
            int number = Integer.parseInt(tokens.get(at));
            if (number < lowest || number > highest) {
                throw error(2);
            }
            at++;
            return number;
        }

        World world() {
            sign("disk");
            world.capacity = number(0, 100);
            sign(";");
            while (!tokens.get(at).isEmpty()) {
                command(0);
            }
            return world;
        }

        void command(int inside) {
            String word = tokens.get(at);
            if (word.equals("repeat")) {
                if (inside == 2) {
                    throw error(4);
                }
                at++;
                int times = number(1, 20);
                sign("(");
                int body = at;
                for (int i = 0; i < times; i++) {
                    at = body;
                    while (!tokens.get(at).equals(")")) {
                        command(inside + 1);
                    }
                    at++;
                }
                sign(";");
                return;
            }
            if (!List.of("item", "pin", "exclude", "release", "remove", "capacity", "backup", "size", "value", "keep").contains(word)) {
                throw error(1);
            }
            if (executed == 100) {
                throw error(5);
            }
            executed++;
            at++;
            int last = world.items.size() - 1;
            switch (word) {
                case "item": {
                    int size = number(1, 60);
                    int value = number(0, 999);
                    semicolon(world.items.size() == 14);
                    world.add(size, value);
                    break;
                }
                case "pin":
                case "exclude":
                case "release": {
                    int item = number(0, last);
                    semicolon(false);
                    world.items.get(item).state = word.equals("pin") ? 1 : word.equals("exclude") ? 2 : 0;
                    break;
                }
                case "remove": {
                    int item = number(0, last);
                    semicolon(false);
                    world.items.remove(item);
                    break;
                }
                case "capacity":
                    world.capacity = number(0, 100);
                    semicolon(false);
                    break;
                case "backup": {
                    int times = number(1, 50);
                    semicolon(false);
                    for (int i = 0; i < times; i++) {
                        world.backUp();
                    }
                    break;
                }
                case "size": {
                    int item = number(0, last);
                    int size = number(1, 60);
                    semicolon(false);
                    world.items.get(item).size = size;
                    break;
                }
                case "value": {
                    int item = number(0, last);
                    int value = number(0, 999);
                    semicolon(false);
                    world.items.get(item).value = value;
                    break;
                }
                default:
                    semicolon(world.plan(world.capacity) < 0);
                    world.keep();
                    break;
            }
        }

        void semicolon(boolean impossible) {
            if (tokens.get(at).equals(";") && impossible) {
                throw error(3);
            }
            sign(";");
        }
    }

    World world = new World();
    World saved = null;
    final List<World> history = new ArrayList<>();
    String input = "";
    String report = "";
    int errorKind = 0;
    int errorOffset = -1;

    Model() {
        world = new Run("disk 20; item 7 30; item 9 42; item 4 12; item 12 50; item 5 12; item 3 2; pin 5; exclude 4;").world();
    }

    private Item item(int number) {
        if (number < 0 || number >= world.items.size()) {
            throw new IndexOutOfBoundsException();
        }
        return world.items.get(number);
    }

    private static void within(int number, int lowest, int highest) {
        if (number < lowest || number > highest) {
            throw new IllegalArgumentException();
        }
    }

    private void change() {
        history.add(world.copy());
        if (history.size() > 10) {
            history.remove(0);
        }
    }

    private int cell(int row, int column) {
        int allowed = 0;
        int rows = 0;
        for (int i = 0; i < world.items.size() && rows < row; i++) {
            if (world.items.get(i).state == 0) {
                allowed |= 1 << i;
                rows++;
            }
        }
        return world.sum(world.best(allowed, column), true);
    }

    private void cellExists(int row, int lowest, int column) {
        if (row < lowest || row > Integer.bitCount(world.set(0)) || column < 0 || column > 100) {
            throw new IndexOutOfBoundsException();
        }
    }

    private int[] weights() {
        int[] weights = new int[101];
        for (int i = 0; i <= 100; i++) {
            weights[i] = world.planWeight(i);
        }
        return weights;
    }

    private int first(int from, int weight) {
        for (int i = from; i <= 100; i++) {
            if (world.planWeight(i) >= Math.max(weight, 0)) {
                return i;
            }
        }
        return -1;
    }

    private World with(int item, int state, int value) {
        World other = world.copy();
        other.items.get(item).state = state;
        other.items.get(item).value = value;
        return other;
    }

    /** What the call with this name and these arguments is due to answer. */
    Object call(String name, int[] a) {
        int plan = world.plan(world.capacity);
        switch (name) {
            case "append":
                if (input.length() > 480) {
                    return -2;
                }
                for (int word : a) {
                    for (int shift = 24; shift >= 0; shift -= 8) {
                        input += (char) (word >> shift & 255);
                    }
                }
                return input.length();
            case "truncateInput":
                within(a[0], 0, input.length());
                input = input.substring(0, a[0]);
                return a[0];
            case "inputLength":
                return input.length();
            case "runScript":
                return runScript();
            case "addItem":
                within(a[0], 1, 60);
                within(a[1], 0, 999);
                if (world.items.size() == 14) {
                    return -2;
                }
                change();
                world.add(a[0], a[1]);
                return world.items.size() - 1;
            case "removeItem":
                item(a[0]);
                change();
                world.items.remove(a[0]);
                return world.items.size();
            case "setSize": {
                int previous = item(a[0]).size;
                within(a[1], 1, 60);
                change();
                item(a[0]).size = a[1];
                return previous;
            }
            case "setValue": {
                int previous = item(a[0]).value;
                within(a[1], 0, 999);
                change();
                item(a[0]).value = a[1];
                return previous;
            }
            case "pin":
            case "exclude":
            case "release": {
                int previous = item(a[0]).state;
                change();
                item(a[0]).state = name.equals("pin") ? 1 : name.equals("exclude") ? 2 : 0;
                return previous;
            }
            case "setCapacity": {
                within(a[0], 0, 100);
                change();
                int previous = world.capacity;
                world.capacity = a[0];
                return previous;
            }
            case "pinBest":
                if (plan < 0) {
                    throw new IllegalStateException();
                }
                change();
                return world.keep();
            case "runBackup":
                change();
                return world.backUp();
            case "runBackups": {
                within(a[0], 1, 50);
                change();
                return Integer.bitCount(union(world, a[0]));
            }
            case "undo":
                if (history.isEmpty()) {
                    return -1;
                }
                world = history.remove(history.size() - 1);
                return history.size();
            case "undoCount":
                return history.size();
            case "saveSnapshot":
                saved = world.copy();
                return saved.items.size();
            case "restoreSnapshot":
                if (saved == null) {
                    throw new java.util.NoSuchElementException();
                }
                world = saved.copy();
                history.clear();
                return world.items.size();
            case "scriptErrorKind":
                return errorKind;
            case "scriptErrorOffset":
                return errorOffset;
            default:
                return ask(name, a, plan);
        }
    }

    private int runScript() {
        String text = input;
        input = "";
        errorKind = 0;
        errorOffset = -1;
        try {
            World made = new Run(text).world();
            change();
            world = made;
            return world.items.size();
        } catch (ScriptError e) {
            errorKind = e.kind;
            errorOffset = e.offset;
            return -1;
        }
    }

    private static int union(World world, int number) {
        int taken = 0;
        for (int i = 0; i < number; i++) {
            taken |= world.backUp();
        }
        return taken;
    }

    private Object ask(String name, int[] a, int plan) {
        switch (name) {
            case "itemCount":
                return world.items.size();
            case "capacity":
                return world.capacity;
            case "size":
                return item(a[0]).size;
            case "value":
                return item(a[0]).value;
            case "age":
                return item(a[0]).age;
            case "state":
                return item(a[0]).state;
            case "weight":
                return item(a[0]).weight();
            case "pinnedItems":
                return world.set(1);
            case "pinnedSize":
                return world.sum(world.set(1), false);
            case "densestItem":
                return world.greedyOrder().isEmpty() ? -1 : world.greedyOrder().get(0);
            case "hasPlan":
                return plan >= 0;
            case "bestWeight":
                return plan < 0 ? -1 : world.sum(plan, true);
            case "bestPlan":
                return plan;
            case "bestSize":
                return plan < 0 ? -1 : world.sum(plan, false);
            case "slack":
                return plan < 0 ? -1 : world.capacity - world.sum(plan, false);
            case "isTaken":
                item(a[0]);
                return plan >= 0 && (plan >> a[0] & 1) == 1;
            case "optimalPlans":
                return plan < 0 ? 0 : optimal(plan);
            case "weightAt":
                within(a[0], 0, 100);
                return world.planWeight(a[0]);
            case "planAt":
                within(a[0], 0, 100);
                return world.plan(a[0]);
            case "capacityFor":
                return first(0, a[0]);
            case "steps": {
                int[] weights = weights();
                int steps = 0;
                for (int i = 1; i <= 100; i++) {
                    steps += weights[i] > weights[i - 1] ? 1 : 0;
                }
                return steps;
            }
            case "nextStep":
                return first(world.capacity + 1, world.planWeight(world.capacity) + 1);
            case "freeCount":
                return Integer.bitCount(world.set(0));
            case "cell":
                cellExists(a[0], 0, a[1]);
                return cell(a[0], a[1]);
            case "isRaised":
                cellExists(a[0], 1, a[1]);
                return cell(a[0], a[1]) > cell(a[0] - 1, a[1]);
            default:
                return askMore(name, a, plan);
        }
    }

    private int optimal(int plan) {
        int plans = 0;
        for (int set = 0; set < 1 << world.items.size(); set++) {
            if ((set & world.set(1)) == world.set(1) && (set & world.set(2)) == 0
                    && world.sum(set, false) <= world.capacity && world.sum(set, true) == world.sum(plan, true)) {
                plans++;
            }
        }
        return plans;
    }

    private Object askMore(String name, int[] a, int plan) {
        switch (name) {
            case "greedyPlan":
                return plan < 0 ? -1 : world.greedy();
            case "greedyWeight":
                return plan < 0 ? -1 : world.sum(world.greedy(), true);
            case "upperBound":
                return plan < 0 ? -1 : world.bound();
            case "lossIfExcluded": {
                item(a[0]);
                World then = with(a[0], 2, item(a[0]).value);
                return plan < 0 ? 0 : world.sum(plan, true) - then.planWeight(then.capacity);
            }
            case "lossIfPinned": {
                item(a[0]);
                World then = with(a[0], 1, item(a[0]).value);
                int weight = then.planWeight(then.capacity);
                return plan < 0 || weight < 0 ? -1 : world.sum(plan, true) - weight;
            }
            case "valueNeeded":
                return item(a[0]).state != 0 ? -1 : valueNeeded(a[0]);
            case "takenInBackup": {
                within(a[0], 1, 50);
                World then = world.copy();
                union(then, a[0] - 1);
                return then.backUp();
            }
            case "backupsUntil": {
                item(a[0]);
                World then = world.copy();
                for (int i = 1; i <= 50; i++) {
                    if ((then.backUp() >> a[0] & 1) == 1) {
                        return i;
                    }
                }
                return -1;
            }
            case "neglected":
                within(a[0], 1, 50);
                return (1 << world.items.size()) - 1 - union(world.copy(), a[0]);
            case "backupCount":
                return world.backups;
            case "backedUpSize":
                return (int) world.sizes;
            case "backedUpWeight":
                return (int) world.weights;
            case "fill":
                return plan < 0 || world.capacity == 0 ? 0.0 : (double) world.sum(plan, false) / (double) world.capacity;
            case "greedyShare":
                return plan < 0 || world.sum(plan, true) == 0 ? 1.0f
                        : (float) world.sum(world.greedy(), true) / (float) world.sum(plan, true);
            case "violations":
                return 0;
            case "writeItems":
                return writeItems(Math.max(plan, 0));
            case "writeRow":
                cellExists(a[0], 0, 0);
                return writeRow(a[0]);
            case "reportByte":
                return a[0] < 0 || a[0] >= report.length() ? -1 : (int) report.charAt(a[0]);
            default:
                throw new IllegalStateException("the model lacks " + name);
        }
    }

    /** By halves: once a value suffices, each greater one does. */
    private int valueNeeded(int item) {
        int low = 0;
        int high = 1000;
        while (low < high) {
            int middle = (low + high) / 2;
            World then = with(item, 0, middle);
            int plan = then.plan(then.capacity);
            if (plan >= 0 && (plan >> item & 1) == 1) {
                high = middle;
            } else {
                low = middle + 1;
            }
        }
        return low == 1000 ? -1 : low;
    }

    private int writeItems(int plan) {
        List<String> parts = new ArrayList<>();
        for (int i = 0; i < world.items.size(); i++) {
            Item item = world.items.get(i);
            parts.add(item.size + ":" + item.weight() + new String[] {"", "!", "-"}[item.state]
                    + ((plan >> i & 1) == 1 ? "*" : ""));
        }
        report = String.join(" ", parts);
        return report.length();
    }

    private int writeRow(int row) {
        List<String> parts = new ArrayList<>();
        for (int column = 0; column <= 100; column++) {
            if (column == 0 || cell(row, column) > cell(row, column - 1)) {
                parts.add(column + ":" + cell(row, column));
            }
        }
        report = String.join(" ", parts);
        return report.length();
    }
}
