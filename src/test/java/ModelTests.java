import java.lang.reflect.InvocationTargetException;
import java.lang.reflect.Method;
import java.util.ArrayList;
import java.util.HashMap;
import java.util.List;
import java.util.Map;
import java.util.Random;

/** Long runs of calls, each answer compared with the model's; the same runs every time. */
final class ModelTests {
    private static final int RUNS = 480;
    // What an object answers to later calls is free.
    private static final int CALLS = 512;
    private static final String[] WORDS = {"item", "pin", "exclude", "release", "remove", "capacity", "backup", "size", "value", "keep"};

    private final Random random;
    private final BackupPlanner planner = new BackupPlanner();
    private final Model model = new Model();
    private final Map<String, Method> methods = new HashMap<>();
    private final List<String> names = new ArrayList<>();
    private final StringBuilder calls = new StringBuilder();
    private boolean wrong = false;
    private int made = 0;
    // The commands that the script has so far, each counted as often as it is repeated.
    private int scriptItems = 0;

    private ModelTests(int seed) {
        random = new Random(seed);
        for (Method method : BackupPlanner.class.getDeclaredMethods()) {
            if (java.lang.reflect.Modifier.isPublic(method.getModifiers())) {
                methods.put(method.getName(), method);
            }
        }
        names.addAll(new java.util.TreeSet<>(methods.keySet()));
    }

    static void all() {
        for (int run = 0; run < RUNS; run++) {
            ModelTests tests = new ModelTests(run);
            while (!tests.isOver()) {
                tests.step(run);
            }
            Check.that("model: run " + run, tests.wrong, false);
        }
    }

    private boolean isOver() {
        return wrong || made >= CALLS;
    }

    private void step(int run) {
        switch (random.nextInt(12)) {
            case 0:
                script(run);
                return;
            case 1:
            case 2:
                if (model.world.items.size() < 11 + run % 4) {
                    call("addItem", new int[] {size(), value()});
                }
                return;
            case 3:
                call(random.nextInt(3) == 0 ? "runBackups" : "runBackup");
                return;
            default:
                call(names.get(random.nextInt(names.size())));
        }
    }

    private void call(String name) {
        switch (name) {
            case "append":
                call(name, new int[] {random.nextInt(), random.nextInt(), random.nextInt(), random.nextInt(), random.nextInt()});
                break;
            case "truncateInput":
                call(name, new int[] {number(0, model.input.length())});
                break;
            case "addItem":
                call(name, new int[] {size(), value()});
                break;
            case "setSize":
                call(name, new int[] {item(), size()});
                break;
            case "setValue":
                call(name, new int[] {item(), value()});
                break;
            case "setCapacity":
            case "weightAt":
            case "planAt":
                call(name, new int[] {capacity()});
                break;
            case "runBackups":
            case "takenInBackup":
            case "neglected":
                call(name, new int[] {random.nextInt(3) == 0 ? number(1, 50) : number(1, 5)});
                break;
            case "capacityFor":
                call(name, new int[] {number(0, 3 * Math.max(1, model.world.planWeight(model.world.capacity)))});
                break;
            case "cell":
            case "isRaised":
                call(name, new int[] {number(0, Integer.bitCount(model.world.set(0))), number(0, 100)});
                break;
            case "writeRow":
                call(name, new int[] {number(0, Integer.bitCount(model.world.set(0)))});
                readReport();
                break;
            case "writeItems":
                call(name, new int[0]);
                readReport();
                break;
            case "reportByte":
                call(name, new int[] {number(0, model.report.length() - 1)});
                break;
            default:
                call(name, methods.get(name).getParameterCount() == 0 ? new int[0] : new int[] {item()});
        }
    }

    // Seldom as a whole, for it takes many of the calls that a run has.
    private void readReport() {
        if (random.nextInt(3) > 0) {
            return;
        }
        for (int i = 0; i <= model.report.length(); i++) {
            call("reportByte", new int[] {i});
        }
    }

    private void call(String name, int[] arguments) {
        if (isOver()) {
            return;
        }
        made++;
        Object[] boxed = new Object[arguments.length];
        for (int i = 0; i < boxed.length; i++) {
            boxed[i] = arguments[i];
        }
        String got;
        try {
            got = String.valueOf(methods.get(name).invoke(planner, boxed));
        } catch (InvocationTargetException e) {
            got = e.getCause().getClass().getName();
        } catch (IllegalAccessException e) {
            throw new IllegalStateException(e);
        }
        String due = Check.answer(() -> model.call(name, arguments));
        calls.append(name).append(java.util.Arrays.toString(arguments)).append(' ').append(got).append('\n');
        if (!got.equals(due)) {
            wrong = true;
            System.out.println(calls + "due is " + due);
        }
    }

    // Mostly within the bounds, often at them, sometimes beyond them.
    private int number(int lowest, int highest) {
        switch (random.nextInt(24)) {
            case 0:
                return lowest - 1;
            case 1:
                return highest + 1;
            case 2:
                return lowest;
            case 3:
                return highest;
            case 4:
                return random.nextInt(4) == 0 ? random.nextInt() : lowest;
            default:
                return lowest + random.nextInt(Math.max(1, highest - lowest + 1));
        }
    }

    private int item() {
        return number(0, model.world.items.size() - 1);
    }

    // Few different sizes and values make many equal plans.
    private int size() {
        return random.nextInt(3) == 0 ? number(1, 60) : 1 + random.nextInt(12);
    }

    private int value() {
        return random.nextInt(3) == 0 ? number(0, 999) : random.nextInt(10) * 3;
    }

    private int capacity() {
        return random.nextInt(2) == 0 ? number(0, 100) : random.nextInt(40);
    }

    // ---- scripts

    private void script(int run) {
        call("truncateInput", new int[] {0});
        StringBuilder text = new StringBuilder("disk " + random.nextInt(60) + ";");
        scriptItems = 0;
        int length = 1 + random.nextInt(run % 3 == 0 ? 30 : 10);
        for (int i = 0; i < length; i++) {
            command(text, 0);
        }
        if (random.nextInt(3) == 0) {
            spoil(text);
        }
        if (text.length() > 500) {
            text.setLength(500);
        }
        feed(text.toString());
        call("runScript", new int[0]);
        call("scriptErrorKind", new int[0]);
        call("scriptErrorOffset", new int[0]);
        call("itemCount", new int[0]);
        call("writeItems");
        call("backedUpWeight", new int[0]);
    }

    private void command(StringBuilder text, int level) {
        if (random.nextInt(6) == 0 && (level < 2 || random.nextInt(8) == 0)) {
            text.append("repeat ").append(random.nextInt(3) == 0 ? number(1, 20) : number(1, 3)).append(" (");
            for (int i = random.nextInt(4); i > 0; i--) {
                command(text, level + 1);
            }
            text.append(");");
            return;
        }
        String word = scriptItems < 2 ? "item" : WORDS[random.nextInt(WORDS.length)];
        text.append(word);
        switch (word) {
            case "item":
                scriptItems++;
                text.append(' ').append(size()).append(' ').append(value());
                break;
            case "capacity":
                text.append(' ').append(capacity());
                break;
            case "backup":
                text.append(' ').append(random.nextInt(4) == 0 ? number(1, 50) : 1);
                break;
            case "size":
                text.append(' ').append(scriptItem()).append(' ').append(size());
                break;
            case "value":
                text.append(' ').append(scriptItem()).append(' ').append(value());
                break;
            case "keep":
                break;
            default:
                text.append(' ').append(scriptItem());
                break;
        }
        text.append(random.nextInt(5) == 0 ? " ;\n" : ";");
    }

    private int scriptItem() {
        return random.nextInt(30) == 0 ? scriptItems : random.nextInt(Math.max(1, scriptItems - 1));
    }

    private void spoil(StringBuilder text) {
        int place = random.nextInt(text.length() + 1);
        switch (random.nextInt(4)) {
            case 0:
                text.setLength(place);
                break;
            case 1:
                text.insert(place, (char) random.nextInt(256));
                break;
            case 2:
                text.insert(place, new String[] {";", " ", "(", ")", "0", "repeat", "12345", "x", "disk 1;"}[random.nextInt(9)]);
                break;
            default:
                if (place < text.length()) {
                    text.deleteCharAt(place);
                }
        }
    }

    private void feed(String text) {
        for (int start = 0; start < text.length(); start += 20) {
            int[] words = new int[5];
            for (int i = 0; i < 20; i++) {
                int sign = start + i < text.length() ? text.charAt(start + i) : random.nextInt(256);
                words[i / 4] = words[i / 4] << 8 | sign;
            }
            call("append", words);
        }
        call("truncateInput", new int[] {text.length()});
    }
}
