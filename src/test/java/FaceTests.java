import java.lang.reflect.Constructor;
import java.lang.reflect.Field;
import java.lang.reflect.Method;
import java.lang.reflect.Modifier;
import java.util.StringJoiner;
import java.util.TreeSet;

/** The public face: just what the document lists, and nothing else that is not private. */
final class FaceTests {
    private static final String METHODS = "append(int,int,int,int,int):int truncateInput(int):int inputLength():int runScript():int "
            + "addItem(int,int):int removeItem(int):int setSize(int,int):int setValue(int,int):int pin(int):int exclude(int):int "
            + "release(int):int setCapacity(int):int pinBest():int runBackup():int runBackups(int):int undo():int undoCount():int "
            + "saveSnapshot():int restoreSnapshot():int scriptErrorKind():int scriptErrorOffset():int itemCount():int capacity():int "
            + "size(int):int value(int):int age(int):int state(int):int weight(int):int pinnedItems():int pinnedSize():int "
            + "densestItem():int hasPlan():boolean bestWeight():int bestPlan():int bestSize():int slack():int isTaken(int):boolean "
            + "optimalPlans():int weightAt(int):int planAt(int):int capacityFor(int):int steps():int nextStep():int freeCount():int "
            + "cell(int,int):int isRaised(int,int):boolean greedyPlan():int greedyWeight():int upperBound():int lossIfExcluded(int):int "
            + "lossIfPinned(int):int valueNeeded(int):int takenInBackup(int):int backupsUntil(int):int neglected(int):int "
            + "backupCount():int backedUpSize():int backedUpWeight():int fill():double greedyShare():float violations():int "
            + "writeItems():int writeRow(int):int reportByte(int):int";

    static void all() {
        Check.that("face: class", BackupPlanner.class.getModifiers(), Modifier.PUBLIC | Modifier.FINAL);
        methods();
        constants();
        constructors();
        classesInside();
    }

    private static void methods() {
        TreeSet<String> due = new TreeSet<>(java.util.List.of(METHODS.split(" ")));
        TreeSet<String> got = new TreeSet<>();
        for (Method method : BackupPlanner.class.getDeclaredMethods()) {
            if (!Modifier.isPrivate(method.getModifiers())) {
                Check.that("face: " + method, method.getModifiers(), Modifier.PUBLIC);
                StringJoiner types = new StringJoiner(",", method.getName() + "(", "):" + method.getReturnType());
                for (Class<?> type : method.getParameterTypes()) {
                    types.add(type.getName());
                }
                got.add(types.toString());
            }
        }
        Check.that("face: methods", got, due);
    }

    private static void constants() {
        Check.that("NONE", BackupPlanner.NONE, -1);
        Check.that("NO_ROOM", BackupPlanner.NO_ROOM, -2);
        Check.that("FREE", BackupPlanner.FREE, 0);
        Check.that("PINNED", BackupPlanner.PINNED, 1);
        Check.that("EXCLUDED", BackupPlanner.EXCLUDED, 2);
        int open = 0;
        for (Field field : BackupPlanner.class.getDeclaredFields()) {
            if (!Modifier.isPrivate(field.getModifiers())) {
                open++;
            }
        }
        Check.that("face: constants", open, 5);
    }

    private static void constructors() {
        Constructor<?>[] constructors = BackupPlanner.class.getDeclaredConstructors();
        Check.that("face: constructors", constructors.length, 1);
        Check.that("face: constructor", constructors[0].toString(), "public BackupPlanner()");
    }

    private static void classesInside() {
        TreeSet<String> names = new TreeSet<>();
        for (String method : METHODS.split(" ")) {
            names.add(method.substring(0, method.indexOf('(')));
        }
        for (Class<?> inside : BackupPlanner.class.getDeclaredClasses()) {
            int modifiers = inside.getModifiers();
            Check.that("face: " + inside, Modifier.isStatic(modifiers) && !Modifier.isPublic(modifiers), true);
            for (Method method : inside.getDeclaredMethods()) {
                Check.that("face: " + method, names.contains(method.getName()), false);
            }
        }
    }

    private FaceTests() {
    }
}
