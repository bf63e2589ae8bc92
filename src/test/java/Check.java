import java.io.IOException;
import java.nio.charset.StandardCharsets;
import java.nio.file.Files;
import java.nio.file.Path;

/** Counts what the tests find, and helps them to feed scripts. */
final class Check {
    static final String PROJECT = System.getProperty("project", ".");
    static int passed = 0;
    static int failed = 0;
    // The name of the test that runs, in front of each of its checks.
    static String test = "";

    interface Call {
        Object run();
    }

    static void that(String what, Object got, Object want) {
        if (got.equals(want)) {
            passed++;
        } else {
            failed++;
            System.out.println("FAILED " + test + what + ": got " + got + ", due is " + want);
        }
    }

    /** What a call answers; an exception counts as its exact class. */
    static String answer(Call call) {
        try {
            return String.valueOf(call.run());
        } catch (RuntimeException e) {
            return e.getClass().getName();
        }
    }

    /** A file of the project as a text. */
    static String text(String file) {
        try {
            return Files.readString(Path.of(PROJECT, file), StandardCharsets.UTF_8);
        } catch (IOException e) {
            throw new IllegalStateException(e);
        }
    }

    static void index(String what, Call call) {
        that(what, answer(call), "java.lang.IndexOutOfBoundsException");
    }

    static void argument(String what, Call call) {
        that(what, answer(call), "java.lang.IllegalArgumentException");
    }

    /** Puts exactly this text (characters 0 to 255) into the input buffer, which must be empty. */
    static void feed(BackupPlanner planner, String text) {
        byte[] bytes = text.getBytes(StandardCharsets.ISO_8859_1);
        for (int start = 0; start < bytes.length; start += 20) {
            int[] words = new int[5];
            for (int i = 0; i < 20; i++) {
                int sign = start + i < bytes.length ? bytes[start + i] & 255 : ' ';
                words[i / 4] = words[i / 4] << 8 | sign;
            }
            planner.append(words[0], words[1], words[2], words[3], words[4]);
        }
        planner.truncateInput(bytes.length);
    }

    static int run(BackupPlanner planner, String text) {
        feed(planner, text);
        return planner.runScript();
    }

    static BackupPlanner planner(String script) {
        BackupPlanner planner = new BackupPlanner();
        if (run(planner, script) < 0) {
            throw new IllegalStateException("the test's script is wrong at " + planner.scriptErrorOffset() + ": " + script);
        }
        return planner;
    }

    /** A planner every part of which is in use: counters, undos, a snapshot, a script error, a report and an input. */
    static BackupPlanner worn() {
        BackupPlanner planner = new BackupPlanner();
        planner.runBackup();
        planner.saveSnapshot();
        run(planner, "disk 20; item 61 1;");
        planner.setSize(0, 8);
        planner.setCapacity(30);
        planner.writeRow(1);
        feed(planner, "disk 7; item 1 1;");
        return planner;
    }

    static String report(BackupPlanner planner) {
        StringBuilder text = new StringBuilder();
        int sign = planner.reportByte(0);
        while (sign != BackupPlanner.NONE) {
            text.append((char) sign);
            sign = planner.reportByte(text.length());
        }
        return text.toString();
    }

    /** All that undo restores, in one text. */
    static String everything(BackupPlanner p) {
        StringBuilder text = new StringBuilder();
        text.append(p.capacity()).append(' ').append(p.backupCount()).append(' ').append(p.backedUpSize());
        text.append(' ').append(p.backedUpWeight()).append(':');
        int items = p.itemCount();
        for (int i = 0; i < items; i++) {
            text.append(' ').append(p.size(i)).append(',').append(p.value(i)).append(',');
            text.append(p.age(i)).append(',').append(p.state(i));
        }
        return text.toString();
    }

    /** The report, what undo restores now and step by step, and the snapshot. Uses the planner up. */
    static String restorable(BackupPlanner p) {
        StringBuilder text = new StringBuilder();
        text.append("report ").append(report(p)).append("\nundos ").append(p.undoCount()).append(", now ").append(everything(p));
        while (p.undo() != BackupPlanner.NONE) {
            text.append("\nundone ").append(everything(p));
        }
        text.append("\nsnapshot ").append(answer(p::restoreSnapshot)).append(", then ").append(everything(p));
        return text.toString();
    }

    /** All that there is in a planner, the input and the script error too. Uses the planner up. */
    static String whole(BackupPlanner p) {
        StringBuilder text = new StringBuilder();
        text.append("error ").append(p.scriptErrorKind()).append(" at ").append(p.scriptErrorOffset());
        text.append("\ninput ").append(p.inputLength()).append('\n').append(restorable(p));
        text.append("\nthe input runs ").append(p.runScript()).append(", then ").append(everything(p));
        return text.append(", error at ").append(p.scriptErrorOffset()).toString();
    }

    private Check() {
    }
}
