import java.nio.charset.StandardCharsets;

/** Counts what the tests find, and helps them to feed scripts. */
final class Check {
    static int passed = 0;
    static int failed = 0;

    interface Call {
        Object run();
    }

    static void that(String what, Object got, Object want) {
        if (got.equals(want)) {
            passed++;
        } else {
            failed++;
            System.out.println("FAILED " + what + ": got " + got + ", due is " + want);
        }
    }

    /** What a call answers; an exception counts as its exact class. */
    static String answer(Call call) {
        try {
            return String.valueOf(call.run());
        } catch (RuntimeException e) {
            return e.getClass().getName();
        }
    }

    static void index(String what, Call call) {
        that(what, answer(call), "java.lang.IndexOutOfBoundsException");
    }

    static void argument(String what, Call call) {
        that(what, answer(call), "java.lang.IllegalArgumentException");
    }

    /** Puts exactly this text (characters 0 to 255) into the input buffer, which must be empty. */
    static void feed(BackupPlanner planner, String text) {
        byte[] bytes = text.getBytes(StandardCharsets.ISO_8859_1);
        for (int start = 0; start < bytes.length; start += 20) {
            int[] words = new int[5];
            for (int i = 0; i < 20; i++) {
                int sign = start + i < bytes.length ? bytes[start + i] & 255 : ' ';
                words[i / 4] = words[i / 4] << 8 | sign;
            }
            planner.append(words[0], words[1], words[2], words[3], words[4]);
        }
        planner.truncateInput(bytes.length);
    }

    static int run(BackupPlanner planner, String text) {
        feed(planner, text);
        return planner.runScript();
    }

    static BackupPlanner planner(String script) {
        BackupPlanner planner = new BackupPlanner();
        if (run(planner, script) < 0) {
            throw new IllegalStateException("the test's script is wrong at " + planner.scriptErrorOffset() + ": " + script);
        }
        return planner;
    }

    static String report(BackupPlanner planner) {
        StringBuilder text = new StringBuilder();
        for (int i = 0; planner.reportByte(i) != BackupPlanner.NONE; i++) {
            text.append((char) planner.reportByte(i));
        }
        return text.toString();
    }

    /** All that undo restores, in one text. */
    static String everything(BackupPlanner p) {
        StringBuilder text = new StringBuilder();
        text.append(p.capacity()).append(' ').append(p.backupCount()).append(' ').append(p.backedUpSize());
        text.append(' ').append(p.backedUpWeight()).append(':');
        for (int i = 0; i < p.itemCount(); i++) {
            text.append(' ').append(p.size(i)).append(',').append(p.value(i)).append(',');
            text.append(p.age(i)).append(',').append(p.state(i));
        }
        return text.toString();
    }

    private Check() {
    }
}
