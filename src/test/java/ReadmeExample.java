/** The example of README.md: plans, changes that are undone, a script, a report. */
public final class ReadmeExample {
    public static void main(String[] args) {
        BackupPlanner planner = new BackupPlanner();
        System.out.println("best plan " + planner.bestPlan() + ", weight " + planner.bestWeight() + ", size " + planner.bestSize());
        System.out.println("new item " + planner.addItem(6, 25) + ", undone by " + planner.undoCount() + " undo");
        System.out.println("would be taken next " + planner.takenInBackup(1) + ", then " + planner.takenInBackup(2));
        System.out.println("taken " + planner.runBackup() + ", then best " + planner.bestPlan());
        System.out.println("still to undo " + planner.undo() + ", best again " + planner.bestPlan());

        feed(planner, "disk 9; item 4 10; repeat 2 (item 3 8;); pin 1; backup 2;");
        System.out.println("items " + planner.runScript() + ", backups " + planner.backupCount());
        System.out.println("report of " + planner.writeItems() + " bytes: " + report(planner));

        feed(planner, "disk 9; item 99 10;");
        System.out.println("wrong script " + planner.runScript() + ", kind " + planner.scriptErrorKind() + " at "
                + planner.scriptErrorOffset());
        try {
            planner.setSize(7, 5);
        } catch (IndexOutOfBoundsException e) {
            System.out.println("no item 7");
        }
    }

    /** Puts a text into the empty input buffer: 20 bytes a call, and the spaces behind its end are cut off again. */
    private static void feed(BackupPlanner planner, String text) {
        int[] words = new int[5];
        for (int start = 0; start < text.length(); start += 20) {
            for (int i = 0; i < 20; i++) {
                int sign = start + i < text.length() ? text.charAt(start + i) : ' ';
                words[i / 4] = words[i / 4] << 8 | sign;
            }
            planner.append(words[0], words[1], words[2], words[3], words[4]);
        }
        planner.truncateInput(text.length());
    }

    private static String report(BackupPlanner planner) {
        StringBuilder text = new StringBuilder();
        int sign = planner.reportByte(0);
        while (sign != BackupPlanner.NONE) {
            text.append((char) sign);
            sign = planner.reportByte(text.length());
        }
        return text.toString();
    }

    private ReadmeExample() {
    }
}
