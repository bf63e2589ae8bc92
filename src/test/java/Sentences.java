import java.io.IOException;
import java.nio.charset.StandardCharsets;
import java.nio.file.Files;
import java.nio.file.Path;
import java.util.ArrayList;
import java.util.LinkedHashMap;
import java.util.LinkedHashSet;
import java.util.List;
import java.util.Map;
import java.util.Set;
import java.util.function.Supplier;

/**
 * Tests that belong to one sentence of DOC.md each, and are named by its promise and by its words. The words are
 * looked up in the document, and each sentence of the promises, of "Terms" and of "What it is" must have a test.
 */
abstract class Sentences {
    interface Call {
        Object on(BackupPlanner planner);
    }

    interface NumberCall {
        Object on(BackupPlanner planner, int number);
    }

    static final String INDEX = "java.lang.IndexOutOfBoundsException";
    static final String ARGUMENT = "java.lang.IllegalArgumentException";
    static final String STATE = "java.lang.IllegalStateException";
    static final String ELEMENT = "java.util.NoSuchElementException";

    // The subject, titles in front of a paragraph, and the lines that only tell how the face is laid out.
    private static final String NEEDS_NO_TEST =
            "A planner for backups .*|(Items|Plans|The table|The greedy plan|Backups|Scripts|Undo)\\.|Ahead of the calls .*";

    private static final Map<String, List<String>> DOCUMENT = readDocument();
    private static final Set<String> TESTED = new LinkedHashSet<>();
    private static String place = "";

    // ---- sentences

    /** Tells where the next sentences stand: a title of the document. */
    static void place(String title) {
        place = title;
        if (!DOCUMENT.isEmpty()) {
            Check.that("the document has " + title, DOCUMENT.containsKey(title), true);
        }
    }

    /** Runs the test of a sentence, or of the part of one that names a case of its own. */
    static void holds(String words, Runnable test) {
        Check.test = place + " | " + words + " | ";
        int before = Check.passed + Check.failed;
        try {
            test.run();
        } catch (RuntimeException e) {
            Check.that("the test ends", e.toString(), "without an exception");
        }
        Check.that("the test tests something", Check.passed + Check.failed > before, true);
        markTested(words);
        Check.test = "";
    }

    private static void markTested(String words) {
        boolean found = DOCUMENT.isEmpty();
        for (String sentence : DOCUMENT.getOrDefault(place, List.of())) {
            if (sentence.contains(words)) {
                TESTED.add(place + " | " + sentence);
                found = true;
            }
        }
        Check.that("the document says so", found, true);
    }

    /** To be called behind all tests: looks for sentences without one. */
    static void complete() {
        for (Map.Entry<String, List<String>> part : DOCUMENT.entrySet()) {
            for (String sentence : part.getValue()) {
                boolean tested = TESTED.contains(part.getKey() + " | " + sentence);
                Check.that("a test of " + part.getKey() + " | " + sentence, tested || sentence.matches(NEEDS_NO_TEST), true);
            }
        }
    }

    private static Map<String, List<String>> readDocument() {
        Map<String, List<String>> parts = new LinkedHashMap<>();
        Path path = Path.of(System.getProperty("document", "../shared/DOC.md"));
        if (!Files.isReadable(path)) {
            System.out.println("no document at " + path + ": the sentences are tested, but not looked up");
            return parts;
        }
        try {
            List<String> part = new ArrayList<>();
            for (String line : Files.readAllLines(path, StandardCharsets.UTF_8)) {
                if (line.startsWith("#")) {
                    part = new ArrayList<>();
                    String title = line.replaceFirst("#+ ", "");
                    if (title.equals("What it is") || title.equals("Terms") || title.startsWith("Promise ")) {
                        parts.put(title, part);
                    }
                } else if (!line.isBlank() && !line.startsWith("```")) {
                    part.addAll(List.of(line.trim().split("(?<=\\.) (?=[A-Z\"`])")));
                }
            }
        } catch (IOException e) {
            throw new IllegalStateException(e);
        }
        return parts;
    }

    // ---- what the tests say

    static void that(String what, Object got, Object want) {
        Check.that(what, got, want);
    }

    static BackupPlanner planner(String script) {
        return Check.planner(script);
    }

    static String all(BackupPlanner planner) {
        return Check.everything(planner);
    }

    /** Runs a script on a new object and tells all that the object then holds. */
    static void script(String what, String text, String want) {
        that(what, all(planner(text)), want);
    }

    /** A script that is refused: its error, and that nothing but the input buffer and the error changes. */
    static void error(String what, String text, int kind, int offset) {
        BackupPlanner planner = Check.worn();
        planner.truncateInput(0);
        that(what + ": answer", Check.run(planner, text), -1);
        that(what + ": kind and offset", planner.scriptErrorKind() + " at " + planner.scriptErrorOffset(), kind + " at " + offset);
        BackupPlanner twin = Check.worn();
        twin.truncateInput(0);
        that(what + ": changes nothing else", Check.restorable(planner), Check.restorable(twin));
    }

    /** A call that throws: the exception, and that nothing changes, compared with a twin that did not get the call. */
    static void refused(String what, String exception, Supplier<BackupPlanner> maker, Call call) {
        BackupPlanner planner = maker.get();
        that(what, Check.answer(() -> call.on(planner)), exception);
        that(what + " changes nothing", Check.whole(planner), Check.whole(maker.get()));
    }

    static void accepts(NumberCall call, int... numbers) {
        for (int number : numbers) {
            BackupPlanner planner = Check.worn();
            String answer = Check.answer(() -> call.on(planner, number));
            that(number + " is taken, answer " + answer, answer.endsWith("Exception"), false);
        }
    }

    /** Numbers on both sides of a range are refused: those next to it, and if these are, those far away (which may take long). */
    static void refusesBeyond(int lowest, int highest, String exception, NumberCall call) {
        int[] numbers = {lowest - 1, highest + 1, -lowest - 2, lowest + 256, highest + 65536, Integer.MIN_VALUE, Integer.MIN_VALUE + highest,
            Integer.MAX_VALUE};
        int failed = Check.failed;
        for (int number : numbers) {
            if (Check.failed == failed && (number < lowest || number > highest)) {
                refused("number " + number, exception, Check::worn, p -> call.on(p, number));
            }
        }
    }

    /** The first and the last of the items are taken, also if there is one only, and if there are 14. */
    static void takesItems(NumberCall call) {
        accepts(call, 0, 1, 2, 3, 4, 5);
        BackupPlanner single = planner("disk 9; item 1 1;");
        that("the only item is taken", Check.answer(() -> call.on(single, 0)).endsWith("Exception"), false);
        BackupPlanner full = full();
        that("item 13 is taken", Check.answer(() -> call.on(full, 13)).endsWith("Exception"), false);
    }

    static void refusesOtherItems(NumberCall call) {
        refusesBeyond(0, 5, INDEX, call);
        for (int item : new int[] {13, 14, 32, 64, -32}) {
            refused("item " + item, INDEX, Check::worn, p -> call.on(p, item));
        }
        refused("item 0 of none", INDEX, () -> planner("disk 9;"), p -> call.on(p, 0));
        refused("item 14 of 14", INDEX, Sentences::full, p -> call.on(p, 14));
        refused("an item that was removed", INDEX, Sentences::withoutItem5, p -> call.on(p, 5));
    }

    static BackupPlanner full() {
        return planner("disk 98; repeat 14 (item 7 999;);");
    }

    private static BackupPlanner withoutItem5() {
        BackupPlanner planner = new BackupPlanner();
        planner.removeItem(2);
        return planner;
    }

    /** Three items of which the pinned one is greater by 1 than the capacity. */
    static BackupPlanner withoutPlan() {
        return planner("disk 5; item 6 7; item 2 3; item 1 9; pin 0; exclude 2;");
    }

    static BackupPlanner empty() {
        return planner("disk 0;");
    }
}
