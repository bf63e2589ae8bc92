/** Runs every test of the project; ends with exit code 1 if one fails. */
public final class AllTests {
    public static void main(String[] args) {
        FaceTests.all();
        LanguageTests.all();
        ReadmeTests.all();
        InputTests.all();
        ChangeTests.all();
        ItemTests.all();
        PlanTests.all();
        WhatIfTests.all();
        ReportTests.all();
        ModelTests.all();
        TermsSentences.all();
        ScriptSentences.all();
        InputSentences.all();
        ChangeSentences.all();
        ItemSentences.all();
        PlanSentences.all();
        WhatIfSentences.all();
        ReportSentences.all();
        Sentences.complete();
        System.out.println(Check.passed + " passed, " + Check.failed + " failed");
        if (Check.failed > 0) {
            System.exit(1);
        }
    }

    private AllTests() {
    }
}
