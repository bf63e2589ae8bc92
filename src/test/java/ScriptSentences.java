/** The sentences of "Terms" about scripts: the grammar, the tokens and the kinds of errors. */
final class ScriptSentences extends Sentences {
    private static final String ONE_ITEM = "9 0 0 0: 1,2,0,0";

    static void all() {
        place("Terms");
        holds("A script is a text of at most 500 bytes.", ScriptSentences::atMost500Bytes);
        grammar();
        tokens();
        meanings();
        firstError();
        wrongTokens();
        wrongNumbers();
        impossibleCommands();
        deepRepeats();
        tooManyCommands();
    }

    private static String padded(String start, int length, String end) {
        return start + " ".repeat(length - start.length() - end.length()) + end;
    }

    private static void atMost500Bytes() {
        script("500 bytes", padded("disk 9;", 500, "item 1 2;"), ONE_ITEM);
        error("an error in the last of 500 bytes", padded("disk 9;", 500, "?"), 1, 499);
        error("the end of 500 bytes", padded("disk 9;", 500, "item 1 2"), 1, 500);
        BackupPlanner p = new BackupPlanner();
        Check.feed(p, padded("disk 9;", 500, "item 1 2;"));
        that("no byte more", p.append(0x20202020, 0x20202020, 0x20202020, 0x20202020, 0x3f202020), -2);
        that("the 500 bytes run", p.runScript() + all(p), 1 + ONE_ITEM);
    }

    // ---- the grammar

    private static void grammar() {
        holds("script  = \"disk\" CAPACITY \";\"", ScriptSentences::diskFirst);
        holds("{ command \";\" }", ScriptSentences::anyNumberOfCommands);
        holds("\"item\" SIZE VALUE", () -> command("item 1 2", "item 1", "item 1 2 3"));
        holds("\"pin\" ITEM", () -> command("pin 0", "pin", "pin 0 0"));
        holds("\"exclude\" ITEM", () -> command("exclude 0", "exclude", "exclude 0 0"));
        holds("\"release\" ITEM", () -> command("release 0", "release", "release 0 0"));
        holds("\"remove\" ITEM", () -> command("remove 0", "remove", "remove 0 0"));
        holds("\"capacity\" CAPACITY", () -> command("capacity 9", "capacity", "capacity 9 9"));
        holds("\"backup\" N", () -> command("backup 1", "backup", "backup 1 1"));
        holds("\"size\" ITEM SIZE", () -> command("size 0 1", "size 0", "size 0 1 1"));
        holds("\"value\" ITEM VALUE", () -> command("value 0 1", "value 0", "value 0 1 1"));
        holds("\"keep\"", () -> command("keep", "", "keep 0"));
        holds("\"repeat\" N \"(\" { command \";\" } \")\"", ScriptSentences::repeatGrammar);
    }

    private static void diskFirst() {
        script("alone", "disk 9;", "9 0 0 0:");
        error("no text", "", 1, 0);
        error("another command", "item 1 2;", 1, 0);
        error("a number", "9;", 1, 0);
        error("no capacity", "disk;", 1, 4);
        error("a word for the capacity", "disk disk;", 1, 5);
        error("no semicolon", "disk 9 item 1 2;", 1, 7);
        error("a second one", "disk 9; disk 9;", 1, 8);
        error("a semicolon first", ";disk 9;", 1, 0);
        error("in a repeat", "disk 9; repeat 1 (disk 9;);", 1, 18);
    }

    private static void anyNumberOfCommands() {
        script("none", "disk 9;", "9 0 0 0:");
        script("one", "disk 9; item 1 2;", ONE_ITEM);
        script("100", "disk 9; item 1 2; capacity 8; repeat 14 (repeat 7 (capacity 9;););", ONE_ITEM);
        error("an empty one", "disk 9;;", 1, 7);
        error("no semicolon between two", "disk 9; item 1 2 item 1 2;", 1, 17);
        error("no semicolon behind the last", "disk 9; item 1 2", 1, 16);
    }

    /** A command as it should be; with too little, the semicolon is the error; with too much, the last number. */
    private static void command(String right, String little, String much) {
        String start = "disk 9; item 1 2; ";
        that("right", Check.run(new BackupPlanner(), start + right + ";") >= 0, true);
        error("too little", start + little + ";", 1, start.length() + little.length());
        error("too much", start + much + ";", 1, start.length() + much.length() - 1);
        error("no semicolon", start + right, 1, start.length() + right.length());
        error("a parenthesis for the semicolon", start + right + ")", 1, start.length() + right.length());
        error("a word for what follows", start + right.split(" ")[0] + " x;", 1, start.length() + right.split(" ")[0].length() + 1);
    }

    private static void repeatGrammar() {
        script("no command", "disk 9; repeat 20 (); item 1 2;", ONE_ITEM);
        script("one command", "disk 9; repeat 1 (item 1 2;);", ONE_ITEM);
        script("two commands", "disk 9; repeat 1 (item 1 3; value 0 2;);", ONE_ITEM);
        script("in a repeat", "disk 9; repeat 1 (repeat 1 (item 1 2;););", ONE_ITEM);
        script("empty in empty ones", "disk 9; repeat 20 (repeat 20 (); repeat 20 (););", "9 0 0 0:");
        error("no number", "disk 9; repeat (item 1 2;);", 1, 15);
        error("no opening parenthesis", "disk 9; repeat 1 item 1 2;);", 1, 17);
        error("a closing parenthesis first", "disk 9; repeat 1 ) item 1 2;);", 1, 17);
        error("two opening parentheses", "disk 9; repeat 1 ((item 1 2;););", 1, 18);
        error("no semicolon before the closing parenthesis", "disk 9; repeat 1 (item 1 2);", 1, 26);
        error("no closing parenthesis", "disk 9; repeat 1 (item 1 2;;", 1, 27);
        error("no end", "disk 9; repeat 1 (item 1 2;", 1, 27);
        error("no semicolon behind it", "disk 9; repeat 1 (item 1 2;) item 1 2;", 1, 29);
        error("two closing parentheses", "disk 9; repeat 1 (item 1 2;));", 1, 28);
        error("a closing parenthesis alone", "disk 9; );", 1, 8);
    }

    // ---- tokens

    private static void tokens() {
        holds("a word (a maximal run of the letters a to z)", ScriptSentences::words);
        holds("a number (a maximal run of 1 to 4 digits)", ScriptSentences::numbers);
        holds("a parenthesis or a semicolon", ScriptSentences::signs);
        holds("Spaces (byte 32) and line feeds (byte 10) separate tokens and are otherwise ignored.", ScriptSentences::separators);
    }

    private static void words() {
        error("one letter more", "disk 9; items 1 2;", 1, 8);
        error("one letter before", "disk 9; aitem 1 2;", 1, 8);
        error("one letter less", "disk 9; ite 1 2;", 1, 8);
        error("two words run together", "disk 9; keepkeep;", 1, 8);
        error("a word in two", "disk 9; it em 1 2;", 1, 8);
        error("disk in two", "di sk 9;", 1, 0);
        error("a, the first letter", "disk 9; a;", 1, 8);
        error("z, the last letter", "disk 9; z;", 1, 8);
        error("a longest word", "a".repeat(500), 1, 0);
        otherLetters("disk", "", " 9;");
        for (String word : new String[] {"item", "pin", "exclude", "release", "remove", "capacity", "backup", "size", "value", "keep", "repeat"}) {
            otherLetters(word, "disk 9; ", " 1 1;");
        }
        script("a word ends at a digit", "disk9;item1 2;", ONE_ITEM);
        script("a word ends at a sign", "disk 9;repeat 1(item 1 2;keep;release 0;);", ONE_ITEM);
    }

    /** A word with another letter, a letter too few or a letter too many at each of its places. */
    private static void otherLetters(String word, String start, String end) {
        for (int place = 0; place < word.length(); place++) {
            String head = start + word.substring(0, place);
            String tail = word.substring(place + 1) + end;
            char other = word.charAt(place) == 'z' ? 'a' : (char) (word.charAt(place) + 1);
            error(word + ": another letter " + place, head + other + tail, 1, start.length());
            error(word + ": a great letter " + place, head + Character.toUpperCase(word.charAt(place)) + tail, 1, start.length());
            error(word + ": no letter " + place, head + tail, 1, start.length());
            error(word + ": letter " + place + " twice", head + word.charAt(place) + word.charAt(place) + tail, 1, start.length());
        }
    }

    private static void numbers() {
        script("1 digit", "disk 9; item 1 2;", ONE_ITEM);
        script("4 digits", "disk 0009; item 0001 0002;", ONE_ITEM);
        error("5 digits", "disk 00009;", 1, 5);
        error("5 digits at the end of the text", "disk 00009", 1, 5);
        error("500 digits", "disk " + "0".repeat(495), 1, 5);
        error("as great as 4 digits go", "disk 9999;", 2, 5);
        error("two runs are two numbers", "disk 0 9;", 1, 7);
        error("a sign is no digit", "disk -9;", 1, 5);
        script("a number ends at a letter", "disk 9;repeat 1(item 1 2;);", ONE_ITEM);
        error("a number ends at a letter, a wrong one", "disk 9x;", 1, 6);
    }

    private static void signs() {
        script("next to each other", "disk 9;repeat 1(repeat 1(););item 1 2;", ONE_ITEM);
        error("each semicolon is a token", "disk 9;;;", 1, 7);
        error("each parenthesis is a token", "disk 9;repeat 1((", 1, 16);
    }

    private static void separators() {
        script("none", "disk9;item1 2;", ONE_ITEM);
        script("spaces everywhere", "  disk  9  ;  repeat  1  (  item  1  2  ;  )  ;  ", ONE_ITEM);
        script("line feeds everywhere", "\ndisk\n9\n;\nrepeat\n1\n(\nitem\n1\n2\n;\n)\n;\n", ONE_ITEM);
        script("many", padded("disk 9;item", 490, "1 2; \n \n"), ONE_ITEM);
        error("nothing else", " \n ", 1, 3);
        error("a tabulator (byte 9)", "disk 9;\titem 1 2;", 1, 7);
        error("byte 11", "disk 9;\u000bitem 1 2;", 1, 7);
        error("a carriage return (byte 13)", "disk 9;\r\nitem 1 2;", 1, 7);
        error("byte 31", "disk 9;\u001fitem 1 2;", 1, 7);
        error("byte 33", "disk 9;!item 1 2;", 1, 7);
        error("byte 160", "disk 9;\u00a0item 1 2;", 1, 7);
    }

    // ---- what the commands do

    private static void meanings() {
        holds("\"item\" adds an item", ScriptSentences::itemAdds);
        holds("\"pin\", \"exclude\" and \"release\" make an item PINNED, EXCLUDED and FREE", ScriptSentences::statesAreMade);
        holds("\"backup\" runs N backups (1 to 50)", ScriptSentences::backupTimes);
        holds("\"size\" and \"value\" set the size and the value of an item", ScriptSentences::sizeAndValue);
        holds("\"keep\" pins the items of the best plan as pinBest() does", ScriptSentences::keepPins);
        holds("\"repeat\" executes the commands in its parentheses N times (1 to 20)", ScriptSentences::repeatTimes);
        holds("Commands are executed one after the other.", ScriptSentences::oneAfterTheOther);
    }

    private static void itemAdds() {
        script("behind the others", "disk 9; item 1 2; item 3 4; backup 1; item 60 999; item 1 0;", "9 1 4 6: 1,2,0,0 3,4,0,0 60,999,0,0 1,0,0,0");
        that("up to 14", planner("disk 9; repeat 14 (item 1 1;);").itemCount(), 14);
    }

    private static void statesAreMade() {
        String three = "disk 9; item 1 2; item 1 2; item 1 2; ";
        script("free ones", three + "pin 0; exclude 1; release 2;", "9 0 0 0: 1,2,0,1 1,2,0,2 1,2,0,0");
        script("pinned ones", three + "pin 0; pin 1; pin 2; pin 0; exclude 1; release 2;", "9 0 0 0: 1,2,0,1 1,2,0,2 1,2,0,0");
        script("excluded ones", three + "exclude 0; exclude 1; exclude 2; pin 0; exclude 1; release 2;", "9 0 0 0: 1,2,0,1 1,2,0,2 1,2,0,0");
    }

    private static void backupTimes() {
        script("1", "disk 1; item 1 2; backup 1;", "1 1 1 2: 1,2,0,0");
        script("50", "disk 1; item 1 2; backup 50;", "1 50 50 100: 1,2,0,0");
        error("0", "disk 1; backup 0;", 2, 15);
        error("51", "disk 1; backup 51;", 2, 15);
        script("without a plan", "disk 1; item 2 2; pin 0; backup 1;", "1 1 0 0: 2,2,1,1");
    }

    private static void sizeAndValue() {
        script("bounds", "disk 1; item 2 2; item 3 3; size 0 1; size 1 60; value 0 0; value 1 999;", "1 0 0 0: 1,0,0,0 60,999,0,0");
        script("age and state stay", "disk 1; item 2 2; pin 0; backup 1; size 0 4; value 0 4;", "1 1 0 0: 4,4,1,1");
    }

    private static void keepPins() {
        script("the best plan", "disk 3; item 3 5; item 1 1; item 2 5; keep;", "3 0 0 0: 3,5,0,0 1,1,0,1 2,5,0,1");
        script("an empty plan", "disk 0; item 1 1; keep;", "0 0 0 0: 1,1,0,0");
        script("no items", "disk 0; keep;", "0 0 0 0:");
        script("pinned ones as great as the disk", "disk 3; item 3 0; item 1 9; pin 0; keep;", "3 0 0 0: 3,0,0,1 1,9,0,0");
        script("excluded ones stay", "disk 3; item 3 5; exclude 0; keep;", "3 0 0 0: 3,5,0,2");
    }

    private static void repeatTimes() {
        script("1", "disk 0; repeat 1 (backup 1;);", "0 1 0 0:");
        script("20", "disk 0; repeat 20 (backup 1;);", "0 20 0 0:");
        error("0", "disk 0; repeat 0 (backup 1;);", 2, 15);
        error("21", "disk 0; repeat 21 (backup 1;);", 2, 15);
        script("20 in 5", "disk 0; repeat 5 (repeat 20 (backup 1;););", "0 100 0 0:");
        script("the inner one anew each time", "disk 0; repeat 3 (repeat 2 (backup 1;); backup 10;);", "0 36 0 0:");
        script("what follows once", "disk 0; repeat 20 (backup 1;); backup 2;", "0 22 0 0:");
    }

    private static void oneAfterTheOther() {
        script("each sees what the one before did", "disk 1; item 2 3; backup 1; capacity 2; backup 1; size 0 1; backup 1;", "2 3 3 9: 1,3,0,0");
        script("a removed number is given anew", "disk 1; item 1 1; item 2 2; remove 0; pin 0; item 3 3; exclude 1;", "1 0 0 0: 2,2,0,1 3,3,0,2");
        error("an item that is added later", "disk 1; pin 0; item 1 1;", 2, 12);
        error("an item that was removed", "disk 1; item 1 1; remove 0; pin 0;", 2, 32);
    }

    // ---- errors

    private static void firstError() {
        holds("The first error that is found while the commands are executed is reported", ScriptSentences::firstFound);
        holds("with the offset of the first byte of its token", ScriptSentences::firstByte);
        holds("also if it is found in a later repetition", ScriptSentences::laterRepetition);
        holds("if several kinds apply to one token, the smallest one is reported", ScriptSentences::smallestKind);
    }

    private static void firstFound() {
        error("of two wrong numbers", "disk 1; item 99 9999;", 2, 13);
        error("of a number and a token", "disk 1; item 99 x", 2, 13);
        error("of a token and a number", "disk 1; item x 9999", 1, 13);
        error("of two commands", "disk 101; ???", 2, 5);
        error("of a repetition and what stands behind", "disk 1; item 1 1; repeat 2 (remove 0;) ???", 2, 35);
        error("of a repeat's number and what stands in it", "disk 1; repeat 21 (???", 2, 15);
    }

    private static void firstByte() {
        error("of a word", "disk 1;  xyz", 1, 9);
        error("of a number", "disk  1234;", 2, 6);
        error("of a long number", "disk  12345;", 1, 6);
        error("of the text", "?", 1, 0);
        error("of a token right behind another", "disk 1;item 1 1;pin0;pin1;", 2, 24);
        error("behind line feeds", "\n\ndisk\n\n101;", 2, 8);
    }

    private static void laterRepetition() {
        error("second", "disk 1; item 1 1; item 1 1; repeat 3 (remove 1;);", 2, 45);
        error("last of 20", "disk 1; keep; repeat 20 (keep;keep;keep;keep;keep;);", 5, 45);
        error("second of the inner one in the second of the outer one", "disk 1; item 1 1; item 1 1; item 1 1; repeat 2 (repeat 2 (remove 0;););", 2, 65);
        error("15th item", "disk 1; repeat 15 (item 1 1;);", 3, 27);
        error("keep without a plan any more", "disk 3; item 2 1; repeat 3 (keep; item 2 1; pin 1;);", 3, 32);
    }

    private static void smallestKind() {
        String full = "disk 1; repeat 14 (item 1 1;); ";
        String hundred = "disk 1; repeat 5 (repeat 20 (backup 1;);); ";
        error("1 of 1 and 2: long number out of its range", "disk 99999;", 1, 5);
        error("1 of 1 and 3: no semicolon behind a 15th item", full + "item 1 1)", 1, full.length() + 8);
        error("1 of 1 and 3: no semicolon behind keep", "disk 1; item 2 1; pin 0; keep)", 1, 29);
        error("1 of 1 and 4: repeat for a number", "disk 1; repeat 1 (repeat 1 (pin repeat", 1, 32);
        error("1 of 1 and 5: no word of a command", hundred + "xyz", 1, hundred.length());
        error("1 of 1 and 5: no word", hundred + "1", 1, hundred.length());
        error("1 of 1 and 5: the closing parenthesis", hundred + ")", 1, hundred.length());
        error("2 of a 15th item", full + "item 61 1;", 2, full.length() + 5);
        error("5 alone", hundred + "item 61 1;", 5, hundred.length());
    }

    // ---- kind 1

    private static void wrongTokens() {
        holds("1, a token that the grammar does not allow at this place", ScriptSentences::notAllowed);
        holds("a run of more than 4 digits", ScriptSentences::moreThan4Digits);
        holds("a byte that does not begin a token", ScriptSentences::wrongBytes);
        holds("the end of the text inside a statement (the offset is then the length of the text)", ScriptSentences::endInside);
    }

    private static void notAllowed() {
        String[] tokens = {"disk", "item", "keep", "repeat", "x", "1", "(", ")", ";"};
        places("at the start", "", tokens, "disk");
        places("behind disk", "disk ", tokens, "1");
        places("behind the capacity", "disk 1 ", tokens, ";");
        places("for a command", "disk 1; ", tokens, "item", "keep", "repeat");
        places("for a size", "disk 1; item ", tokens, "1");
        places("for a value", "disk 1; item 1 ", tokens, "1");
        places("behind a command", "disk 1; item 1 1 ", tokens, ";");
        places("behind keep", "disk 1; keep ", tokens, ";");
        places("behind repeat", "disk 1; repeat ", tokens, "1");
        places("behind the times", "disk 1; repeat 1 ", tokens, "(");
        places("in the parentheses", "disk 1; repeat 1 (", tokens, "item", "keep", "repeat", ")");
        places("behind the parentheses", "disk 1; repeat 1 () ", tokens, ";");
    }

    /** Each of the tokens, but for those that are right, is the error; behind a right one it is what follows. */
    private static void places(String what, String start, String[] tokens, String... right) {
        for (String token : tokens) {
            BackupPlanner p = new BackupPlanner();
            Check.run(p, start + token + " ?");
            boolean allowed = java.util.List.of(right).contains(token);
            String error = p.scriptErrorKind() + " at " + p.scriptErrorOffset();
            that(what + ": " + token, error, "1 at " + (start.length() + (allowed ? token.length() + 1 : 0)));
        }
    }

    private static void moreThan4Digits() {
        error("disk", "disk 00001;", 1, 5);
        error("size", "disk 1; item 00001 1;", 1, 13);
        error("item", "disk 1; item 1 1; pin 00000;", 1, 22);
        error("backup", "disk 1; backup 00001;", 1, 15);
        error("repeat", "disk 1; repeat 00001 ();", 1, 15);
        error("for a word", "disk 1; 00001;", 1, 8);
        error("for a semicolon", "disk 1 00001", 1, 7);
        error("a wrap-around to a small number", "disk 4294967297;", 1, 5);
        script("4 digits", "disk 0001; item 0001 0001; backup 0001; repeat 0001 ();", "1 1 1 1: 1,1,0,0");
    }

    private static void wrongBytes() {
        for (int sign = 0; sign < 256; sign++) {
            boolean begins = sign == ' ' || sign == '\n' || sign == ';' || sign == '(' || sign == ')'
                    || sign >= '0' && sign <= '9' || sign >= 'a' && sign <= 'z';
            if (!begins) {
                error("byte " + sign + " for a command", "disk 1;" + (char) sign, 1, 7);
                error("byte " + sign + " behind a word", "disk" + (char) sign + "1;", 1, 4);
                error("byte " + sign + " behind a number", "disk 1" + (char) sign + ";", 1, 6);
            }
        }
    }

    private static void endInside() {
        String[] tokens = {"disk", "1", ";", "item", "1", "1", ";", "repeat", "2", "(", "keep", ";", "repeat", "2", "(", ")", ";", ")", ";"};
        StringBuilder text = new StringBuilder();
        for (int i = 0; i < tokens.length; i++) {
            boolean betweenStatements = i == 3 || i == 7;
            if (betweenStatements) {
                that("before token " + i + " no error", Check.run(new BackupPlanner(), text.toString()), i == 3 ? 0 : 1);
            } else {
                error("before token " + i, text.toString(), 1, text.length());
                error("before token " + i + ", behind spaces", text + " \n", 1, text.length() + 2);
            }
            text.append(' ').append(tokens[i]);
        }
        script("the whole", text.toString(), "1 0 0 0: 1,1,0,1");
    }

    // ---- kind 2

    private static void wrongNumbers() {
        holds("2, a number that is out of its range", ScriptSentences::outOfRange);
        holds("(an ITEM that does not exist)", ScriptSentences::noSuchItem);
    }

    private static void outOfRange() {
        range("disk ", ";", 0, 100);
        range("disk 1; capacity ", ";", 0, 100);
        range("disk 1; item ", " 1;", 1, 60);
        range("disk 1; item 1 ", ";", 0, 999);
        range("disk 1; item 1 1; size 0 ", ";", 1, 60);
        range("disk 1; item 1 1; value 0 ", ";", 0, 999);
        range("disk 1; backup ", ";", 1, 50);
        range("disk 1; repeat ", "();", 1, 20);
    }

    private static void range(String start, String end, int lowest, int highest) {
        that(start + lowest, Check.run(new BackupPlanner(), start + lowest + end) >= 0, true);
        that(start + highest, Check.run(new BackupPlanner(), start + highest + end) >= 0, true);
        if (lowest > 0) {
            error(start + (lowest - 1), start + (lowest - 1) + end, 2, start.length());
        }
        error(start + (highest + 1), start + (highest + 1) + end, 2, start.length());
        error(start + 9999, start + 9999 + end, 2, start.length());
    }

    private static void noSuchItem() {
        for (String word : new String[] {"pin ", "exclude ", "release ", "remove ", "size ", "value "}) {
            String end = word.equals("size ") || word.equals("value ") ? " 1;" : ";";
            String two = "disk 1; item 1 1; item 1 1; " + word;
            that(word + "the last of two", Check.run(new BackupPlanner(), two + 1 + end) > 0, true);
            error(word + "behind the last of two", two + 2 + end, 2, two.length());
            error(word + "256", two + 256 + end, 2, two.length());
            error(word + "of none", "disk 1; " + word + 0 + end, 2, 8 + word.length());
            String full = "disk 1; repeat 14 (item 1 1;); " + word;
            that(word + "13 of 14", Check.run(new BackupPlanner(), full + 13 + end) > 0, true);
            error(word + "14 of 14", full + 14 + end, 2, full.length());
        }
    }

    // ---- kinds 3 to 5

    private static void impossibleCommands() {
        holds("3, the semicolon behind the command that would add a 15th item", ScriptSentences::fifteenthItem);
        holds("or behind \"keep\" if there is no plan", ScriptSentences::keepWithoutPlan);
    }

    private static void fifteenthItem() {
        String full = "disk 1; repeat 14 (item 1 1;); ";
        that("14 items", planner(full).itemCount(), 14);
        error("15", full + "item 1 1 ;", 3, full.length() + 9);
        error("15 in a repeat", "disk 1; repeat 15 (item 1 1 ;);", 3, 28);
        error("15 at the end of the text", full + "item 1 1", 1, full.length() + 8);
        that("14 again behind a removal", planner(full + "remove 0; item 2 2;").itemCount(), 14);
        error("15 behind a removal", full + "remove 0; item 2 2; item 2 2;", 3, full.length() + 28);
    }

    private static void keepWithoutPlan() {
        error("1 too great", "disk 5; item 6 1; pin 0; keep ;", 3, 30);
        script("just as great", "disk 6; item 6 1; pin 0; keep;", "6 0 0 0: 6,1,0,1");
        error("a capacity of 0", "disk 0; item 1 1; pin 0; keep;", 3, 29);
        script("too great, but not pinned", "disk 5; item 6 1; keep;", "5 0 0 0: 6,1,0,0");
        error("no plan any more", "disk 6; item 6 1; keep; capacity 5; keep;", 3, 40);
        script("a plan again", "disk 5; item 6 1; pin 0; capacity 6; keep;", "6 0 0 0: 6,1,0,1");
    }

    private static void deepRepeats() {
        holds("4, the word \"repeat\" inside two other repeats", ScriptSentences::thirdRepeat);
    }

    private static void thirdRepeat() {
        error("at once", "disk 1; repeat 1 (repeat 1 (repeat 1 (););););", 4, 28);
        error("behind a command", "disk 1; repeat 1 (repeat 1 (backup 1; repeat 1 (););););", 4, 38);
        error("at the end of the text", "disk 1; repeat 1(repeat 1(repeat", 4, 26);
        error("behind 100 commands", "disk 1; repeat 1 (repeat 20 (backup 1; backup 1; backup 1; backup 1; backup 1;); repeat 1 (repeat", 4, 91);
        script("inside one other", "disk 1; repeat 2 (repeat 2 (backup 1;););", "1 4 0 0:");
        script("behind two others", "disk 1; repeat 1 (repeat 1 (); repeat 1 (););  repeat 1 (repeat 1 (););", "1 0 0 0:");
    }

    private static void tooManyCommands() {
        holds("5, the first word of the command that would be the 101st one to be executed", ScriptSentences::hundredAndFirst);
        holds("(a \"repeat\" itself does not count)", ScriptSentences::repeatDoesNotCount);
    }

    private static void hundredAndFirst() {
        String hundred = "disk 0; repeat 5 (repeat 20 (backup 1;);); ";
        script("100", hundred, "0 100 0 0:");
        error("101", hundred + " capacity 0;", 5, hundred.length() + 1);
        error("101 in a repetition", "disk 0; repeat 20 (repeat 6 (backup 1;););", 5, 29);
        error("101 with a wrong number", hundred + "capacity 999;", 5, hundred.length());
        error("101 at the end of the text", hundred + "keep", 5, hundred.length());
        StringBuilder written = new StringBuilder("disk 0;");
        for (int i = 0; i < 60; i++) {
            written.append("keep;");
        }
        String sixty = written.toString();
        script("60 written ones and 40", sixty + "repeat 20(keep;keep;);", "0 0 0 0:");
        error("60 written ones, 40 and 1", sixty + "repeat 20(keep;keep;);keep;", 5, sixty.length() + 22);
        error("60 written ones and 41", sixty + "repeat 7(keep;keep;keep;keep;keep;keep;);", 5, sixty.length() + 29);
        script("a command counts once for many backups", "disk 0; repeat 5 (repeat 20 (backup 50;););", "0 5000 0 0:");
    }

    private static void repeatDoesNotCount() {
        script("101 and more repeats", "disk 0; repeat 20 (repeat 20 ();); repeat 20 (backup 1;); repeat 20 (repeat 1 (backup 1;););", "0 40 0 0:");
        script("100 commands in 106 repeats", "disk 0; repeat 5 (repeat 20 (backup 1;);); repeat 20 (repeat 1 ();); repeat 1 ();", "0 100 0 0:");
        error("a repeat behind 100 commands does no harm, its command does", "disk 0; repeat 5 (repeat 20 (backup 1;);); repeat 1 (keep;);", 5, 53);
        script("disk does not count", "disk 0; repeat 5 (repeat 20 (keep;););", "0 0 0 0:");
    }

    private ScriptSentences() {
    }
}
