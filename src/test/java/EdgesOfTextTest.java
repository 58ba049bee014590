/** The edges of promise 7: a game told by a text. */
public final class EdgesOfTextTest {
    private static final Checks checks = new Checks();
    private static final int NO = HangedWords.NO;
    private static final String EIGHT_WORDS = "word 0 0 0 0;word 1 1 1 1;word 2 2 2 2;word 3 3 3 3;"
            + "word 4 4 4 4;word 5 5 5 5;word 6 6 6 6;word 7 7 7 7;";

    public static void main(String[] args) {
        Edges edges = new Edges(checks);
        whatStands(edges);
        faultsOfItems(edges);
        faultsOfNumbers(edges);
        faultsOfBytes(edges);
        whatIsRead(edges);
        edges.end(7, 7);
    }

    private static void whatStands(Edges edges) {
        edges.edge(7, "THE GAME is told by a TEXT (150 bytes at most)", EdgesOfTextTest::fullText);
        edges.edge(7, "ITEMS, each ended by ;", EdgesOfTextTest::itemsEnd);
        edges.edge(7, "game KIND (of THE HOLDER; once, first of all)", EdgesOfTextTest::kinds);
        edges.edge(7, "word and four LETTERS (numbers)", EdgesOfTextTest::letters);
        edges.edge(7, "secret w; guess l", EdgesOfTextTest::secretsAndGuesses);
        edges.edge(7, "figures (1 or 2 are one number)", EdgesOfTextTest::figures);
        edges.edge(7, "blanks (32) between", EdgesOfTextTest::blanks);
        edges.edge(7, "THE GAME is read: how many ITEMS", EdgesOfTextTest::howManyItems);
    }

    private static void faultsOfItems(Edges edges) {
        edges.edge(7, "a word that is none", EdgesOfTextTest::wordsThatAreNone);
        edges.edge(7, "game again", EdgesOfTextTest::gameAgain);
        edges.edge(7, "anything ahead of it", EdgesOfTextTest::aheadOfGame);
        edges.edge(7, "a 9th word", EdgesOfTextTest::ninthWord);
        edges.edge(7, "a word behind a guess at its word", EdgesOfTextTest::wordBehindGuess);
        edges.edge(7, "the first TOKEN that can not stand there", EdgesOfTextTest::firstOfFaults);
    }

    private static void faultsOfNumbers(Edges edges) {
        edges.edge(7, "a run of three figures or more (at its first one)", EdgesOfTextTest::threeFigures);
        edges.edge(7, "a number not as told", EdgesOfTextTest::numbersNotAsTold);
        edges.edge(7, "also a WORD that is not there yet", EdgesOfTextTest::wordNotThereYet);
        edges.edge(7, "the last LETTER of a WORD that there is already", EdgesOfTextTest::wordThereAlready);
        edges.edge(7, "a LETTER that is GUESSED", EdgesOfTextTest::letterGuessed);
        edges.edge(7, "or when no WORD is there (guess)", EdgesOfTextTest::guessWithoutWords);
    }

    private static void faultsOfBytes(Edges edges) {
        edges.edge(7, "words of letters a .. z", EdgesOfTextTest::besideLetters);
        edges.edge(7, "a byte that begins none, too", EdgesOfTextTest::strangeBytes);
        edges.edge(7, "the TEXT's length, if it ends too early", EdgesOfTextTest::endsTooEarly);
        edges.edge(7, "(an empty one, too)", EdgesOfTextTest::empty);
    }

    private static void whatIsRead(Edges edges) {
        edges.edge(7, "-10 less the FAULT: all stays", EdgesOfTextTest::allStaysAtFault);
        edges.edge(7, "A GAME that is read takes the place of all", EdgesOfTextTest::takesThePlaceOfAll);
        edges.edge(7, "all but IMAGES, THE TEXT, THE FRACTION, STATUS", EdgesOfTextTest::leavesTheseAlone);
        edges.edge(7, "(NOTES, MARKS none; nothing to undo)", EdgesOfTextTest::leavesNoneOfThese);
        edges.edge(7, "WORDS LEFT are those that have the MASK that is answered", EdgesOfTextTest::guessesAreAnswered);
    }

    // ---- how texts are looked at

    private static HangedWords typed(String text) {
        HangedWords x = new HangedWords();
        Checks.typeAnew(x, text);
        return x;
    }

    private static HangedWords reads(String text, int want) {
        HangedWords x = typed(text);
        checks.due(7, "read() of '" + text + "'", x.read(), want);
        checks.dueStatus(7, x, 0, 0, 0);
        return x;
    }

    /** The place of the fault is where the text has a bar, which is not typed. */
    private static void fault(String textWithBar) {
        String text = textWithBar.replace("|", "");
        HangedWords x = reads(text, -10 - textWithBar.indexOf('|'));
        checks.due(7, "count(9) behind '" + text + "'", x.count(9), text.length());
        checks.due(7, "count(0) behind '" + text + "'", x.count(0), 0);
    }

    private static String blanks(int n) {
        return " ".repeat(n);
    }

    // ---- what stands

    private static void fullText() {
        String start = "game 5;" + EIGHT_WORDS + "secret 7;guess 0;guess 1;guess 7";
        checks.due(7, "the start's length", start.length(), 144 - 1);
        HangedWords x = reads(start + blanks(6) + ";", 13);
        // Stubborn: 7777 is kept, but too few of the six words left have its 7.
        checks.dueCounts(7, x, 8, 5, 3, 3, 7, 5, 0, 0, 0, 150);
        reads(start + ";" + blanks(6), 13);
        fault(start + blanks(7) + "|");
        fault(start + blanks(6) + "|z");
        fault(start + ";" + blanks(5) + "|;");
        fault(blanks(150) + "|");
        x.type(';');
        checks.due(7, "read() behind a byte that did not come", x.read(), 13);
    }

    private static void itemsEnd() {
        fault("game 0 |word 1 2 3 4;");
        fault("game 0;word 1 2 3 4 |word 5 6 7 8;");
        fault("game 0;word 1 2 3 4;secret 0 |guess 1;");
        fault("game 0;word 1 2 3 4;guess 1 |guess 2;");
        fault("game 0;word 1 2 3 4;guess 1 |2;");
        fault("game 0;|;");
        fault("game 0;word 1 2 3 4;|;");
        fault("game 0;word 1 2 3 4;secret 0;|;");
        fault("game 0;word 1 2 3 4;guess 1;|;");
    }

    private static void kinds() {
        for (int kind = 0; kind <= 5; kind++) {
            checks.due(7, "count(5)", reads("game " + kind + ";", 1).count(5), kind);
        }
        fault("game |6;");
        fault("game |9;");
        fault("game |06;");
        fault("game |10;");
        fault("game |99;");
        fault("game |;");
        fault("game |game 0;");
        fault("game |-1;");
    }

    private static void letters() {
        checks.due(7, "of(0, 0)", reads("game 0;word 0 9 0 9;", 2).of(0, 0), 909);
        checks.due(7, "of(0, 0)", reads("game 0;word 9 0 0 0;", 2).of(0, 0), 9000);
        checks.due(7, "mask(0, 4)", reads("game 0;word 1 2 3 4;", 2).mask(0, 4), 8);
        fault("game 0;word |10 2 3 4;");
        fault("game 0;word 1 |10 3 4;");
        fault("game 0;word 1 2 |10 4;");
        fault("game 0;word 1 2 3 |10;");
        fault("game 0;word |;");
        fault("game 0;word 1 |;");
        fault("game 0;word 1 2 |;");
        fault("game 0;word 1 2 3 |;");
        fault("game 0;word 1 2 3 4 |5;");
        fault("game 0;word 1 2 |word 3 4;");
    }

    private static void secretsAndGuesses() {
        String words = "game 0;word 1 1 1 1;word 2 2 2 2;";
        checks.due(7, "count(4)", reads(words + "secret 0;", 4).count(4), 0);
        checks.due(7, "count(4)", reads(words + "secret 1;", 4).count(4), 1);
        checks.due(7, "count(4), told twice", reads(words + "secret 1;secret 1;", 5).count(4), 1);
        checks.due(7, "count(3)", reads(words + "guess 0;", 4).count(3), 1);
        checks.due(7, "count(3)", reads(words + "guess 9;", 4).count(3), 1);
        reads(words + "guess 1;secret 1;guess 2;secret 0;", 7);
        reads("game 0;word 1 1 1 1;secret 0;word 2 2 2 2;", 4);
        checks.due(7, "count(4), the last", reads("game 0;" + EIGHT_WORDS + "secret 7;", 10).count(4), 7);
        fault("game 0;" + EIGHT_WORDS + "secret |8;");
        fault(words + "secret |;");
        fault(words + "guess |;");
        fault(words + "secret 0 |0;");
        fault(words + "guess 0 |1;");
    }

    private static void figures() {
        reads("game 0;", 1);
        reads("game 00;", 1);
        checks.due(7, "count(5)", reads("game 05;", 1).count(5), 5);
        checks.due(7, "of(0, 0)", reads("game 00;word 01 02 03 04;", 2).of(0, 0), 1234);
        reads("game 0;word 1 2 3 4;secret 00;guess 09;", 4);
        fault("game 0 |0;");
        fault("game |50;");
        fault("game 0;word |12 3 4;");
    }

    private static void blanks() {
        reads("  game   0  ;  word  1  2  3  4  ;  guess  1  ;  ", 3);
        reads("game0;word1 2 3 4;secret0;guess1;", 4);
        fault("|ga me 0;");
        fault("game 0;word 1 2 3 4;guess 1 |0;");
        for (int c : new int[] {31, 33, 9, 10, 13, 0}) {
            char near = (char) c;
            fault("|" + near + "game 0;");
            fault("game|" + near + "0;");
            fault("game 0|" + near + ";");
            fault("game 0;|" + near);
        }
    }

    private static void howManyItems() {
        reads("game 0;", 1);
        reads("game0;word1 2 3 4;", 2);
        StringBuilder most = new StringBuilder("game0;word1 2 3 4;");
        for (int i = 0; i < 16; i++) {
            most.append("secret0;");
        }
        checks.due(7, "the text's length", most.length(), 146);
        reads(most.toString(), 18);
    }

    // ---- faults of items

    private static void wordsThatAreNone() {
        for (String none : new String[] {"gam", "games", "ame", "a", "z", "gamegame", "gamf", "hame", "gbme", "ganeg",
            "gamez", "gamea"}) {
            fault("|" + none + " 0;");
            fault("|" + none);
        }
        for (String none : new String[] {"wor", "words", "secre", "secrets", "secrev", "gues", "guesss", "guesr", "holder",
            "undo", "anew", "wordword"}) {
            fault("game 0;word 1 2 3 4;|" + none + " 0;");
            fault("game 0;word 1 2 3 4;|" + none);
        }
    }

    private static void gameAgain() {
        fault("game 0;|game 0;");
        fault("game 0;|game");
        fault("game 0;word 1 2 3 4;|game 1;");
        fault("game 0;word 1 2 3 4;guess 1;  |game 1;");
    }

    private static void aheadOfGame() {
        fault("|word 1 2 3 4;game 0;");
        fault("|secret 0;game 0;");
        fault("|guess 0;game 0;");
        fault("|;game 0;");
        fault("  |;game 0;");
        fault("|0;game 0;");
        fault("|0 game 0;");
        fault("|000 game 0;");
        fault("|-game 0;");
    }

    private static void ninthWord() {
        reads("game 0;" + EIGHT_WORDS, 9);
        fault("game 0;" + EIGHT_WORDS + "|word 8 8 8 8;");
        fault("game 0;" + EIGHT_WORDS + "|word 7 7 7 7;");
        fault("game 0;" + EIGHT_WORDS + "|word 10;");
        fault("game 0;" + EIGHT_WORDS + "|word");
        fault("game 0;" + EIGHT_WORDS + "guess 1;|word");
    }

    private static void wordBehindGuess() {
        fault("game 0;word 1 2 3 4;guess 9;|word 5 6 7 8;");
        fault("game 0;word 1 2 3 4;guess 1;|word 5 6 7 8;");
        fault("game 0;word 1 2 3 4;guess 0;|word 1 2 3 4;");
        fault("game 0;word 1 2 3 4;guess 0;|word");
        fault("game 0;word 1 2 3 4;guess 0;secret 0;|word 5 6 7 8;");
    }

    private static void firstOfFaults() {
        fault("game |6;word 10;");
        fault("game |6");
        fault("game 0;word |10 10;-");
        fault("game 0;|x;-");
        fault("game 0;word 1 2 3 4;word 1 2 3 |4 -");
        fault("game |-;");
        fault("game |123 -");
    }

    // ---- faults of numbers

    private static void threeFigures() {
        fault("game |000;");
        fault("game |0000;");
        fault("game |012;");
        fault("game 0;word |001 2 3 4;");
        fault("game 0;word 1 |002 3 4;");
        fault("game 0;word 1 2 |003 4;");
        fault("game 0;word 1 2 3 |004;");
        fault("game 0;word |1234;");
        fault("game 0;word 1 2 3 4;secret |000;");
        fault("game 0;word 1 2 3 4;guess |001;");
        fault("game 0 |000;");
        fault("game 0;|000;");
        fault("game |000");
        fault("game |" + "0".repeat(145));
        fault("game |4294967296;");
    }

    private static void numbersNotAsTold() {
        fault("game |6;");
        fault("game 0;word 1 2 3 |10;");
        fault("game 0;word 1 2 3 4;secret |1;");
        fault("game 0;word 1 2 3 4;secret |99;");
        fault("game 0;word 1 2 3 4;guess |10;");
        fault("game 0;word 1 2 3 4;guess |99;");
        fault("game |;");
        fault("game |zero;");
        fault("game 0;word 1 2 3 4;guess |one;");
        fault("game 0;word 1 2 3 4;secret |secret 0;");
    }

    private static void wordNotThereYet() {
        fault("game 0;secret |0;word 1 2 3 4;");
        fault("game 0;word 1 2 3 4;secret |1;word 5 6 7 8;");
        reads("game 0;word 1 2 3 4;word 5 6 7 8;secret 1;", 4);
        fault("game 0;word 1 2 3 4;word 5 6 7 8;secret |2;");
        HangedWords x = Checks.with(0, 1111, 2222);
        Checks.typeAnew(x, "game 0;secret 1;");
        checks.due(7, "read(), the words there now are not of the text", x.read(), -10 - 14);
        checks.due(7, "count(0)", x.count(0), 2);
    }

    private static void wordThereAlready() {
        fault("game 0;word 1 2 3 4;word 1 2 3 |4;");
        fault("game 0;word 1 2 3 4;word 01 02 03 |04;");
        fault("game 0;word 0 0 0 0;word 1 2 3 4;word 0 0 0 |0;");
        fault("game 0;word 1 2 3 4;word 1 2 3 |4");
        reads("game 0;word 1 2 3 4;word 1 2 3 5;word 4 3 2 1;", 4);
        HangedWords x = Checks.with(0, 1234);
        Checks.typeAnew(x, "game 0;word 1 2 3 4;");
        checks.due(7, "read() of a word that is there now", x.read(), 2);
        checks.due(7, "read() of it again", x.read(), 2);
    }

    private static void letterGuessed() {
        fault("game 0;word 1 2 3 4;guess 1;guess |1;");
        fault("game 0;word 1 2 3 4;guess 9;guess |9;");
        fault("game 0;word 1 2 3 4;guess 9;guess 1;guess |09;");
        StringBuilder all = new StringBuilder("game 0;word 1 2 3 4;");
        for (int l = 0; l < 10; l++) {
            all.append("guess ").append(l).append(';');
        }
        HangedWords x = reads(all.toString(), 12);
        checks.dueCounts(7, x, 1, 1, 10, 6);
        fault(all + "guess |0;");
        fault(all + "guess |9;");
        HangedWords y = Checks.with(0, 1234);
        y.guess(1);
        Checks.typeAnew(y, "game 0;word 1 2 3 4;guess 1;");
        checks.due(7, "read() of a letter that is guessed now", y.read(), 3);
    }

    private static void guessWithoutWords() {
        fault("game 0;guess |0;");
        fault("game 0;guess |9;word 1 2 3 4;");
        fault("game 0;guess |10;");
        fault("game 0;guess |;");
        fault("game 0;guess|");
        HangedWords x = Checks.with(0, 1111, 2222);
        Checks.typeAnew(x, "game 0;guess 1;");
        checks.due(7, "read(), the words there now are not of the text", x.read(), -10 - 13);
        checks.dueCounts(7, x, 2, 2, 0, 0);
    }

    // ---- faults of bytes

    private static void besideLetters() {
        fault("|`ame 0;");
        fault("|{ame 0;");
        fault("game|` 0;");
        fault("game|{ 0;");
        fault("|GAME 0;");
        fault("|Game 0;");
        fault("|gamE 0;");
        fault("game 0;word 1 2 3 4;|guesS 1;");
        fault("game|/;");
        fault("game|:;");
        fault("game 0|/;");
        fault("game 0|:;");
        fault("game 0|<");
    }

    private static void strangeBytes() {
        for (int c = 0; c < 128; c++) {
            boolean begins = c >= 'a' && c <= 'z' || c >= '0' && c <= '9' || c == ';' || c == ' ' || c == '|';
            if (!begins) {
                fault("|" + (char) c);
                fault("game |" + (char) c + ";");
                fault("game 0;|" + (char) c + "word 1 2 3 4;");
                fault("game 0;word 1 2 3 4|" + (char) c + ";");
            }
        }
        reads("|game 0;", -10);
        reads("game 0;|", -17);
    }

    private static void endsTooEarly() {
        String whole = "game 0;word 1 2 3 4;secret 0;guess 9;";
        for (int length = 0; length <= whole.length(); length++) {
            String text = whole.substring(0, length);
            boolean withinWord = text.matches(".*?(^|;)(g|ga|gam|w|wo|wor|s|se|sec|secr|secre|gu|gue|gues)");
            int items = text.replaceAll("[^;]", "").length();
            boolean ended = text.endsWith(";");
            int place = withinWord ? text.lastIndexOf(';') + 1 : length;
            reads(text, ended ? items : -10 - place);
        }
        fault("game |");
        fault("game 0 |");
        fault("game 0;word 1 2 3   |");
        fault("game 0;word 1 2 3 4|");
        fault("game 0;word 1 2 3 4   |");
        fault("game 0;word 1 2 3 4;secret   |");
        fault("game 0;word 1 2 3 4;guess 1   |");
    }

    private static void empty() {
        checks.due(7, "read() of nothing", new HangedWords().read(), -10);
        fault("|");
        fault(" |");
        fault("     |");
        HangedWords x = Checks.with(3, 1111);
        long before = x.digest();
        checks.due(7, "read() of nothing, a word being there", x.read(), -10);
        checks.dueUnchanged(7, "read() of nothing", x, before);
    }

    // ---- what is read

    /** All ten counts are above 0, an image is kept of it all, and refusals were met. */
    private static HangedWords busy(String text) {
        HangedWords x = Checks.with(2, 1111, 2222, 3333);
        x.secret(2);
        x.guess(1);
        x.note(7, 0, 1, 15);
        x.mark(1, 0, 9);
        x.luck(1);
        x.image(1);
        x.game(6);
        x.secret(2);
        Checks.typeAnew(x, text);
        return x;
    }

    private static void allStaysAtFault() {
        String[] faults = {"", "x", "game 4;word 5 5 5 5;secret 0;guess 1;word", "game 4;word 5 5 5 5;guess 5", "game 1"};
        for (String text : faults) {
            HangedWords x = busy(text);
            long before = x.digest();
            checks.due(7, "read() of '" + text + "' is a fault", x.read() <= -10 ? 1 : 0, 1);
            checks.dueUnchanged(7, "read() of '" + text + "'", x, before);
            checks.dueStatus(7, x, 1, 1, 0);
            checks.due(7, "is()", x.is(), 8);
            checks.due(7, "kinds()", x.kinds(), 16);
            checks.due(7, "undo() of guess(1)", x.undo(), 0);
            checks.due(7, "count(1)", x.count(1), 3);
            checks.due(7, "undo() of secret(2)", x.undo(), 0);
            checks.due(7, "count(4)", x.count(4), 0);
            checks.due(7, "from(1)", x.from(1), 1);
            x.clear();
            checks.due(7, "digest() of the image", x.digest(), busy("").digest());
        }
    }

    private static void takesThePlaceOfAll() {
        HangedWords x = busy("game 0;");
        checks.due(7, "read()", x.read(), 1);
        checks.dueCounts(7, x, 0, 0, 0, 0, 0, 0, 0, 0, 0, 7);
        checks.due(7, "guess(0), no words now", x.guess(0), NO);
        HangedWords y = busy("game 3;word 0 1 2 3;guess 7;");
        checks.due(7, "read()", y.read(), 3);
        checks.dueCounts(7, y, 1, 1, 1, 1, 0, 3, 0, 0, 0, 28);
        checks.due(7, "of(0, 0)", y.of(0, 0), 123);
        checks.due(7, "mask(0, 1)", y.mask(0, 1), 2);
        Checks.typeAnew(y, "game 1;word 9 9 8 8;");
        checks.due(7, "read() of another game", y.read(), 2);
        checks.due(7, "next(1), nothing is left of the first game", y.next(1), 8);
        checks.due(7, "mask(0, 1)", y.mask(0, 1), 0);
    }

    private static void leavesTheseAlone() {
        HangedWords x = busy("game 3;word 0 1 2 3;guess 7;");
        x.read();
        checks.dueFraction(7, "read()", x, 2, 9);
        checks.dueStatus(7, x, 1, 1, 0);
        checks.due(7, "count(9)", x.count(9), 28);
        checks.due(7, "read() again", x.read(), 3);
        checks.due(7, "from(0), still not kept", x.from(0), NO);
        checks.due(7, "from(1)", x.from(1), 1);
        checks.dueCounts(7, x, 3, 2, 1, 1, 2, 2, 1, 1, 2, 28);
    }

    private static void leavesNoneOfThese() {
        HangedWords x = busy("game 2;word 1 1 1 1;word 2 2 2 2;secret 1;guess 5;guess 6;");
        checks.due(7, "read()", x.read(), 6);
        checks.due(7, "count(6)", x.count(6), 0);
        checks.due(7, "count(7)", x.count(7), 0);
        checks.due(7, "is(), no notes", x.is(), 63);
        checks.due(7, "kinds(), no marks", x.kinds(), 63);
        checks.due(7, "count(8)", x.count(8), 0);
        checks.due(7, "undo()", x.undo(), NO);
        x.guess(7);
        checks.due(7, "count(8) behind a guess", x.count(8), 1);
        checks.due(7, "undo() of it", x.undo(), 2);
        checks.due(7, "undo(), no further", x.undo(), NO);
    }

    private static void guessesAreAnswered() {
        String words = "word 1 1 1 1;word 2 2 2 2;word 3 3 3 3;";
        checks.dueCounts(7, reads("game 0;" + words + "guess 1;", 5), 3, 1, 1, 0, 0, 0);
        checks.dueCounts(7, reads("game 2;" + words + "guess 1;", 5), 3, 2, 1, 1, 0, 2);
        checks.dueCounts(7, reads("game 0;" + words + "secret 2;guess 1;", 6), 3, 2, 1, 1, 2, 0);
        checks.dueCounts(7, reads("game 0;" + words + "guess 1;secret 2;", 6), 3, 1, 1, 0, 2, 0);
        // Moody: the first guess is answered by the secret, the second by meanness.
        checks.dueCounts(7, reads("game 4;" + words + "guess 0;guess 1;", 6), 3, 2, 2, 2, 0, 4);
        // Mild: 2 is given at once, and what was guessed before is wrong no more often.
        checks.dueCounts(7, reads("game 3;" + words + "guess 2;guess 1;", 6), 3, 1, 2, 1, 0, 3);
    }
}
