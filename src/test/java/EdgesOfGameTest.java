/** The edges of promises 1 to 6: a new object, game, holder, word, type, clear. */
public final class EdgesOfGameTest {
    private static final Checks checks = new Checks();
    private static final int BAD = HangedWords.BAD;
    private static final int NO = HangedWords.NO;
    private static final int FULL = HangedWords.FULL;

    public static void main(String[] args) {
        Edges edges = new Edges(checks);
        newObject(edges);
        game(edges);
        holder(edges);
        word(edges);
        text(edges);
        edges.end(1, 6);
    }

    private static void newObject(Edges edges) {
        edges.edge(1, "As told; no WORDS.", EdgesOfGameTest::noWordsAtFirst);
        edges.edge(1, "THE HOLDER has a KIND (0 at first)", EdgesOfGameTest::honestAtFirst);
        edges.edge(1, "SECRET: a WORD (0 at first)", EdgesOfGameTest::secretAtFirst);
        edges.edge(1, "LETTERS that are GUESSED (none at first), WORDS that are LEFT (all at first), WRONG (0 at first)",
                EdgesOfGameTest::gameAtFirst);
        edges.edge(1, "THE FRACTION is 0 by 1 at first", () ->
                checks.dueFraction(1, "a new object", new HangedWords(), 0, 1));
        edges.edge(1, "STATUS: how many calls were refused as BAD, NO, FULL", () ->
                checks.dueStatus(1, new HangedWords(), 0, 0, 0));
        edges.edge(1, "NO: none was kept", EdgesOfGameTest::noImagesAtFirst);
        edges.edge(1, "NO: none may be", () ->
                checks.dueRefused(1, "undo() of a new object", new HangedWords(), HangedWords::undo, NO));
    }

    private static void game(Edges edges) {
        edges.edge(2, "THE HOLDER's KIND; all else as at first", EdgesOfGameTest::kindsOfGame);
        edges.edge(2, "how many WORDS there were. BAD", EdgesOfGameTest::wordsBeforeGame);
        edges.edge(2, "all else as at first", EdgesOfGameTest::gameLeavesNothing);
        edges.edge(2, "(but for IMAGES, THE TEXT, THE FRACTION, STATUS)", EdgesOfGameTest::gameLeavesTheseAlone);
    }

    private static void holder(Edges edges) {
        edges.edge(3, "THE HOLDER's KIND: what it was. BAD", EdgesOfGameTest::kindsOfHolder);
        edges.edge(3, "behind THE HOLDER told, a WORD that comes none may be", EdgesOfGameTest::holderLeavesNothingToUndo);
        edges.edge(3, "THE HOLDER's KIND: what it was", EdgesOfGameTest::holderLeavesTheGame);
    }

    private static void word(Edges edges) {
        edges.edge(4, "told by a CODE (0 .. 9999: the LETTER at PLACE 0 is its thousands, at PLACE 3 its units)",
                EdgesOfGameTest::codes);
        edges.edge(4, "WORDS 0 .. 7, as they come, all unlike", EdgesOfGameTest::eightWords);
        edges.edge(4, "NO: there is such a one", EdgesOfGameTest::wordThatIsThere);
        edges.edge(4, "FULL: 8", EdgesOfGameTest::ninthWord);
        edges.edge(4, "A WORD by its CODE comes (the GAME is begun anew)", EdgesOfGameTest::wordBeginsAnew);
        edges.edge(4, "as at first (the SECRET stays)", EdgesOfGameTest::wordLeavesTheSecret);
        edges.edge(4, "behind THE HOLDER told, a WORD that comes none may be", EdgesOfGameTest::wordLeavesNothingToUndo);
        edges.edge(4, "Refused, changing nothing but STATUS, the first of", EdgesOfGameTest::refusedWord);
    }

    private static void text(Edges edges) {
        edges.edge(5, "A byte (0 .. 127) comes behind THE TEXT", EdgesOfGameTest::bytes);
        edges.edge(5, "TEXT (150 bytes at most)", EdgesOfGameTest::fullText);
        edges.edge(5, "the first of: BAD -2", EdgesOfGameTest::badByteToFullText);
        edges.edge(6, "THE TEXT is empty: how many it had", EdgesOfGameTest::clear);
        edges.edge(6, "THE TEXT is empty", EdgesOfGameTest::clearedBytesAreGone);
    }

    // ---- a new object

    private static void noWordsAtFirst() {
        HangedWords x = new HangedWords();
        checks.dueCounts(1, x, 0, 0, 0, 0, 0, 0, 0, 0, 0, 0);
        checks.dueRefused(1, "of(0, 0)", x, y -> y.of(0, 0), BAD);
        checks.dueRefused(1, "mask(0, 0)", x, y -> y.mask(0, 0), BAD);
        HangedWords other = new HangedWords();
        other.word(1234);
        checks.due(1, "count(0) beside another object's word", x.count(0), 0);
    }

    private static void honestAtFirst() {
        HangedWords x = new HangedWords();
        checks.due(1, "count(5)", x.count(5), 0);
        x.word(1111);
        x.word(2222);
        checks.due(1, "answer(1) by an honest holder", x.answer(1), 15);
        checks.due(1, "holder(3), what it was", x.holder(3), 0);
    }

    private static void secretAtFirst() {
        HangedWords x = new HangedWords();
        checks.due(1, "count(4)", x.count(4), 0);
        checks.dueRefused(1, "secret(0), no words", x, y -> y.secret(0), BAD);
        x.word(1111);
        checks.dueRefused(1, "secret(0), as it is", x, y -> y.secret(0), NO);
    }

    private static void gameAtFirst() {
        HangedWords x = new HangedWords();
        x.word(1111);
        x.word(2222);
        checks.dueCounts(1, x, 2, 2, 0, 0);
        checks.due(1, "of(0, 1)", x.of(0, 1), 1);
        checks.due(1, "of(1, 1)", x.of(1, 1), 1);
        for (int l = 0; l < 10; l++) {
            checks.due(1, "answer(" + l + "), not guessed", x.answer(l), l == 1 ? 15 : 0);
        }
    }

    private static void noImagesAtFirst() {
        HangedWords x = new HangedWords();
        checks.dueRefused(1, "from(0)", x, y -> y.from(0), NO);
        checks.dueRefused(1, "from(1)", x, y -> y.from(1), NO);
    }

    // ---- game

    private static void kindsOfGame() {
        HangedWords x = new HangedWords();
        for (int kind : new int[] {-1, 6, Integer.MIN_VALUE, Integer.MAX_VALUE}) {
            checks.dueRefused(2, "game(" + kind + ")", x, y -> y.game(kind), BAD);
        }
        for (int kind = 0; kind <= 5; kind++) {
            checks.due(2, "game(" + kind + ")", x.game(kind), 0);
            checks.due(2, "count(5) behind game(" + kind + ")", x.count(5), kind);
        }
    }

    private static void wordsBeforeGame() {
        HangedWords x = new HangedWords();
        checks.due(2, "game(0), there were none", x.game(0), 0);
        x.word(1);
        checks.due(2, "game(0), there was one", x.game(0), 1);
        for (int w = 0; w < 8; w++) {
            x.word(w);
        }
        checks.due(2, "game(0), there were eight", x.game(0), 8);
        checks.due(2, "game(0), there are none now", x.game(0), 0);
    }

    /** All ten counts are above 0, an image is kept of it all, and each kind of refusal was met once. */
    private static HangedWords busy() {
        HangedWords x = Checks.with(2, 1111, 2222, 3333);
        Checks.typeAnew(x, "game 1;");
        x.secret(2);
        x.guess(1);
        x.note(1, 0, 0, 0);
        x.mark(1, 0, 9);
        x.mark(1, 0, 9);
        x.luck(1);
        x.image(1);
        x.game(6);
        x.secret(2);
        return x;
    }

    private static void gameLeavesNothing() {
        HangedWords x = busy();
        checks.dueCounts(2, x, 3, 2, 1, 1, 2, 2, 1, 2, 2, 7);
        checks.due(2, "game(0)", x.game(0), 3);
        checks.dueCounts(2, x, 0, 0, 0, 0, 0, 0, 0, 0, 0);
        checks.due(2, "is(), no notes", x.is(), 63);
        checks.due(2, "kinds(), no marks", x.kinds(), 63);
        checks.due(2, "undo()", x.undo(), NO);
        checks.due(2, "word(2222), which was there before", x.word(2222), 0);
        checks.due(2, "next(1), by the new word", x.next(1), 2);
        checks.due(2, "guess(1), which was guessed before", x.guess(1), 0);
        checks.due(2, "count(4)", x.count(4), 0);
        HangedWords y = Checks.with(0, 1111, 120);
        y.game(0);
        y.word(9999);
        checks.due(2, "next(1), nothing is left of the first word", y.next(1), 9);
        y.game(0);
        y.word(7777);
        y.word(8888);
        checks.due(2, "next(1), nothing is left of either word", y.next(1), 7);
        checks.due(2, "parts(1, 0), nothing is left of either word", y.parts(1, 0), 1);
    }

    private static void gameLeavesTheseAlone() {
        HangedWords x = busy();
        x.game(5);
        checks.due(2, "count(9)", x.count(9), 7);
        checks.dueFraction(2, "game(5)", x, 2, 9);
        checks.dueStatus(2, x, 1, 1, 0);
        checks.due(2, "read() of the text that stays", x.read(), 1);
        checks.due(2, "count(5) behind read()", x.count(5), 1);
        checks.due(2, "from(0), still not kept", x.from(0), NO);
        checks.due(2, "from(1)", x.from(1), 1);
        checks.dueCounts(2, x, 3, 2, 1, 1, 2, 2, 1, 2, 2, 7);
    }

    // ---- holder

    private static void kindsOfHolder() {
        HangedWords x = new HangedWords();
        for (int kind : new int[] {-1, 6, Integer.MIN_VALUE, Integer.MAX_VALUE}) {
            checks.dueRefused(3, "holder(" + kind + ")", x, y -> y.holder(kind), BAD);
        }
        checks.due(3, "holder(5), no words", x.holder(5), 0);
        checks.due(3, "holder(5), as it is", x.holder(5), 5);
        for (int kind = 0; kind <= 5; kind++) {
            checks.due(3, "holder(" + kind + ")", x.holder(kind), kind == 0 ? 5 : kind - 1);
            checks.due(3, "count(5)", x.count(5), kind);
        }
    }

    private static void holderLeavesNothingToUndo() {
        HangedWords x = Checks.with(0, 1111, 2222);
        x.guess(5);
        x.secret(1);
        x.anew();
        x.holder(6);
        checks.due(3, "count(8) behind a refused holder", x.count(8), 3);
        x.holder(1);
        checks.due(3, "count(8) behind holder(1)", x.count(8), 0);
        checks.due(3, "undo() behind holder(1)", x.undo(), NO);
        x.guess(5);
        x.holder(1);
        checks.due(3, "count(8) behind holder(1), as it is", x.count(8), 0);
        checks.due(3, "undo() behind holder(1), as it is", x.undo(), NO);
        x.guess(6);
        checks.due(3, "undo() of the guess behind it", x.undo(), 1);
        checks.due(3, "undo(), no further", x.undo(), NO);
        checks.due(3, "count(2), as told behind the first guess", x.count(2), 1);
    }

    private static void holderLeavesTheGame() {
        HangedWords x = busy();
        x.holder(4);
        checks.dueCounts(3, x, 3, 2, 1, 1, 2, 4, 1, 2, 0, 7);
        checks.dueFraction(3, "holder(4)", x, 2, 9);
        checks.dueStatus(3, x, 1, 1, 0);
        checks.due(3, "from(1)", x.from(1), 1);
        checks.due(3, "count(5) behind from(1)", x.count(5), 2);
    }

    // ---- word

    private static void codes() {
        HangedWords x = new HangedWords();
        for (int code : new int[] {-1, 10000, Integer.MIN_VALUE, Integer.MAX_VALUE, 65536}) {
            checks.dueRefused(4, "word(" + code + ")", x, y -> y.word(code), BAD);
        }
        checks.due(4, "word(0)", x.word(0), 0);
        checks.due(4, "word(9999)", x.word(9999), 1);
        checks.due(4, "word(1234)", x.word(1234), 2);
        checks.due(4, "word(7)", x.word(7), 3);
        checks.due(4, "mask(0, 0)", x.mask(0, 0), 15);
        checks.due(4, "mask(1, 9)", x.mask(1, 9), 15);
        checks.due(4, "mask(2, 1), the thousands", x.mask(2, 1), 1);
        checks.due(4, "mask(2, 2), the hundreds", x.mask(2, 2), 2);
        checks.due(4, "mask(2, 3), the tens", x.mask(2, 3), 4);
        checks.due(4, "mask(2, 4), the units", x.mask(2, 4), 8);
        checks.due(4, "mask(3, 0), noughts ahead", x.mask(3, 0), 7);
        checks.due(4, "of(3, 0)", x.of(3, 0), 7);
    }

    private static final int[] EIGHT = {9000, 12, 8000, 34, 7000, 56, 6000, 78};

    private static void eightWords() {
        HangedWords x = new HangedWords();
        for (int w = 0; w < 8; w++) {
            checks.due(4, "word(" + EIGHT[w] + ")", x.word(EIGHT[w]), w);
            checks.due(4, "count(0)", x.count(0), w + 1);
        }
        for (int w = 0; w < 8; w++) {
            checks.due(4, "of(" + w + ", 0)", x.of(w, 0), EIGHT[w]);
        }
    }

    private static void wordThatIsThere() {
        HangedWords x = new HangedWords();
        for (int w = 0; w < 8; w++) {
            x.word(EIGHT[w]);
            for (int v = 0; v <= w; v++) {
                checks.due(4, "word(" + EIGHT[v] + "), there already", x.word(EIGHT[v]), NO);
            }
        }
        checks.dueStatus(4, x, 0, 36, 0);
        x.game(0);
        checks.due(4, "word(9000), not there any more", x.word(9000), 0);
    }

    private static void ninthWord() {
        HangedWords x = Checks.with(0, EIGHT);
        checks.dueRefused(4, "a 9th word", x, y -> y.word(1111), FULL);
        checks.dueRefused(4, "a 9th word, there already", x, y -> y.word(78), NO);
        checks.dueRefused(4, "a 9th word, one below a code", x, y -> y.word(-1), BAD);
        checks.dueRefused(4, "a 9th word, one above a code", x, y -> y.word(10000), BAD);
        checks.due(4, "count(0)", x.count(0), 8);
        checks.due(4, "of(7, 0)", x.of(7, 0), 78);
    }

    private static void wordBeginsAnew() {
        HangedWords x = Checks.with(0, 1111, 2222);
        x.guess(3);
        x.guess(1);
        checks.dueCounts(4, x, 2, 1, 2, 1);
        x.word(4444);
        checks.dueCounts(4, x, 3, 3, 0, 0);
        for (int w = 0; w < 3; w++) {
            checks.due(4, "of(" + w + ", 1)", x.of(w, 1), 1);
        }
        checks.due(4, "guess(3), not guessed now", x.guess(3), 0);
        checks.due(4, "guess(1), not guessed now", x.guess(1), 15);
    }

    private static void wordLeavesTheSecret() {
        HangedWords x = busy();
        x.word(4444);
        checks.dueCounts(4, x, 4, 4, 0, 0, 2, 2, 1, 2, 0, 7);
        checks.dueFraction(4, "word(4444)", x, 2, 9);
    }

    private static void wordLeavesNothingToUndo() {
        HangedWords x = Checks.with(0, 1111, 2222);
        x.guess(5);
        x.secret(1);
        x.anew();
        checks.due(4, "count(8)", x.count(8), 3);
        x.word(3333);
        checks.due(4, "count(8) behind a word", x.count(8), 0);
        checks.due(4, "undo() behind a word", x.undo(), NO);
        checks.due(4, "count(4), told ahead of it", x.count(4), 1);
    }

    private static void refusedWord() {
        HangedWords x = Checks.with(0, EIGHT);
        x.secret(3);
        x.guess(1);
        long before = x.digest();
        x.word(78);
        checks.dueUnchanged(4, "NO", x, before);
        x.word(1111);
        checks.dueUnchanged(4, "FULL", x, before);
        x.word(10000);
        checks.dueUnchanged(4, "BAD", x, before);
        checks.due(4, "undo() behind refused words", x.undo(), 0);
        checks.due(4, "undo() behind refused words", x.undo(), 0);
    }

    // ---- type, clear

    private static void bytes() {
        HangedWords x = new HangedWords();
        for (int c : new int[] {-1, 128, Integer.MIN_VALUE, Integer.MAX_VALUE, 256, -128}) {
            checks.dueRefused(5, "type(" + c + ")", x, y -> y.type(c), BAD);
        }
        checks.due(5, "count(9)", x.count(9), 0);
        for (int c = 0; c <= 127; c++) {
            checks.due(5, "type(" + c + ")", x.type(c), c + 1);
        }
        checks.due(5, "count(9)", x.count(9), 128);
        checks.dueStatus(5, x, 6, 0, 0);
    }

    private static HangedWords withFullText() {
        HangedWords x = new HangedWords();
        for (int i = 1; i <= 150; i++) {
            checks.due(5, "type(32)", x.type(32), i);
        }
        return x;
    }

    private static void fullText() {
        HangedWords x = withFullText();
        checks.dueRefused(5, "type(32), the 151st", x, y -> y.type(32), FULL);
        checks.dueRefused(5, "type(0), the 151st", x, y -> y.type(0), FULL);
        checks.due(5, "count(9)", x.count(9), 150);
        x.clear();
        checks.due(5, "type(65) behind clear()", x.type(65), 1);
    }

    private static void badByteToFullText() {
        HangedWords x = withFullText();
        checks.dueRefused(5, "type(128), the 151st", x, y -> y.type(128), BAD);
        checks.dueRefused(5, "type(-1), the 151st", x, y -> y.type(-1), BAD);
        checks.due(5, "count(9)", x.count(9), 150);
    }

    private static void clear() {
        HangedWords x = new HangedWords();
        checks.due(6, "clear() of an empty text", x.clear(), 0);
        x.type(0);
        checks.due(6, "clear() of one byte", x.clear(), 1);
        checks.due(6, "clear() again", x.clear(), 0);
        HangedWords y = withFullText();
        checks.due(6, "clear() of a full text", y.clear(), 150);
        checks.due(6, "count(9)", y.count(9), 0);
        checks.dueStatus(6, y, 0, 0, 0);
    }

    private static void clearedBytesAreGone() {
        HangedWords x = new HangedWords();
        Checks.typeAnew(x, "game 5;");
        x.clear();
        checks.due(6, "read() of a cleared text", x.read(), -10);
        Checks.typeAnew(x, "game 3");
        checks.due(6, "read() of less than was there", x.read(), -16);
        x.type(';');
        checks.due(6, "read()", x.read(), 1);
        checks.due(6, "count(5)", x.count(5), 3);
        // What was typed before would make a word or a number longer, or end an item.
        Checks.typeAnew(x, "games 000;");
        Checks.typeAnew(x, "game");
        checks.due(6, "read() of a word that was longer", x.read(), -14);
        Checks.typeAnew(x, "game 000;");
        Checks.typeAnew(x, "game 00");
        checks.due(6, "read() of a number that was longer", x.read(), -17);
        Checks.typeAnew(x, "         ");
        Checks.typeAnew(x, " ");
        checks.due(6, "read() of fewer blanks", x.read(), -11);
    }
}
