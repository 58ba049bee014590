/** The edges of promises 8 to 14 (guess, secret, anew, undo, of, mask, answer), and of the kinds of holders. */
public final class EdgesOfGuessesTest {
    private static final Checks checks = new Checks();
    private static final int BAD = HangedWords.BAD;
    private static final int NO = HangedWords.NO;
    private static final int[] EIGHT = {0, 1111, 2222, 3333, 4444, 5555, 6666, 7777};

    public static void main(String[] args) {
        Edges edges = new Edges(checks);
        guess(edges);
        secret(edges);
        anewAndUndo(edges);
        ofAndMask(edges);
        answer(edges);
        holders(edges);
        edges.end(8, 14);
    }

    private static void guess(Edges edges) {
        edges.edge(8, "A GUESS: the MASK that is answered. BAD", EdgesOfGuessesTest::lettersOfGuess);
        edges.edge(8, "NO: GUESSED", EdgesOfGuessesTest::guessedLetter);
        edges.edge(8, "no WORD LEFT", EdgesOfGuessesTest::guessWithoutWords);
        edges.edge(8, "WORDS LEFT are those that have the MASK that is answered; the LETTER is GUESSED",
                EdgesOfGuessesTest::guessParts);
        edges.edge(8, "if the MASK is 0, WRONG is one more", EdgesOfGuessesTest::wrong);
        edges.edge(8, "(none, if all are)", EdgesOfGuessesTest::allGuessed);
    }

    private static void secret(Edges edges) {
        edges.edge(9, "The SECRET is told: which WORD it was. BAD", EdgesOfGuessesTest::wordsOfSecret);
        edges.edge(9, "NO: it is so", EdgesOfGuessesTest::secretAsItIs);
        edges.edge(9, "which WORD it was", EdgesOfGuessesTest::secretNotLeft);
    }

    private static void anewAndUndo(Edges edges) {
        edges.edge(10, "The GAME is begun anew: WRONG as it was", EdgesOfGuessesTest::anew);
        edges.edge(10, "A GAME begun anew: as at first (the SECRET stays)", EdgesOfGuessesTest::anewLeavesTheSecret);
        edges.edge(10, "as at first", EdgesOfGuessesTest::anewWithoutWords);
        edges.edge(11, "UNDO: WRONG then. NO: none may be", EdgesOfGuessesTest::nothingToUndo);
        edges.edge(11, "GUESSED, LEFT, WRONG, the SECRET as ahead of the last GUESS, GAME begun anew, SECRET told",
                EdgesOfGuessesTest::undoOfEach);
        edges.edge(11, "(8 at most", EdgesOfGuessesTest::eightMayBeUndone);
        edges.edge(11, "8 at most", EdgesOfGuessesTest::eightOfAllSorts);
        edges.edge(11, "behind THE HOLDER told, a WORD that comes none may be", EdgesOfGuessesTest::noneBehindThese);
        edges.edge(11, "Refused, changing nothing but STATUS", EdgesOfGuessesTest::refusedIsNotUndone);
        edges.edge(11, "GUESSED, LEFT, WRONG, the SECRET", EdgesOfGuessesTest::undoLeavesAllElse);
    }

    private static void ofAndMask(Edges edges) {
        edges.edge(12, "CODE of a WORD (what 0), whether it is LEFT (1; 1, 0). BAD", EdgesOfGuessesTest::numbersOfOf);
        edges.edge(12, "whether it is LEFT (1; 1, 0)", EdgesOfGuessesTest::leftOrNot);
        edges.edge(13, "MASK of a LETTER in a WORD. BAD", EdgesOfGuessesTest::numbersOfMask);
        edges.edge(13, "MASK of a LETTER in a WORD: PLACES (bits 0 to 3) at which it stands", EdgesOfGuessesTest::masks);
    }

    private static void answer(Edges edges) {
        edges.edge(14, "What THE HOLDER would answer to a LETTER now. BAD", EdgesOfGuessesTest::lettersOfAnswer);
        edges.edge(14, "NO: GUESSED, no WORD LEFT", EdgesOfGuessesTest::answerRefused);
        edges.edge(14, "What THE HOLDER would answer", EdgesOfGuessesTest::answerChangesNothing);
    }

    private static void holders(Edges edges) {
        edges.edge(14, "KEPT is the SECRET, if that is LEFT, else the least WORD LEFT", EdgesOfGuessesTest::kept);
        edges.edge(14, "the MASK that most WORDS LEFT have; of like ones the least", EdgesOfGuessesTest::slippery);
        edges.edge(14, "0, if a WORD LEFT has that, else as SLIPPERY", EdgesOfGuessesTest::mean);
        edges.edge(14, "the one of most PLACES; of like ones the greatest", EdgesOfGuessesTest::mild);
        edges.edge(14, "as MEAN, if how many LETTERS are GUESSED is an odd number, else that in KEPT",
                EdgesOfGuessesTest::moody);
        edges.edge(14, "that in KEPT, if half of the WORDS LEFT, or more, have it, else as SLIPPERY",
                EdgesOfGuessesTest::stubborn);
    }

    // ---- guess

    private static void lettersOfGuess() {
        HangedWords x = Checks.with(0, 1234);
        for (int l : new int[] {-1, 10, Integer.MIN_VALUE, Integer.MAX_VALUE, 32, 33}) {
            checks.dueRefused(8, "guess(" + l + ")", x, y -> y.guess(l), BAD);
        }
        checks.due(8, "count(2)", x.count(2), 0);
        checks.due(8, "guess(0)", x.guess(0), 0);
        checks.due(8, "guess(9)", x.guess(9), 0);
        checks.due(8, "guess(4)", x.guess(4), 8);
    }

    private static void guessedLetter() {
        HangedWords x = Checks.with(0, 1234, 5678);
        x.guess(1);
        x.guess(9);
        long before = x.digest();
        checks.dueRefused(8, "guess(1) again, right", x, y -> y.guess(1), NO);
        checks.dueRefused(8, "guess(9) again, wrong", x, y -> y.guess(9), NO);
        checks.dueUnchanged(8, "guess again", x, before);
        x.anew();
        checks.due(8, "guess(1) behind anew()", x.guess(1), 1);
    }

    private static void guessWithoutWords() {
        HangedWords x = new HangedWords();
        long before = x.digest();
        for (int l = 0; l < 10; l++) {
            int letter = l;
            checks.dueRefused(8, "guess(" + l + "), no words", x, y -> y.guess(letter), NO);
        }
        checks.dueRefused(8, "guess(10), no words", x, y -> y.guess(10), BAD);
        checks.dueRefused(8, "guess(-1), no words", x, y -> y.guess(-1), BAD);
        checks.dueUnchanged(8, "guess without words", x, before);
        x.word(1111);
        x.game(0);
        checks.dueRefused(8, "guess(1), no words any more", x, y -> y.guess(1), NO);
    }

    private static void guessParts() {
        HangedWords x = Checks.with(0, 1213, 1223, 2113, 1214);
        checks.due(8, "guess(1)", x.guess(1), 5);
        checks.dueCounts(8, x, 4, 2, 1, 0);
        checks.due(8, "of(1, 1), not so often", x.of(1, 1), 0);
        checks.due(8, "of(2, 1), elsewhere", x.of(2, 1), 0);
        checks.due(8, "of(3, 1), the same", x.of(3, 1), 1);
        checks.due(8, "guess(4)", x.guess(4), 0);
        checks.dueCounts(8, x, 4, 1, 2, 1);
        checks.due(8, "guess(3), one left", x.guess(3), 8);
        checks.due(8, "guess(5), one left", x.guess(5), 0);
        checks.dueCounts(8, x, 4, 1, 4, 2);
    }

    private static void wrong() {
        HangedWords x = Checks.with(0, 1111);
        x.guess(1);
        checks.due(8, "count(3), right", x.count(3), 0);
        x.guess(2);
        checks.due(8, "count(3), wrong", x.count(3), 1);
        HangedWords y = Checks.with(2, 1111, 2222);
        y.guess(1);
        checks.due(8, "count(3), a mean holder's no", y.count(3), 1);
        y.guess(2);
        checks.due(8, "count(3), all that is left has it", y.count(3), 1);
    }

    private static void allGuessed() {
        HangedWords x = Checks.with(0, 8888);
        for (int l = 0; l < 10; l++) {
            checks.due(8, "guess(" + l + ")", x.guess(l), l == 8 ? 15 : 0);
        }
        checks.dueCounts(8, x, 1, 1, 10, 9, 0, 0, 0, 0, 8);
        for (int l = 0; l < 10; l++) {
            int letter = l;
            checks.dueRefused(8, "guess(" + l + "), all guessed", x, y -> y.guess(letter), NO);
            checks.dueRefused(14, "answer(" + l + "), all guessed", x, y -> y.answer(letter), NO);
        }
        checks.dueRefused(8, "guess(10), all guessed", x, y -> y.guess(10), BAD);
        checks.dueCounts(8, x, 1, 1, 10, 9, 0, 0, 0, 0, 8);
    }

    // ---- secret

    private static void wordsOfSecret() {
        HangedWords x = new HangedWords();
        checks.dueRefused(9, "secret(0), no words", x, y -> y.secret(0), BAD);
        x.word(1111);
        x.word(2222);
        for (int w : new int[] {-1, 2, 7, 8, Integer.MIN_VALUE, Integer.MAX_VALUE}) {
            checks.dueRefused(9, "secret(" + w + "), two words", x, y -> y.secret(w), BAD);
        }
        checks.due(9, "secret(1)", x.secret(1), 0);
        checks.due(9, "count(4)", x.count(4), 1);
        HangedWords z = Checks.with(0, EIGHT);
        checks.due(9, "secret(7), eight words", z.secret(7), 0);
        checks.dueRefused(9, "secret(8), eight words", z, y -> y.secret(8), BAD);
        checks.due(9, "secret(0)", z.secret(0), 7);
    }

    private static void secretAsItIs() {
        HangedWords x = Checks.with(0, 1111, 2222);
        long before = x.digest();
        checks.dueRefused(9, "secret(0), as at first", x, y -> y.secret(0), NO);
        checks.dueUnchanged(9, "secret(0)", x, before);
        x.secret(1);
        checks.dueRefused(9, "secret(1), as told", x, y -> y.secret(1), NO);
        checks.due(9, "count(8)", x.count(8), 1);
        x.undo();
        checks.dueRefused(9, "secret(0), as undone", x, y -> y.secret(0), NO);
    }

    private static void secretNotLeft() {
        HangedWords x = Checks.with(0, 1111, 2222, 3333);
        x.guess(1);
        checks.due(9, "secret(2), not left", x.secret(2), 0);
        checks.dueCounts(9, x, 3, 1, 1, 0, 2);
        checks.due(9, "answer(3), by the one that is left", x.answer(3), 0);
    }

    // ---- anew, undo

    private static void anew() {
        HangedWords x = Checks.with(0, 1111, 2222);
        checks.due(10, "anew() of a new game", x.anew(), 0);
        for (int l = 2; l < 10; l++) {
            x.guess(l);
        }
        x.guess(0);
        checks.due(10, "anew(), nine wrong", x.anew(), 9);
        checks.dueCounts(10, x, 2, 2, 0, 0);
        checks.due(10, "anew() again", x.anew(), 0);
        x.guess(1);
        checks.due(10, "anew(), none wrong", x.anew(), 0);
        checks.dueCounts(10, x, 2, 2, 0, 0);
        checks.dueStatus(10, x, 0, 0, 0);
    }

    private static void anewLeavesTheSecret() {
        HangedWords x = Checks.with(4, 1111, 2222, 3333);
        x.secret(2);
        x.note(1, 0, 0, 0);
        x.mark(1, 0, 0);
        x.guess(1);
        x.anew();
        checks.dueCounts(10, x, 3, 3, 0, 0, 2, 4, 1, 1, 3, 0);
        checks.due(10, "answer(3)", x.answer(3), 15);
    }

    private static void anewWithoutWords() {
        HangedWords x = new HangedWords();
        checks.due(10, "anew(), no words", x.anew(), 0);
        checks.dueCounts(10, x, 0, 0, 0, 0, 0, 0, 0, 0, 1, 0);
        checks.due(10, "undo() of it", x.undo(), 0);
        checks.dueRefused(10, "undo(), no further", x, HangedWords::undo, NO);
        x.anew();
        x.word(1111);
        checks.dueRefused(10, "undo() behind a word", x, HangedWords::undo, NO);
        checks.dueCounts(10, x, 1, 1, 0, 0);
    }

    private static void nothingToUndo() {
        HangedWords x = new HangedWords();
        checks.dueRefused(11, "undo() of a new object", x, HangedWords::undo, NO);
        x.word(1111);
        checks.dueRefused(11, "undo() of a new game", x, HangedWords::undo, NO);
        x.guess(1);
        checks.due(11, "undo()", x.undo(), 0);
        long before = x.digest();
        checks.dueRefused(11, "undo() of what is undone", x, HangedWords::undo, NO);
        checks.dueUnchanged(11, "undo()", x, before);
    }

    private static void undoOfEach() {
        HangedWords x = Checks.with(0, 1111, 2222, 3333);
        x.guess(9);
        x.guess(1);
        checks.dueCounts(11, x, 3, 1, 2, 1, 0, 0, 0, 0, 2);
        checks.due(11, "undo() of a guess", x.undo(), 1);
        checks.dueCounts(11, x, 3, 3, 1, 1, 0, 0, 0, 0, 1);
        checks.due(11, "guess(1), not guessed now", x.guess(1), 15);
        x.anew();
        checks.dueCounts(11, x, 3, 3, 0, 0, 0, 0, 0, 0, 3);
        checks.due(11, "undo() of anew()", x.undo(), 1);
        checks.dueCounts(11, x, 3, 1, 2, 1, 0, 0, 0, 0, 2);
        checks.due(11, "guess(9), guessed again", x.guess(9), NO);
        checks.due(11, "of(1, 1), not left again", x.of(1, 1), 0);
        x.secret(2);
        checks.due(11, "undo() of secret(2)", x.undo(), 1);
        checks.dueCounts(11, x, 3, 1, 2, 1, 0, 0, 0, 0, 2);
    }

    private static void eightMayBeUndone() {
        HangedWords x = Checks.with(0, 9999);
        for (int l = 0; l < 8; l++) {
            x.guess(l);
            checks.due(11, "count(8)", x.count(8), l + 1);
        }
        x.guess(8);
        checks.due(11, "count(8), the ninth", x.count(8), 8);
        x.guess(9);
        checks.due(11, "count(8), the tenth", x.count(8), 8);
        for (int left = 7; left >= 0; left--) {
            checks.due(11, "undo()", x.undo(), left == 7 ? 9 : left + 2);
            checks.due(11, "count(8)", x.count(8), left);
        }
        checks.dueRefused(11, "undo(), the ninth", x, HangedWords::undo, NO);
        checks.dueCounts(11, x, 1, 1, 2, 2);
        checks.due(11, "guess(0), still guessed", x.guess(0), NO);
        checks.due(11, "guess(1), still guessed", x.guess(1), NO);
        checks.due(11, "guess(2), undone", x.guess(2), 0);
    }

    private static void eightOfAllSorts() {
        HangedWords x = Checks.with(0, 1111, 2222, 3333);
        x.secret(1);
        x.guess(0);
        x.guess(5);
        x.secret(2);
        x.anew();
        x.guess(6);
        x.secret(0);
        x.anew();
        checks.due(11, "count(8)", x.count(8), 8);
        x.guess(1);
        checks.due(11, "count(8), the ninth", x.count(8), 8);
        int[][] then = {{3, 0, 0, 0}, {3, 1, 1, 0}, {3, 1, 1, 2}, {3, 0, 0, 2}, {3, 2, 2, 2}, {3, 2, 2, 1}, {3, 1, 1, 1},
            {3, 0, 0, 1}};
        for (int[] counts : then) {
            checks.due(11, "undo()", x.undo(), counts[2]);
            checks.dueCounts(11, x, 3, counts[0], counts[1], counts[2], counts[3]);
        }
        checks.dueRefused(11, "undo() of secret(1), too long ago", x, HangedWords::undo, NO);
        checks.due(11, "count(4)", x.count(4), 1);
    }

    private static void noneBehindThese() {
        HangedWords x = Checks.with(0, 1111, 2222);
        x.guess(5);
        x.holder(0);
        checks.dueRefused(11, "undo() behind holder, as it is", x, HangedWords::undo, NO);
        x.guess(6);
        x.holder(3);
        checks.dueRefused(11, "undo() behind holder", x, HangedWords::undo, NO);
        x.guess(7);
        x.word(3333);
        checks.dueRefused(11, "undo() behind a word", x, HangedWords::undo, NO);
        x.guess(8);
        x.game(0);
        checks.dueRefused(11, "undo() behind game", x, HangedWords::undo, NO);
        checks.dueCounts(11, x, 0, 0, 0, 0, 0, 0, 0, 0, 0, 0);
    }

    private static void refusedIsNotUndone() {
        HangedWords x = Checks.with(0, 1111, 2222);
        x.guess(5);
        x.guess(5);
        x.guess(10);
        x.secret(0);
        x.secret(2);
        x.holder(6);
        x.holder(-1);
        x.word(1111);
        x.word(-1);
        checks.due(11, "count(8)", x.count(8), 1);
        checks.due(11, "undo() of the guess", x.undo(), 0);
        checks.due(11, "count(2)", x.count(2), 0);
    }

    private static void undoLeavesAllElse() {
        HangedWords x = Checks.with(3, 1111, 2222);
        x.guess(5);
        x.note(1, 0, 0, 0);
        x.mark(1, 0, 0);
        x.luck(1);
        x.type(65);
        checks.due(11, "undo()", x.undo(), 0);
        checks.dueCounts(11, x, 2, 2, 0, 0, 0, 3, 1, 1, 0, 1);
        checks.dueFraction(11, "undo()", x, 2, 9);
        checks.due(11, "undo() of what came between", x.undo(), NO);
    }

    // ---- of, mask

    private static void numbersOfOf() {
        HangedWords x = Checks.with(0, 0, 9999);
        int[][] bads = {{-1, 0}, {2, 0}, {7, 0}, {8, 0}, {-1, 1}, {2, 1}, {0, -1}, {0, 2}, {1, 2}, {2, 2},
            {Integer.MIN_VALUE, 0}, {Integer.MAX_VALUE, 0}, {0, Integer.MIN_VALUE}, {0, Integer.MAX_VALUE}};
        for (int[] bad : bads) {
            checks.dueRefused(12, "of(" + bad[0] + ", " + bad[1] + ")", x, y -> y.of(bad[0], bad[1]), BAD);
        }
        checks.due(12, "of(0, 0)", x.of(0, 0), 0);
        checks.due(12, "of(1, 0)", x.of(1, 0), 9999);
        HangedWords z = Checks.with(0, EIGHT);
        checks.due(12, "of(7, 0)", z.of(7, 0), 7777);
        checks.due(12, "of(7, 1)", z.of(7, 1), 1);
        checks.dueRefused(12, "of(8, 0), eight words", z, y -> y.of(8, 0), BAD);
    }

    private static void leftOrNot() {
        HangedWords x = Checks.with(0, EIGHT);
        x.guess(0);
        for (int w = 0; w < 8; w++) {
            checks.due(12, "of(" + w + ", 1)", x.of(w, 1), w == 0 ? 1 : 0);
            checks.due(12, "of(" + w + ", 0), left or not", x.of(w, 0), 1111 * w);
        }
    }

    private static void numbersOfMask() {
        HangedWords x = Checks.with(0, 0, 9999);
        int[][] bads = {{-1, 0}, {2, 0}, {8, 0}, {0, -1}, {0, 10}, {2, 10}, {Integer.MIN_VALUE, 0}, {Integer.MAX_VALUE, 0},
            {0, Integer.MIN_VALUE}, {0, Integer.MAX_VALUE}};
        for (int[] bad : bads) {
            checks.dueRefused(13, "mask(" + bad[0] + ", " + bad[1] + ")", x, y -> y.mask(bad[0], bad[1]), BAD);
        }
        checks.due(13, "mask(0, 0)", x.mask(0, 0), 15);
        checks.due(13, "mask(1, 9)", x.mask(1, 9), 15);
        HangedWords z = Checks.with(0, EIGHT);
        checks.due(13, "mask(7, 7)", z.mask(7, 7), 15);
        checks.dueRefused(13, "mask(8, 0), eight words", z, y -> y.mask(8, 0), BAD);
    }

    private static void masks() {
        for (int mask = 0; mask < 16; mask++) {
            int code = 0;
            for (int place = 0; place < 4; place++) {
                code = 10 * code + (mask >> place & 1) * 6;
            }
            HangedWords x = Checks.with(0, code);
            checks.due(13, "mask(0, 6) in " + code, x.mask(0, 6), mask);
            checks.due(13, "mask(0, 0) in " + code, x.mask(0, 0), 15 - mask);
            checks.due(13, "mask(0, 1) in " + code, x.mask(0, 1), 0);
            x.guess(6);
            checks.due(13, "mask(0, 6), guessed", x.mask(0, 6), mask);
        }
    }

    // ---- answer

    private static void lettersOfAnswer() {
        HangedWords x = Checks.with(0, 9870);
        for (int l : new int[] {-1, 10, Integer.MIN_VALUE, Integer.MAX_VALUE, 32}) {
            checks.dueRefused(14, "answer(" + l + ")", x, y -> y.answer(l), BAD);
        }
        checks.due(14, "answer(0)", x.answer(0), 8);
        checks.due(14, "answer(9)", x.answer(9), 1);
    }

    private static void answerRefused() {
        HangedWords x = new HangedWords();
        checks.dueRefused(14, "answer(0), no words", x, y -> y.answer(0), NO);
        checks.dueRefused(14, "answer(9), no words", x, y -> y.answer(9), NO);
        checks.dueRefused(14, "answer(10), no words", x, y -> y.answer(10), BAD);
        x.word(1234);
        x.guess(1);
        x.guess(0);
        checks.dueRefused(14, "answer(1), guessed", x, y -> y.answer(1), NO);
        checks.dueRefused(14, "answer(0), guessed", x, y -> y.answer(0), NO);
        checks.due(14, "answer(2)", x.answer(2), 2);
    }

    private static void answerChangesNothing() {
        for (int kind = 0; kind < 6; kind++) {
            HangedWords x = Checks.with(kind, 1213, 2113, 5678);
            long before = x.digest();
            int said = x.answer(1);
            checks.due(14, "answer(1) again", x.answer(1), said);
            checks.dueUnchanged(14, "answer(1)", x, before);
            checks.due(14, "guess(1), as answered", x.guess(1), said);
        }
    }

    // ---- kinds of holders

    private static void answers(int kind, int letter, int want, int... codes) {
        checks.due(14, "answer(" + letter + ") by kind " + kind, Checks.with(kind, codes).answer(letter), want);
    }

    private static void kept() {
        HangedWords x = Checks.with(2, 1111, 2222, 3333);
        x.guess(1);
        checks.due(14, "of(0, 1), the secret is not left", x.of(0, 1), 0);
        x.holder(0);
        checks.due(14, "answer(2), the least left is kept", x.answer(2), 15);
        checks.due(14, "answer(3), the least left is kept", x.answer(3), 0);
        x.secret(2);
        checks.due(14, "answer(3), the secret is left", x.answer(3), 15);
        checks.due(14, "answer(2), the secret is left", x.answer(2), 0);
    }

    private static void slippery() {
        answers(1, 1, 1, 1000, 1002, 2000);
        answers(1, 1, 0, 1000, 2000);
        answers(1, 1, 0, 2000, 1000);
        answers(1, 1, 1, 1000, 100);
        answers(1, 1, 1, 100, 1000);
        answers(1, 1, 4, 1, 10);
        answers(1, 1, 8, 1, 10, 2001);
        answers(1, 1, 2, 1, 2001, 100, 2100);
        answers(1, 1, 15, 1111);
    }

    private static void mean() {
        answers(2, 1, 0, 1000, 1002, 1003, 2000);
        answers(2, 1, 1, 1000, 1002, 100);
        answers(2, 1, 1, 100, 1000);
        answers(2, 1, 2, 100, 1000, 2100);
        HangedWords x = Checks.with(2, 1000, 1002, 2030);
        checks.due(14, "guess(3), mean", x.guess(3), 0);
        checks.due(14, "answer(1), the word that lacks it is not left", x.answer(1), 1);
    }

    private static void mild() {
        answers(3, 1, 12, 1100, 1010, 11, 1000, 1);
        answers(3, 1, 12, 11, 1010, 1100);
        answers(3, 1, 8, 1000, 1);
        answers(3, 1, 3, 1100, 1, 2222);
        answers(3, 1, 7, 1110, 11, 1);
        answers(3, 1, 14, 1110, 1101, 1011, 111);
        answers(3, 9, 0, 1000, 1);
        HangedWords x = Checks.with(3, 1000, 2222, 1110);
        x.guess(2);
        checks.due(14, "answer(1), the words that have it are not left", x.answer(1), 0);
    }

    private static void moody() {
        HangedWords x = Checks.with(4, 1000, 2000);
        checks.due(14, "answer(1), none guessed", x.answer(1), 1);
        for (int guessed = 1; guessed <= 6; guessed++) {
            x.guess(10 - guessed);
            checks.due(14, "answer(1), " + guessed + " guessed", x.answer(1), guessed % 2 == 1 ? 0 : 1);
        }
        HangedWords y = Checks.with(4, 1000, 100);
        y.secret(1);
        checks.due(14, "answer(1), by the secret", y.answer(1), 2);
        y.guess(9);
        checks.due(14, "answer(1), slippery as all have it", y.answer(1), 1);
    }

    private static void stubborn() {
        answers(5, 1, 8, 1, 2001, 1000, 1002);
        answers(5, 1, 1, 1, 1000, 1002);
        answers(5, 1, 1, 1, 2001, 1000, 1002, 1003);
        answers(5, 1, 8, 1, 2001, 3001, 1000, 1002);
        answers(5, 1, 8, 1, 1000);
        answers(5, 1, 1, 1, 100, 1000);
        answers(5, 1, 8, 1);
        // Of eight, four have the secret's 8 at place 3, which is half; of seven, three are less.
        answers(5, 8, 8, 8, 1008, 2008, 3008, 8000, 8001, 8002, 8003);
        answers(5, 8, 1, 8, 1008, 2008, 8000, 8001, 8002, 8003);
    }
}
