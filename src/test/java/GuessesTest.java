/** Promises 8 to 14: guess, secret, anew, undo, of, mask, answer. */
public final class GuessesTest {
    private static final Checks checks = new Checks();

    public static void main(String[] args) {
        guess();
        secret();
        anewAndUndo();
        undoDropsTheOldest();
        ofAndMask();
        answerByKind();
        answerRefused();
        checks.end();
    }

    private static void guess() {
        HangedWords x = new HangedWords();
        checks.due(8, "guess(-1)", x.guess(-1), HangedWords.BAD);
        checks.due(8, "guess(10)", x.guess(10), HangedWords.BAD);
        checks.due(8, "guess(0), no words", x.guess(0), HangedWords.NO);
        checks.dueStatus(8, x, 2, 1, 0);
        x = Checks.with(0, 1213, 1223, 4561);
        checks.due(8, "guess(7)", x.guess(7), 0);
        checks.dueCounts(8, x, 3, 3, 1, 1);
        checks.due(8, "guess(1)", x.guess(1), 5);
        checks.dueCounts(8, x, 3, 1, 2, 1);
        checks.due(8, "of(0, 1)", x.of(0, 1), 1);
        checks.due(8, "guess(1) again", x.guess(1), HangedWords.NO);
        checks.dueCounts(8, x, 3, 1, 2, 1, 0, 0, 0, 0, 2);
        checks.due(8, "guess(9), one left", x.guess(9), 0);
        checks.dueCounts(8, x, 3, 1, 3, 2);
        checks.dueStatus(8, x, 0, 1, 0);
        slipperyKeepsMostWords();
    }

    private static void slipperyKeepsMostWords() {
        HangedWords x = Checks.with(1, 1213, 4561, 7891, 2345);
        checks.due(8, "guess(1), slippery", x.guess(1), 8);
        checks.due(8, "of(0, 1)", x.of(0, 1), 0);
        checks.due(8, "of(1, 1)", x.of(1, 1), 1);
        checks.due(8, "of(2, 1)", x.of(2, 1), 1);
        checks.due(8, "of(3, 1)", x.of(3, 1), 0);
        x.holder(0);
        checks.due(8, "guess(4), the least left is kept", x.guess(4), 1);
    }

    private static void secret() {
        HangedWords x = new HangedWords();
        checks.due(9, "secret(0), no words", x.secret(0), HangedWords.BAD);
        x = Checks.with(0, 1111, 2222, 3333);
        checks.due(9, "secret(0), as it is", x.secret(0), HangedWords.NO);
        checks.due(9, "secret(-1)", x.secret(-1), HangedWords.BAD);
        checks.due(9, "secret(3)", x.secret(3), HangedWords.BAD);
        checks.dueStatus(9, x, 2, 1, 0);
        checks.due(9, "count(8)", x.count(8), 0);
        checks.due(9, "secret(2)", x.secret(2), 0);
        checks.due(9, "secret(1)", x.secret(1), 2);
        checks.dueCounts(9, x, 3, 3, 0, 0, 1, 0, 0, 0, 2);
        checks.due(9, "answer(2)", x.answer(2), 15);
        x.guess(2);
        checks.due(9, "secret(2), not left", x.secret(2), 1);
        checks.due(9, "answer(3), not of the secret", x.answer(3), 0);
    }

    private static void anewAndUndo() {
        HangedWords x = Checks.with(0, 1111, 2222, 3333);
        checks.due(11, "undo(), none", x.undo(), HangedWords.NO);
        x.guess(9);
        x.secret(2);
        x.guess(1);
        checks.due(10, "anew()", x.anew(), 2);
        checks.dueCounts(10, x, 3, 3, 0, 0, 2, 0, 0, 0, 4);
        checks.due(10, "anew() again", x.anew(), 0);
        checks.due(10, "count(8)", x.count(8), 5);
        checks.due(11, "undo()", x.undo(), 0);
        checks.due(11, "undo() of anew", x.undo(), 2);
        checks.dueCounts(11, x, 3, 2, 2, 2, 2, 0, 0, 0, 3);
        checks.due(11, "undo() of guess(1)", x.undo(), 1);
        checks.dueCounts(11, x, 3, 3, 1, 1, 2, 0, 0, 0, 2);
        checks.due(11, "undo() of secret(2)", x.undo(), 1);
        checks.dueCounts(11, x, 3, 3, 1, 1, 0, 0, 0, 0, 1);
        checks.due(11, "undo() of guess(9)", x.undo(), 0);
        checks.dueCounts(11, x, 3, 3, 0, 0, 0, 0, 0, 0, 0);
        checks.due(11, "undo(), none left", x.undo(), HangedWords.NO);
        checks.dueStatus(11, x, 0, 2, 0);
        x.guess(9);
        x.guess(9);
        checks.due(11, "count(8), a guess refused", x.count(8), 1);
        x.word(4444);
        checks.due(11, "undo() behind a word", x.undo(), HangedWords.NO);
        x.anew();
        x.holder(0);
        checks.due(11, "undo() behind holder", x.undo(), HangedWords.NO);
        x.note(1, 0, 0, 0);
        x.guess(1);
        x.note(2, 0, 0, 0);
        checks.due(11, "undo() of guess(1)", x.undo(), 0);
        checks.due(11, "count(6), notes stay", x.count(6), 2);
    }

    private static void undoDropsTheOldest() {
        HangedWords x = Checks.with(0, 1111);
        for (int l = 2; l < 10; l++) {
            x.guess(l);
        }
        checks.due(11, "count(8)", x.count(8), 8);
        x.guess(0);
        x.guess(1);
        checks.dueCounts(11, x, 1, 1, 10, 9, 0, 0, 0, 0, 8);
        checks.due(11, "undo()", x.undo(), 9);
        for (int wrong = 8; wrong >= 2; wrong--) {
            checks.due(11, "undo()", x.undo(), wrong);
        }
        checks.due(11, "undo(), the ninth", x.undo(), HangedWords.NO);
        checks.dueCounts(11, x, 1, 1, 2, 2, 0, 0, 0, 0, 0);
        checks.due(11, "guess(3), guessed still", x.guess(3), HangedWords.NO);
        checks.due(11, "guess(4)", x.guess(4), 0);
    }

    private static void ofAndMask() {
        HangedWords x = Checks.with(0, 7, 1000, 9190);
        checks.due(12, "of(0, 0)", x.of(0, 0), 7);
        checks.due(12, "of(1, 0)", x.of(1, 0), 1000);
        checks.due(12, "of(2, 0)", x.of(2, 0), 9190);
        checks.due(12, "of(2, 1)", x.of(2, 1), 1);
        x.guess(7);
        checks.due(12, "of(0, 1)", x.of(0, 1), 1);
        checks.due(12, "of(2, 1)", x.of(2, 1), 0);
        checks.due(13, "mask(0, 0)", x.mask(0, 0), 7);
        checks.due(13, "mask(0, 7)", x.mask(0, 7), 8);
        checks.due(13, "mask(1, 1)", x.mask(1, 1), 1);
        checks.due(13, "mask(1, 0)", x.mask(1, 0), 14);
        checks.due(13, "mask(2, 9)", x.mask(2, 9), 5);
        checks.due(13, "mask(2, 1)", x.mask(2, 1), 2);
        checks.due(13, "mask(2, 2)", x.mask(2, 2), 0);
        checks.dueStatus(12, x, 0, 0, 0);
        int[][] badOf = {{-1, 0}, {3, 0}, {8, 1}, {0, -1}, {0, 2}};
        for (int[] bad : badOf) {
            checks.due(12, "of(" + bad[0] + ", " + bad[1] + ")", x.of(bad[0], bad[1]), HangedWords.BAD);
        }
        checks.dueStatus(12, x, 5, 0, 0);
        int[][] badMask = {{-1, 0}, {3, 0}, {0, -1}, {0, 10}};
        for (int[] bad : badMask) {
            checks.due(13, "mask(" + bad[0] + ", " + bad[1] + ")", x.mask(bad[0], bad[1]), HangedWords.BAD);
        }
        checks.dueStatus(13, x, 9, 0, 0);
    }

    private static void answers(HangedWords x, int letter, int... byKind) {
        for (int kind = 0; kind < byKind.length; kind++) {
            x.holder(kind);
            checks.due(14, "answer(" + letter + ") by kind " + kind, x.answer(letter), byKind[kind]);
        }
    }

    private static void answerByKind() {
        HangedWords x = Checks.with(0, 1123, 1213, 4561, 7891, 2345);
        answers(x, 1, 3, 8, 0, 5, 3, 8);
        answers(x, 9, 0, 0, 0, 4, 0, 0);
        x.secret(4);
        answers(x, 1, 0, 8, 0, 5, 0, 8);
        x.guess(0);
        x.secret(1);
        answers(x, 1, 5, 8, 0, 5, 0, 8);
        x.guess(6);
        answers(x, 1, 5, 0, 0, 5, 5, 0);
        // Half of the words have the kept one's mask, and as many have a lesser one.
        HangedWords y = Checks.with(0, 4561, 7891, 1123, 1145);
        answers(y, 1, 8, 3, 3, 3, 8, 8);
        answers(y, 4, 1, 0, 0, 4, 1, 0);
        y.guess(0);
        answers(y, 1, 8, 3, 3, 3, 3, 8);
        checks.dueCounts(14, y, 4, 4, 1, 1);
    }

    private static void answerRefused() {
        HangedWords x = new HangedWords();
        checks.due(14, "answer(0), no words", x.answer(0), HangedWords.NO);
        checks.due(14, "answer(-1)", x.answer(-1), HangedWords.BAD);
        checks.due(14, "answer(10)", x.answer(10), HangedWords.BAD);
        x.word(1234);
        x.guess(1);
        checks.due(14, "answer(1), guessed", x.answer(1), HangedWords.NO);
        checks.due(14, "answer(2)", x.answer(2), 2);
        checks.due(14, "count(2)", x.count(2), 1);
        checks.dueStatus(14, x, 2, 2, 0);
    }
}
