/** Promises 31 to 36: part, image, from, status, count, digest. */
public final class ThereTest {
    private static final Checks checks = new Checks();

    public static void main(String[] args) {
        constants();
        part();
        images();
        imagesKeepWhatMayBeUndone();
        status();
        count();
        digest();
        checks.end();
    }

    private static void constants() {
        checks.due(0, "NONE", HangedWords.NONE, -1);
        checks.due(0, "BAD", HangedWords.BAD, -2);
        checks.due(0, "NO", HangedWords.NO, -3);
        checks.due(0, "FULL", HangedWords.FULL, -4);
    }

    private static void part() {
        HangedWords x = Checks.with(0, 1111, 2222);
        checks.dueFraction(31, "at first", x, 0, 1);
        x.mean(1);
        checks.dueFraction(31, "mean(1)", x, 1, 2);
        x.luck(3);
        // Of 120 sets of three letters 36 + 28 have 1 or 2 in them.
        checks.dueFraction(31, "luck(3)", x, 8, 15);
        checks.due(31, "part(-1)", x.part(-1), HangedWords.BAD);
        checks.due(31, "part(2)", x.part(2), HangedWords.BAD);
        checks.dueStatus(31, x, 2, 0, 0);
        checks.dueFraction(31, "part(2)", x, 8, 15);
    }

    private static void images() {
        HangedWords x = Checks.with(5, 1111, 2222, 3333);
        checks.due(32, "image(-1)", x.image(-1), HangedWords.BAD);
        checks.due(32, "image(2)", x.image(2), HangedWords.BAD);
        checks.due(33, "from(-1)", x.from(-1), HangedWords.BAD);
        checks.due(33, "from(2)", x.from(2), HangedWords.BAD);
        checks.due(33, "from(0), none kept", x.from(0), HangedWords.NO);
        checks.dueStatus(33, x, 4, 1, 0);
        x.secret(2);
        x.guess(9);
        x.note(1, 2, 3, 4);
        x.mark(5, 6, 7);
        long before = x.digest();
        checks.due(32, "image(0)", x.image(0), 1);
        checks.dueUnchanged(32, "image(0)", x, before);
        checks.due(33, "from(1), none kept", x.from(1), HangedWords.NO);
        x.game(1);
        x.word(9876);
        x.note(1, 0, 0, 0);
        x.note(1, 0, 0, 0);
        checks.due(32, "image(1)", x.image(1), 1);
        x.word(9875);
        x.type(65);
        x.luck(0);
        checks.due(33, "from(0)", x.from(0), 1);
        checks.dueCounts(33, x, 3, 3, 1, 1, 2, 5, 1, 1, 2, 1);
        checks.dueFraction(33, "from(0)", x, 0, 1);
        checks.dueStatus(33, x, 4, 2, 0);
        checks.due(33, "mask(1, 2)", x.mask(1, 2), 15);
        x.clear();
        checks.due(33, "digest() as it was", x.digest(), before);
        x.guess(1);
        checks.due(33, "from(1)", x.from(1), 1);
        checks.dueCounts(33, x, 1, 1, 0, 0, 0, 1, 2, 0, 0, 0);
        checks.due(33, "of(0, 0)", x.of(0, 0), 9876);
        checks.due(33, "from(0) again", x.from(0), 1);
        checks.due(33, "digest() as it was", x.digest(), before);
        x.anew();
        checks.due(32, "image(0) anew", x.image(0), 1);
        x.game(0);
        x.from(0);
        checks.dueCounts(32, x, 3, 3, 0, 0, 2, 5, 1, 1, 3, 0);
    }

    private static void imagesKeepWhatMayBeUndone() {
        HangedWords x = Checks.with(0, 1111, 2222);
        x.guess(5);
        x.guess(1);
        x.image(0);
        x.undo();
        x.undo();
        x.guess(7);
        x.guess(8);
        x.guess(9);
        x.from(0);
        checks.due(33, "count(8)", x.count(8), 2);
        checks.due(33, "undo()", x.undo(), 1);
        checks.dueCounts(33, x, 2, 2, 1, 1);
        checks.due(33, "answer(5), guessed", x.answer(5), HangedWords.NO);
        checks.due(33, "undo()", x.undo(), 0);
        checks.due(33, "undo()", x.undo(), HangedWords.NO);
        x.from(0);
        checks.due(33, "count(8) again", x.count(8), 2);
    }

    private static void status() {
        HangedWords x = new HangedWords();
        checks.due(34, "status(-1)", x.status(-1), -1);
        checks.due(34, "status(3)", x.status(3), -1);
        checks.dueStatus(34, x, 2, 0, 0);
        x.undo();
        x.guess(0);
        x.against(-2);
        x.against(99);
        x.read();
        x.look();
        x.ask();
        x.surely(1);
        checks.dueStatus(34, x, 3, 2, 0);
        for (int i = 0; i <= 150; i++) {
            x.type(65);
        }
        checks.dueStatus(34, x, 3, 2, 1);
        x.image(0);
        x.game(0);
        x.from(0);
        checks.dueStatus(34, x, 3, 2, 1);
    }

    private static void count() {
        HangedWords x = Checks.with(3, 1111, 2222, 3333, 4567);
        x.type(65);
        x.secret(1);
        x.guess(9);
        x.guess(8);
        x.guess(4);
        x.note(1, 0, 0, 0);
        x.mark(1, 0, 0);
        x.mark(2, 0, 0);
        x.type(66);
        // A mild holder gives the 4 of the one word that has it.
        checks.dueCounts(35, x, 4, 1, 3, 2, 1, 3, 1, 2, 4, 2);
        checks.due(35, "count(-1)", x.count(-1), HangedWords.BAD);
        checks.due(35, "count(10)", x.count(10), HangedWords.BAD);
        checks.dueStatus(35, x, 2, 0, 0);
    }

    private static long hash(long... values) {
        long h = 1823;
        for (long v : values) {
            h = 31 * h + v;
        }
        return h;
    }

    private static void digest() {
        HangedWords x = new HangedWords();
        checks.due(36, "digest(), new", x.digest(), hash(0, 0, 0, 0, 0, 0, 0, 0, 0, 0, 0, 0, 0, 1));
        x = Checks.with(2, 1111, 2222, 3333);
        x.secret(2);
        x.guess(1);
        x.type(65);
        x.note(7, 1, 2, 3);
        x.note(3, 9, 8, 15);
        x.mark(5, 1000, 9);
        x.luck(1);
        checks.due(36, "digest()", x.digest(), hash(3, 2, 1, 1, 2, 2, 2, 1, 2, 1, 1111, 2222, 3333,
                6, 2, 7, 1, 2, 3, 3, 9, 8, 15, 5, 1000, 9, 2, 9));
        checks.due(36, "digest() again", x.digest(), hash(3, 2, 1, 1, 2, 2, 2, 1, 2, 1, 1111, 2222, 3333,
                6, 2, 7, 1, 2, 3, 3, 9, 8, 15, 5, 1000, 9, 2, 9));
        checks.dueStatus(36, x, 0, 0, 0);
    }
}
