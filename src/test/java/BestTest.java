/** Promises 15 to 22: parts, best, surely, next, ends, mean, luck, against. */
public final class BestTest {
    private static final Checks checks = new Checks();

    public static void main(String[] args) {
        parts();
        best();
        surely();
        next();
        ends();
        endsFromWithinAGame();
        mean();
        luck();
        luckOfFewLetters();
        against();
        nothingIsChanged();
        checks.end();
    }

    private static void parts() {
        HangedWords x = new HangedWords();
        checks.due(15, "parts(0, 0), no words", x.parts(0, 0), 0);
        checks.due(15, "parts(9, 1), no words", x.parts(9, 1), 0);
        x = Checks.with(0, 1123, 1213, 4561, 7891, 2345);
        checks.due(15, "parts(1, 0)", x.parts(1, 0), 4);
        checks.due(15, "parts(1, 1)", x.parts(1, 1), 2);
        checks.due(15, "parts(0, 0)", x.parts(0, 0), 1);
        checks.due(15, "parts(0, 1)", x.parts(0, 1), 5);
        checks.due(15, "parts(5, 0)", x.parts(5, 0), 3);
        checks.due(15, "parts(5, 1)", x.parts(5, 1), 3);
        x.guess(7);
        checks.due(15, "parts(7, 0), guessed", x.parts(7, 0), 1);
        checks.due(15, "parts(7, 1), guessed", x.parts(7, 1), 4);
        checks.due(15, "parts(1, 0), one less left", x.parts(1, 0), 4);
        checks.due(15, "parts(1, 1), one less left", x.parts(1, 1), 1);
        checks.dueStatus(15, x, 0, 0, 0);
        int[][] bads = {{-1, 0}, {10, 0}, {0, -1}, {0, 2}};
        for (int[] bad : bads) {
            checks.due(15, "parts(" + bad[0] + ", " + bad[1] + ")", x.parts(bad[0], bad[1]), HangedWords.BAD);
        }
        checks.dueStatus(15, x, 4, 0, 0);
    }

    private static void best() {
        HangedWords x = new HangedWords();
        checks.due(16, "best(), no words", x.best(), 0);
        x = Checks.with(0, 1123, 1213, 4561, 7891, 2345);
        checks.due(16, "best()", x.best(), 1);
        x.guess(0);
        checks.due(16, "best() behind guess(0)", x.best(), 1);
        x = Checks.with(0, 0, 1111, 2222, 3333, 4444, 5555, 6666, 7777);
        checks.due(16, "best(), all but one alike by each", x.best(), 0);
        HangedWords y = Checks.with(0, 8888);
        for (int l = 0; l < 10; l++) {
            checks.due(16, "best(), one left", y.best(), l);
            y.guess(l);
        }
        checks.due(16, "best(), all guessed", y.best(), HangedWords.NONE);
        checks.dueStatus(16, y, 0, 0, 0);
    }

    private static void surelyIs(int fewest, int letter, int... codes) {
        HangedWords x = Checks.with(0, codes);
        checks.due(17, "surely(0)", x.surely(0), fewest);
        checks.due(17, "surely(1)", x.surely(1), letter);
    }

    private static void surely() {
        surelyIs(0, HangedWords.NONE);
        surelyIs(0, HangedWords.NONE, 5555);
        surelyIs(0, 0, 0, 1);
        surelyIs(1, 1, 1111, 2222);
        surelyIs(2, 1, 1111, 2222, 3333);
        surelyIs(3, 1, 4444, 3333, 2222, 1111);
        surelyIs(7, 0, 0, 1111, 2222, 3333, 4444, 5555, 6666, 7777);
        // 1 parts these too, but 2 tells them all apart without a wrong one.
        surelyIs(0, 2, 1222, 2322, 2232);
        // 8 is in all of them at one place, so it parts nothing and is never first.
        surelyIs(2, 5, 8889, 8886, 8885);
        HangedWords x = Checks.with(2, 1111, 2222, 3333, 4444);
        x.guess(2);
        checks.due(17, "surely(0) behind guess(2)", x.surely(0), 2);
        checks.due(17, "surely(1) behind guess(2)", x.surely(1), 1);
        checks.due(17, "surely(-1)", x.surely(-1), HangedWords.BAD);
        checks.due(17, "surely(2)", x.surely(2), HangedWords.BAD);
        checks.dueStatus(17, x, 2, 0, 0);
    }

    private static void nexts(HangedWords x, int... byKind) {
        for (int kind = 0; kind < 6; kind++) {
            checks.due(18, "next(" + kind + ")", x.next(kind), byKind[kind]);
        }
    }

    private static void next() {
        HangedWords x = new HangedWords();
        nexts(x, 0, 0, 0, 0, 9, 0);
        checks.due(18, "next(-1)", x.next(-1), HangedWords.BAD);
        checks.due(18, "next(6)", x.next(6), HangedWords.BAD);
        checks.dueStatus(18, x, 2, 0, 0);
        x = Checks.with(0, 5012, 5013, 5023, 6013);
        nexts(x, 0, 0, 0, 2, 9, 5);
        x.guess(0);
        nexts(x, 1, 1, 1, 2, 9, 5);
        x.guess(9);
        x.guess(5);
        checks.due(18, "count(1)", x.count(1), 3);
        // Of 5012, 5013, 5023 two have 1, two have 2 and two have 3; 5 is guessed.
        nexts(x, 1, 1, 1, 1, 8, 1);
        HangedWords y = Checks.with(0, 1234, 5634, 7834);
        nexts(y, 0, 3, 3, 1, 9, 1);
        // All eight have the same letters, so that none is nearer to half of them than another.
        y = Checks.with(0, 1234, 1243, 1324, 1342, 1423, 1432, 2134, 2143);
        nexts(y, 0, 1, 1, 0, 9, 1);
        HangedWords z = Checks.with(0, 8888);
        for (int l = 9; l >= 1; l--) {
            z.guess(l);
        }
        nexts(z, 0, 0, 0, 0, 0, 0);
        z.guess(0);
        nexts(z, -1, -1, -1, -1, -1, -1);
        checks.dueStatus(18, z, 0, 0, 0);
    }

    private static void end(HangedWords x, int kind, int wrong, int guesses) {
        checks.due(19, "ends(" + kind + ", 0)", x.ends(kind, 0), wrong);
        checks.due(19, "ends(" + kind + ", 1)", x.ends(kind, 1), guesses);
    }

    private static void ends() {
        HangedWords x = new HangedWords();
        end(x, 4, 0, 0);
        x = Checks.with(0, 1111, 2222, 3333);
        x.secret(2);
        end(x, 0, 3, 3);
        end(x, 1, 2, 2);
        end(x, 2, 2, 2);
        end(x, 3, 2, 2);
        end(x, 4, 6, 7);
        end(x, 5, 2, 2);
        x.holder(3);
        end(x, 0, 1, 2);
        end(x, 1, 0, 1);
        // Moody: 9 to 4 are wrong, 3 is answered by the secret (six guesses), 2 by meanness (seven).
        x.holder(4);
        end(x, 4, 6, 7);
        x.secret(0);
        end(x, 4, 8, 8);
        checks.dueStatus(19, x, 0, 0, 0);
        int[][] bads = {{-1, 0}, {6, 0}, {0, -1}, {0, 2}};
        for (int[] bad : bads) {
            checks.due(19, "ends(" + bad[0] + ", " + bad[1] + ")", x.ends(bad[0], bad[1]), HangedWords.BAD);
        }
        checks.dueStatus(19, x, 4, 0, 0);
    }

    private static void endsFromWithinAGame() {
        HangedWords x = Checks.with(0, 1111, 2222, 3333);
        x.secret(2);
        x.guess(0);
        x.guess(1);
        end(x, 0, 1, 1);
        end(x, 4, 6, 7);
        x.guess(3);
        end(x, 0, 0, 0);
    }

    private static void means(HangedWords x, int kind, long above, long below) {
        checks.due(20, "mean(" + kind + ")", x.mean(kind), 1);
        checks.dueFraction(20, "mean(" + kind + ")", x, above, below);
    }

    private static void mean() {
        HangedWords x = Checks.with(2, 1111, 2222, 3333);
        means(x, 0, 2, 1);
        means(x, 1, 1, 1);
        means(x, 4, 7, 1);
        x.guess(9);
        means(x, 4, 6, 1);
        checks.due(20, "mean(-1)", x.mean(-1), HangedWords.BAD);
        checks.due(20, "mean(6)", x.mean(6), HangedWords.BAD);
        checks.dueFraction(20, "mean(6)", x, 6, 1);
        checks.dueStatus(20, x, 2, 0, 0);
        x.guess(1);
        means(x, 5, 1, 2);
        x.game(0);
        means(x, 5, 0, 1);
    }

    private static void lucks(HangedWords x, int n, long above, long below) {
        checks.due(21, "luck(" + n + ")", x.luck(n), 1);
        checks.dueFraction(21, "luck(" + n + ")", x, above, below);
    }

    private static void luck() {
        HangedWords x = Checks.with(2, 1111, 2222, 3333);
        x.secret(2);
        lucks(x, 0, 0, 1);
        lucks(x, 1, 1, 10);
        lucks(x, 2, 2, 9);
        lucks(x, 3, 43, 120);
        checks.due(21, "luck(-1)", x.luck(-1), HangedWords.BAD);
        checks.due(21, "luck(4)", x.luck(4), HangedWords.BAD);
        checks.dueFraction(21, "luck(4)", x, 43, 120);
        checks.dueStatus(21, x, 2, 0, 0);
        x.guess(0);
        lucks(x, 1, 1, 9);
        x.guess(3);
        // 3333 is the secret but not left, so 1111 is kept.
        checks.due(21, "of(2, 1)", x.of(2, 1), 0);
        lucks(x, 1, 1, 4);
        x.game(0);
        lucks(x, 0, 1, 1);
        lucks(x, 2, 1, 1);
        x.word(1);
        lucks(x, 0, 1, 1);
    }

    private static void luckOfFewLetters() {
        HangedWords x = Checks.with(0, 1111, 2222, 3333);
        int[] absent = {0, 4, 5, 6, 7, 8, 9};
        for (int l : absent) {
            x.guess(l);
        }
        x.secret(2);
        lucks(x, 1, 1, 3);
        lucks(x, 2, 1, 1);
        lucks(x, 3, 1, 1);
        x.guess(1);
        lucks(x, 0, 0, 1);
        lucks(x, 3, 1, 1);
        x.guess(2);
        x.guess(3);
        lucks(x, 3, 1, 1);
    }

    private static void against() {
        HangedWords x = Checks.with(3, 1111, 2222);
        checks.due(22, "against(-1)", x.against(-1), 8);
        int[] pairs = {11, 12, 21, 22, 31, 32, 51, 52};
        for (int k = 0; k < pairs.length; k++) {
            checks.due(22, "against(" + k + ")", x.against(k), pairs[k]);
        }
        checks.due(22, "against(8)", x.against(8), -5);
        checks.due(22, "against(max)", x.against(Integer.MAX_VALUE), -5);
        checks.dueStatus(22, x, 0, 0, 0);
        checks.due(22, "against(-2)", x.against(-2), -10);
        checks.due(22, "against(min)", x.against(Integer.MIN_VALUE), -10);
        checks.dueStatus(22, x, 2, 0, 0);
        x.guess(1);
        checks.due(22, "against(-1), one left", x.against(-1), 36);
        checks.due(22, "against(35), one left", x.against(35), 55);
        checks.due(22, "against(36), one left", x.against(36), -5);
    }

    private static void nothingIsChanged() {
        HangedWords x = Checks.with(4, 5012, 5013, 5023, 6013, 1111);
        x.secret(3);
        x.guess(9);
        x.mean(0);
        long before = x.digest();
        for (int kind = 0; kind < 6; kind++) {
            x.next(kind);
            x.ends(kind, 0);
        }
        x.best();
        x.parts(1, 1);
        x.surely(1);
        x.against(2);
        x.look();
        x.ask();
        x.evenings(77, 60);
        checks.dueUnchanged(19, "looking ahead", x, before);
        checks.due(19, "undo() behind looking ahead", x.undo(), 0);
    }
}
