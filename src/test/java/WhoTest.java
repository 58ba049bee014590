/** Promises 23 to 30: note, mark, forget, is, look, kinds, ask, evenings. */
public final class WhoTest {
    private static final Checks checks = new Checks();

    public static void main(String[] args) {
        note();
        mark();
        forget();
        is();
        look();
        kinds();
        ask();
        evenings();
        checks.end();
    }

    private static void note() {
        HangedWords x = new HangedWords();
        checks.due(23, "note, no words", x.note(1, 0, 0, 0), HangedWords.BAD);
        x = Checks.with(0, 1111, 2222);
        int[][] bads = {{0, 0, 0, 0}, {-1, 0, 0, 0}, {4, 0, 0, 0}, {1, -1, 0, 0}, {1, 10, 0, 0},
                {1, 0, -1, 0}, {1, 0, 10, 0}, {1, 0, 0, -1}, {1, 0, 0, 16}};
        for (int[] bad : bads) {
            checks.due(23, "bad note", x.note(bad[0], bad[1], bad[2], bad[3]), HangedWords.BAD);
        }
        checks.dueStatus(23, x, bads.length, 0, 0);
        checks.due(23, "count(6)", x.count(6), 0);
        checks.due(23, "note(3, 9, 9, 15)", x.note(3, 9, 9, 15), 1);
        for (int i = 2; i <= 6; i++) {
            checks.due(23, "note(1, 0, 0, 0)", x.note(1, 0, 0, 0), i);
        }
        checks.due(23, "7th note", x.note(1, 0, 0, 0), HangedWords.FULL);
        checks.due(23, "7th note, bad", x.note(4, 0, 0, 0), HangedWords.BAD);
        checks.dueStatus(23, x, bads.length + 1, 0, 1);
        checks.due(23, "count(6)", x.count(6), 6);
        checks.due(23, "count(7)", x.count(7), 0);
    }

    private static void mark() {
        HangedWords x = new HangedWords();
        checks.due(24, "mark, no words", x.mark(1, 0, 0), HangedWords.BAD);
        x = Checks.with(0, 1111, 2222);
        int[][] bads = {{0, 0, 0}, {-1, 0, 0}, {4, 0, 0}, {1, -1, 0}, {1, 1024, 0}, {1, 0, -1}, {1, 0, 10}};
        for (int[] bad : bads) {
            checks.due(24, "bad mark", x.mark(bad[0], bad[1], bad[2]), HangedWords.BAD);
        }
        checks.dueStatus(24, x, bads.length, 0, 0);
        checks.due(24, "mark(3, 1023, 9)", x.mark(3, 1023, 9), 1);
        for (int i = 2; i <= 6; i++) {
            checks.due(24, "mark(1, 0, 0)", x.mark(1, 0, 0), i);
        }
        checks.due(24, "7th mark", x.mark(1, 0, 0), HangedWords.FULL);
        checks.due(24, "7th mark, bad", x.mark(1, 0, 10), HangedWords.BAD);
        checks.dueStatus(24, x, bads.length + 1, 0, 1);
        checks.due(24, "count(7)", x.count(7), 6);
        checks.due(24, "count(6)", x.count(6), 0);
    }

    private static void forget() {
        HangedWords x = Checks.with(0, 1111, 2222);
        x.note(1, 0, 0, 0);
        x.note(1, 0, 0, 15);
        x.mark(1, 0, 9);
        checks.due(25, "is()", x.is(), 0);
        checks.due(25, "kinds()", x.kinds(), 16);
        checks.due(25, "forget(-1)", x.forget(-1), HangedWords.BAD);
        checks.due(25, "forget(2)", x.forget(2), HangedWords.BAD);
        checks.dueStatus(25, x, 2, 0, 0);
        checks.due(25, "forget(0)", x.forget(0), 2);
        checks.dueCounts(25, x, 2, 2, 0, 0, 0, 0, 0, 1);
        checks.due(25, "is()", x.is(), 63);
        checks.due(25, "forget(0) again", x.forget(0), 0);
        checks.due(25, "forget(1)", x.forget(1), 1);
        checks.due(25, "kinds()", x.kinds(), 63);
        checks.due(25, "note behind forget", x.note(1, 0, 0, 0), 1);
    }

    /** Of letter 1 the words have the masks 8, 8, 3, 3; of letter 4 they have 1, 0, 0, 4. */
    private static HangedWords foursome() {
        return Checks.with(0, 4561, 7891, 1123, 1145);
    }

    private static void is() {
        HangedWords x = foursome();
        x.note(15, 0, 1, 8);
        checks.due(26, "is()", x.is(), 49);
        x.note(15, 1, 1, 8);
        checks.due(26, "is(), moody ones out", x.is(), 33);
        x.note(15, 0, 4, 1);
        checks.due(26, "is(), stubborn ones out", x.is(), 1);
        x.note(15, 0, 4, 4);
        checks.due(26, "is(), none", x.is(), 0);
        x.forget(0);
        x.note(6, 0, 1, 3);
        checks.due(26, "is(), the least of w kept", x.is(), 14);
        x.note(15, 0, 4, 4);
        checks.due(26, "is(), mild", x.is(), 8);
        x.forget(0);
        x.note(15, 0, 1, 3);
        checks.due(26, "is(), by the secret 0", x.is(), 14);
        x.secret(3);
        checks.due(26, "is(), by the secret 3", x.is(), 63);
        checks.dueStatus(26, x, 0, 0, 0);
        HangedWords y = Checks.with(0, 1123, 1213, 4561, 7891, 2345);
        y.note(31, 0, 1, 0);
        checks.due(26, "is(), mean", y.is(), 4);
        y.forget(0);
        y.note(31, 3, 1, 0);
        checks.due(26, "is(), mean or moody", y.is(), 20);
    }

    private static void look() {
        HangedWords x = new HangedWords();
        checks.due(27, "look(), no words", x.look(), HangedWords.NONE);
        x = Checks.with(0, 1111);
        checks.due(27, "look(), all kinds alike", x.look(), 0);
        x = foursome();
        checks.due(27, "look(), all kinds", x.look(), 1);
        x.note(15, 0, 1, 8);
        checks.due(27, "look(), honest, moody, stubborn", x.look(), 4);
        x.forget(0);
        x.note(15, 0, 4, 1);
        checks.due(27, "is()", x.is(), 17);
        checks.due(27, "look(), honest, moody", x.look(), 0);
        x.guess(0);
        checks.due(27, "look(), one guessed", x.look(), 1);
        x.note(15, 1, 1, 8);
        checks.due(27, "is()", x.is(), 1);
        checks.due(27, "look(), honest, a guessed letter", x.look(), 0);
        x.note(15, 1, 1, 3);
        checks.due(27, "look(), no kind", x.look(), HangedWords.NONE);
        checks.dueStatus(27, x, 0, 0, 0);
    }

    private static void kindsBy(HangedWords x, int w, int g, int l, int want) {
        x.forget(1);
        x.mark(w, g, l);
        checks.due(28, "kinds() by mark(" + w + ", " + g + ", " + l + ")", x.kinds(), want);
    }

    private static void kinds() {
        HangedWords x = Checks.with(0, 5012, 5013, 5023, 6013);
        kindsBy(x, 15, 0, 0, 7);
        kindsBy(x, 15, 0, 2, 8);
        kindsBy(x, 15, 0, 9, 16);
        kindsBy(x, 15, 0, 5, 32);
        kindsBy(x, 15, 32, 0, 39);
        kindsBy(x, 15, 3, 3, 6);
        kindsBy(x, 8, 0, 6, 32);
        kindsBy(x, 15, 1023, 0, 0);
        kindsBy(x, 15, 1, 0, 0);
        kindsBy(x, 15, 512, 8, 16);
        x.forget(1);
        x.mark(15, 0, 0);
        x.mark(15, 3, 2);
        checks.due(28, "kinds() by two marks", x.kinds(), 1);
        x.mark(15, 0, 9);
        checks.due(28, "kinds() by three marks", x.kinds(), 0);
    }

    private static void ask() {
        HangedWords x = new HangedWords();
        checks.due(29, "ask(), no words", x.ask(), HangedWords.NONE);
        x = Checks.with(0, 5012, 5013, 5023, 6013);
        checks.due(29, "ask(), all kinds", x.ask(), 3);
        x.mark(15, 0, 0);
        checks.due(29, "ask(), row, often, sure", x.ask(), 1);
        x.guess(0);
        checks.due(29, "ask() behind guess(0)", x.ask(), 4);
        x.guess(2);
        checks.due(29, "count(1)", x.count(1), 1);
        checks.due(29, "ask(), of words not left", x.ask(), 4);
        x.mark(15, 0, 9);
        checks.due(29, "ask(), no kind", x.ask(), HangedWords.NONE);
        HangedWords y = Checks.with(0, 1111, 2222);
        for (int l = 0; l < 10; l++) {
            y.guess(l);
        }
        checks.due(29, "ask(), all guessed", y.ask(), 1);
        checks.dueStatus(29, y, 0, 0, 0);
    }

    private static void evenings() {
        HangedWords x = new HangedWords();
        checks.due(30, "evenings(1, 60), no words", x.evenings(1, 60), 0);
        int[][] bads = {{-1, 0}, {1000000, 0}, {0, -1}, {0, 61}};
        for (int[] bad : bads) {
            checks.due(30, "bad evenings", x.evenings(bad[0], bad[1]), HangedWords.BAD);
        }
        checks.dueStatus(30, x, 4, 0, 0);
        x = Checks.with(0, 1111, 2222);
        int[] together = {0, 1, 1, 2, 3, 3, 4};
        for (int n = 0; n < together.length; n++) {
            checks.due(30, "evenings(0, " + n + ")", x.evenings(0, n), together[n]);
        }
        x.secret(1);
        x.guess(1);
        long before = x.digest();
        checks.due(30, "evenings(999999, 60)", x.evenings(999999, 60), 105);
        checks.dueUnchanged(30, "evenings", x, before);
        checks.due(30, "evenings(999999, 0)", x.evenings(999999, 0), 0);
    }
}
