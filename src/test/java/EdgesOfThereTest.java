import java.math.BigInteger;

/** The edges of promises 31 to 36: part, image, from, status, count, digest. */
public final class EdgesOfThereTest {
    private static final Checks checks = new Checks();
    private static final int BAD = HangedWords.BAD;
    private static final int NO = HangedWords.NO;
    private static final int MIN = Integer.MIN_VALUE;
    private static final int MAX = Integer.MAX_VALUE;
    private static final int[] EIGHT = {1111, 9999, 2222, 0, 3333, 4444, 5555, 6789};

    public static void main(String[] args) {
        Edges edges = new Edges(checks);
        part(edges);
        images(edges);
        status(edges);
        countAndDigest(edges);
        edges.end(31, 36);
    }

    private static void part(Edges edges) {
        edges.edge(31, "THE FRACTION: above (0), below (1). BAD", EdgesOfThereTest::numbersOfPart);
        edges.edge(31, "THE FRACTION is 0 by 1 at first; lowest terms, below above 0", EdgesOfThereTest::fraction);
    }

    private static void images(Edges edges) {
        edges.edge(32, "An IMAGE is kept: 1. BAD", EdgesOfThereTest::numbersOfImage);
        edges.edge(33, "It goes on from an IMAGE: 1. BAD; NO: none was kept", EdgesOfThereTest::numbersOfFrom);
        edges.edge(32, "IMAGES 0, 1 keep all but them, THE TEXT, THE FRACTION and STATUS", EdgesOfThereTest::whatImagesKeep);
        edges.edge(33, "all but them, THE TEXT, THE FRACTION and STATUS", EdgesOfThereTest::whatImagesDoNotKeep);
        edges.edge(33, "what may be undone they keep; it goes on from one", EdgesOfThereTest::whatMayBeUndone);
        edges.edge(32, "IMAGES 0, 1", EdgesOfThereTest::imagesAreTwo);
        edges.edge(33, "It goes on from an IMAGE", EdgesOfThereTest::imagesStayAsTheyWere);
        edges.edge(33, "IMAGES 0, 1 keep all", EdgesOfThereTest::imageOfNothing);
    }

    private static void status(Edges edges) {
        edges.edge(34, "STATUS: BAD (0), NO (1), FULL (2). -1: another what (counts as BAD)",
                EdgesOfThereTest::numbersOfStatus);
        edges.edge(34, "(where others are told they count as these)", EdgesOfThereTest::otherAnswers);
        edges.edge(34, "(each answer told so below is such a one)", EdgesOfThereTest::whatIsNotRefused);
        edges.edge(34, "Refused, changing nothing but STATUS, the first of", EdgesOfThereTest::firstReasonAlone);
        edges.edge(34, "(but for IMAGES, THE TEXT, THE FRACTION, STATUS)", EdgesOfThereTest::statusStays);
    }

    private static void countAndDigest(Edges edges) {
        edges.edge(35, "An object is used for at most 512 calls after it has been made", EdgesOfThereTest::lastCall);
        edges.edge(35, "9 bytes of THE TEXT. BAD", EdgesOfThereTest::numbersOfCount);
        edges.edge(35, "How many: 0 WORDS, 1 LEFT, 2 GUESSED, 3 WRONG, 4 the SECRET", EdgesOfThereTest::countsAtTheirMost);
        edges.edge(36, "h = 1823; then h = 31 h + v for each v", EdgesOfThereTest::digestOfNothing);
        edges.edge(36, "of NOTES w, g, l, x; of MARKS w, g, l; THE FRACTION", EdgesOfThereTest::digestOfAll);
        edges.edge(36, "count(0) to count(9)", EdgesOfThereTest::digestIsNoCountCall);
    }

    // ---- part

    private static void numbersOfPart() {
        HangedWords x = Checks.with(0, 1111, 2222);
        x.luck(3);
        for (int what : new int[] {-1, 2, MIN, MAX}) {
            checks.dueRefused(31, "part(" + what + ")", x, y -> y.part(what), BAD);
        }
        checks.due(31, "part(0)", x.part(0), 8);
        checks.due(31, "part(1)", x.part(1), 15);
    }

    private static void fraction() {
        HangedWords x = new HangedWords();
        checks.dueFraction(31, "at first", x, 0, 1);
        x.luck(0);
        checks.dueFraction(31, "luck(0), none left", x, 1, 1);
        x.mean(0);
        checks.dueFraction(31, "mean(0), none left", x, 0, 1);
        x.word(1111);
        x.word(2222);
        x.luck(0);
        checks.dueFraction(31, "luck(0), two left", x, 0, 1);
        x.luck(1);
        checks.dueFraction(31, "luck(1), 2 of 10", x, 1, 5);
        x.luck(2);
        checks.dueFraction(31, "luck(2), 17 of 45", x, 17, 45);
        x.mean(0);
        checks.dueFraction(31, "mean(0), 3 by 2", x, 3, 2);
        x.mean(1);
        checks.dueFraction(31, "mean(1), 1 by 2", x, 1, 2);
        x.game(0);
        x.read();
        x.image(0);
        x.from(0);
        checks.dueFraction(31, "as it was", x, 1, 2);
    }

    // ---- image, from

    private static void numbersOfImage() {
        HangedWords x = new HangedWords();
        for (int i : new int[] {-1, 2, MIN, MAX}) {
            checks.dueRefused(32, "image(" + i + ")", x, y -> y.image(i), BAD);
        }
        checks.due(32, "from(0), none was kept by these", x.from(0), NO);
        checks.due(32, "from(1), none was kept by these", x.from(1), NO);
        checks.due(32, "image(0)", x.image(0), 1);
        checks.due(32, "image(1)", x.image(1), 1);
        checks.due(32, "image(1) again", x.image(1), 1);
    }

    private static void numbersOfFrom() {
        HangedWords x = Checks.with(0, 1111);
        long before = x.digest();
        for (int i : new int[] {-1, 2, MIN, MAX}) {
            checks.dueRefused(33, "from(" + i + ")", x, y -> y.from(i), BAD);
        }
        checks.dueRefused(33, "from(0), none was kept", x, y -> y.from(0), NO);
        checks.dueRefused(33, "from(1), none was kept", x, y -> y.from(1), NO);
        checks.dueUnchanged(33, "from, none was kept", x, before);
        x.image(1);
        checks.dueRefused(33, "from(0), another was kept", x, y -> y.from(0), NO);
        checks.dueRefused(33, "from(2), another was kept", x, y -> y.from(2), BAD);
        checks.due(33, "from(1)", x.from(1), 1);
        checks.due(33, "from(1) again", x.from(1), 1);
        checks.dueUnchanged(33, "from(1)", x, before);
    }

    private static HangedWords busy() {
        HangedWords x = Checks.with(5, EIGHT);
        x.secret(7);
        x.guess(0);
        x.guess(8);
        x.note(255, 9, 8, 15);
        x.note(1, 0, 1, 0);
        x.mark(255, 1023, 9);
        return x;
    }

    private static void whatImagesKeep() {
        HangedWords x = busy();
        long before = x.digest();
        checks.due(32, "image(0)", x.image(0), 1);
        checks.dueUnchanged(32, "image(0)", x, before);
        x.game(1);
        x.word(1234);
        x.note(1, 1, 1, 1);
        x.mark(1, 1, 1);
        x.mark(1, 1, 1);
        x.guess(9);
        checks.due(33, "from(0)", x.from(0), 1);
        checks.dueUnchanged(33, "from(0)", x, before);
        for (int w = 0; w < 8; w++) {
            checks.due(33, "of(" + w + ", 0)", x.of(w, 0), EIGHT[w]);
            checks.due(33, "of(" + w + ", 1)", x.of(w, 1), busy().of(w, 1));
            for (int l = 0; l < 10; l++) {
                checks.due(33, "mask(" + w + ", " + l + ")", x.mask(w, l), busy().mask(w, l));
            }
        }
        checks.due(33, "is()", x.is(), busy().is());
        checks.due(33, "surely(0)", x.surely(0), busy().surely(0));
        checks.due(33, "against(-1)", x.against(-1), busy().against(-1));
        for (int kind = 0; kind < 6; kind++) {
            checks.due(33, "next(" + kind + ")", x.next(kind), busy().next(kind));
            checks.due(33, "ends(" + kind + ", 0)", x.ends(kind, 0), busy().ends(kind, 0));
        }
    }

    private static void whatImagesDoNotKeep() {
        HangedWords x = busy();
        Checks.typeAnew(x, "game 0;");
        x.luck(0);
        x.image(1);
        x.type(' ');
        x.mean(0);
        x.guess(0);
        x.guess(10);
        long above = x.part(0);
        long below = x.part(1);
        checks.due(33, "from(1)", x.from(1), 1);
        checks.due(33, "count(9), typed behind the image", x.count(9), 8);
        checks.dueFraction(33, "from(1), reckoned behind the image", x, above, below);
        checks.dueStatus(33, x, 1, 1, 0);
        checks.due(33, "from(0), not kept by the other image", x.from(0), NO);
    }

    private static void whatMayBeUndone() {
        HangedWords x = Checks.with(0, 9999);
        for (int l = 0; l < 8; l++) {
            x.guess(l);
        }
        x.image(0);
        for (int i = 0; i < 8; i++) {
            x.undo();
        }
        x.image(1);
        x.guess(5);
        checks.due(33, "from(0)", x.from(0), 1);
        checks.due(33, "count(8)", x.count(8), 8);
        for (int wrong = 7; wrong >= 0; wrong--) {
            checks.due(33, "undo()", x.undo(), wrong);
        }
        checks.due(33, "undo(), no further", x.undo(), NO);
        x.guess(3);
        checks.due(33, "from(1)", x.from(1), 1);
        checks.due(33, "undo(), nothing was to be undone", x.undo(), NO);
        checks.due(33, "from(0) again", x.from(0), 1);
        x.guess(8);
        checks.due(33, "count(8), the ninth", x.count(8), 8);
        checks.due(33, "undo()", x.undo(), 8);
    }

    private static void imagesAreTwo() {
        HangedWords x = Checks.with(0, 1111);
        x.image(0);
        x.word(2222);
        x.image(1);
        x.word(3333);
        checks.due(32, "from(0)", x.from(0), 1);
        checks.due(32, "count(0)", x.count(0), 1);
        checks.due(32, "from(1)", x.from(1), 1);
        checks.due(32, "count(0)", x.count(0), 2);
        x.from(0);
        x.image(1);
        x.word(4444);
        x.from(1);
        checks.due(32, "count(0), kept in place of the other", x.count(0), 1);
    }

    private static void imagesStayAsTheyWere() {
        HangedWords x = busy();
        x.image(0);
        long before = x.digest();
        for (int i = 0; i < 3; i++) {
            x.from(0);
            x.guess(1);
            x.undo();
            x.undo();
            x.secret(2);
            x.anew();
            x.forget(0);
            x.note(1, 2, 3, 4);
            x.mark(1, 2, 3);
            x.holder(i);
            x.from(0);
            checks.due(33, "digest() of the image", x.digest(), before);
        }
    }

    private static void imageOfNothing() {
        HangedWords x = new HangedWords();
        long before = x.digest();
        checks.due(33, "image(1) of nothing", x.image(1), 1);
        x.game(5);
        x.word(1234);
        x.guess(1);
        checks.due(33, "from(1)", x.from(1), 1);
        checks.dueUnchanged(33, "from(1)", x, before);
        checks.due(33, "word(1234)", x.word(1234), 0);
        checks.due(33, "mask(0, 1)", x.mask(0, 1), 1);
        checks.due(33, "next(1)", x.next(1), 1);
    }

    // ---- status

    private static void numbersOfStatus() {
        HangedWords x = new HangedWords();
        for (int what : new int[] {-1, 3, MIN, MAX}) {
            checks.dueRefused(34, "status(" + what + ")", x, y -> y.status(what), -1);
        }
        checks.dueStatus(34, x, 4, 0, 0);
        x.undo();
        checks.dueStatus(34, x, 4, 1, 0);
        for (int i = 0; i < 152; i++) {
            x.type(0);
        }
        checks.dueStatus(34, x, 4, 1, 2);
    }

    private static void otherAnswers() {
        HangedWords x = Checks.with(0, 1111);
        checks.dueRefused(34, "against(-2)", x, y -> y.against(-2), -10);
        checks.dueRefused(34, "status(3)", x, y -> y.status(3), -1);
        checks.dueStatus(34, x, 2, 0, 0);
    }

    private static void whatIsNotRefused() {
        HangedWords x = new HangedWords();
        checks.due(34, "read(), a fault", x.read(), -10);
        x.type('x');
        checks.due(34, "read(), a fault", x.read(), -10);
        checks.due(34, "against(36), not so many", x.against(36), -5);
        checks.due(34, "look(), none", x.look(), HangedWords.NONE);
        checks.due(34, "ask(), none", x.ask(), HangedWords.NONE);
        checks.due(34, "surely(1), none", x.surely(1), HangedWords.NONE);
        x.word(1111);
        for (int l = 0; l < 10; l++) {
            x.guess(l);
        }
        checks.due(34, "best(), none", x.best(), HangedWords.NONE);
        checks.due(34, "next(0), none", x.next(0), HangedWords.NONE);
        checks.due(34, "forget(0), none", x.forget(0), 0);
        checks.due(34, "clear()", x.clear(), 1);
        checks.dueStatus(34, x, 0, 0, 0);
    }

    private static void firstReasonAlone() {
        HangedWords x = new HangedWords();
        checks.dueRefused(34, "guess(10), no words", x, y -> y.guess(10), BAD);
        checks.dueRefused(34, "answer(-1), no words", x, y -> y.answer(-1), BAD);
        checks.dueRefused(34, "secret(0), no words, though it is so", x, y -> y.secret(0), BAD);
        checks.dueRefused(34, "from(2), none was kept", x, y -> y.from(2), BAD);
        checks.dueRefused(34, "of(8, 2), two numbers", x, y -> y.of(8, 2), BAD);
        checks.dueRefused(34, "note(0, 10, 10, 16), four numbers", x, y -> y.note(0, 10, 10, 16), BAD);
        for (int code : EIGHT) {
            x.word(code);
        }
        checks.dueRefused(34, "word(1111), there already, eight", x, y -> y.word(1111), NO);
        checks.dueRefused(34, "word(10000), eight", x, y -> y.word(10000), BAD);
        checks.dueStatus(34, x, 7, 1, 0);
    }

    private static void statusStays() {
        HangedWords x = Checks.with(0, EIGHT);
        x.image(0);
        x.guess(10);
        x.undo();
        x.word(7);
        checks.dueStatus(34, x, 1, 1, 1);
        x.from(0);
        checks.dueStatus(34, x, 1, 1, 1);
        x.game(0);
        checks.dueStatus(34, x, 1, 1, 1);
        Checks.typeAnew(x, "game 0;");
        x.read();
        x.clear();
        x.anew();
        x.undo();
        checks.dueStatus(34, x, 1, 1, 1);
    }

    // ---- count, digest

    private static void numbersOfCount() {
        HangedWords x = new HangedWords();
        for (int what : new int[] {-1, 10, MIN, MAX}) {
            checks.dueRefused(35, "count(" + what + ")", x, y -> y.count(what), BAD);
        }
        checks.due(35, "count(0)", x.count(0), 0);
        checks.due(35, "count(9)", x.count(9), 0);
    }

    private static void lastCall() {
        HangedWords x = Checks.with(0, 1111, 2222);
        for (int made = 3; made < 511; made++) {
            x.count(10);
        }
        checks.due(35, "status(0), the 512th call", x.status(0), 508);
        HangedWords y = Checks.with(0, 9999);
        for (int made = 2; made < 511; made++) {
            y.anew();
        }
        checks.due(35, "count(8), the 512th call", y.count(8), 8);
    }

    /** As full as an object can be; one word alone has nine wrong ones at most. */
    private static HangedWords full() {
        HangedWords x = Checks.with(5, EIGHT);
        x.secret(7);
        for (int i = 0; i < 4; i++) {
            x.anew();
            x.guess(8);
        }
        for (int i = 0; i < 6; i++) {
            x.note(255 - i, 9 - i, i, 15 - i);
            x.mark(250 + i, 1023 - i, 9 - i);
        }
        for (int i = 0; i < 150; i++) {
            x.type(32);
        }
        x.luck(3);
        return x;
    }

    private static void countsAtTheirMost() {
        HangedWords x = full();
        // 6789 is kept, but 8 is in it alone of eight, so that it is denied.
        checks.dueCounts(35, x, 8, 7, 1, 1, 7, 5, 6, 6, 8, 150);
        x.undo();
        checks.dueCounts(35, x, 8, 8, 0, 0, 7, 5, 6, 6, 7, 150);
        HangedWords y = Checks.with(0, 9999);
        for (int l = 0; l < 10; l++) {
            y.guess(l);
        }
        checks.dueCounts(35, y, 1, 1, 10, 9, 0, 0, 0, 0, 8, 0);
    }

    /** Reckoned without wrapping, and cut to 64 bits at the end. */
    private static long hash(long... values) {
        BigInteger h = BigInteger.valueOf(1823);
        for (long v : values) {
            h = h.multiply(BigInteger.valueOf(31)).add(BigInteger.valueOf(v));
        }
        return h.longValue();
    }

    private static void digestOfNothing() {
        HangedWords x = new HangedWords();
        checks.due(36, "digest() of a new object", x.digest(), hash(0, 0, 0, 0, 0, 0, 0, 0, 0, 0, 0, 0, 0, 1));
        x.word(0);
        checks.due(36, "digest(), one word", x.digest(), hash(1, 1, 0, 0, 0, 0, 0, 0, 0, 0, 0, 1, 0, 0, 1));
        x.undo();
        checks.due(36, "digest(), status is not in it", x.digest(), hash(1, 1, 0, 0, 0, 0, 0, 0, 0, 0, 0, 1, 0, 0, 1));
    }

    private static void digestOfAll() {
        HangedWords x = full();
        long above = x.part(0);
        long below = x.part(1);
        checks.due(36, "the fraction is not as at first", below > 1 ? 1 : 0, 1);
        checks.due(36, "digest()", x.digest(), hash(8, 7, 1, 1, 7, 5, 6, 6, 8, 150,
                1111, 9999, 2222, 0, 3333, 4444, 5555, 6789, 127, 256,
                255, 9, 0, 15, 254, 8, 1, 14, 253, 7, 2, 13, 252, 6, 3, 12, 251, 5, 4, 11, 250, 4, 5, 10,
                250, 1023, 9, 251, 1022, 8, 252, 1021, 7, 253, 1020, 6, 254, 1019, 5, 255, 1018, 4, above, below));
        x.game(0);
        checks.due(36, "digest() behind game(0)", x.digest(), hash(0, 0, 0, 0, 0, 0, 0, 0, 0, 150, 0, 0, above, below));
    }

    private static void digestIsNoCountCall() {
        HangedWords x = full();
        long before = x.digest();
        checks.due(36, "digest() again", x.digest(), before);
        checks.dueStatus(36, x, 0, 0, 0);
    }
}
