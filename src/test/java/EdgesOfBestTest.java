import java.util.ArrayList;
import java.util.List;

/** The edges of promises 15 to 22 (parts, best, surely, next, ends, mean, luck, against), and of the kinds of guessers. */
public final class EdgesOfBestTest {
    private static final Checks checks = new Checks();
    private static final int BAD = HangedWords.BAD;
    private static final int NONE = HangedWords.NONE;
    private static final int MIN = Integer.MIN_VALUE;
    private static final int MAX = Integer.MAX_VALUE;
    private static final int[] EIGHT = {0, 1111, 2222, 3333, 4444, 5555, 6666, 7777};

    public static void main(String[] args) {
        Edges edges = new Edges(checks);
        partsAndBest(edges);
        surely(edges);
        guessers(edges);
        ends(edges);
        meanAndLuck(edges);
        against(edges);
        edges.edge(22, "(Nothing is changed by these.)", EdgesOfBestTest::nothingIsChanged);
        edges.end(15, 22);
    }

    private static void partsAndBest(Edges edges) {
        edges.edge(15, "PARTS: how many MASKS (0), the greatest part (1). BAD", EdgesOfBestTest::numbersOfParts);
        edges.edge(15, "(none LEFT: 0, 0)", EdgesOfBestTest::partsOfNone);
        edges.edge(15, "PARTS by a LETTER (GUESSED or not)", EdgesOfBestTest::partsByGuessed);
        edges.edge(15, "how many unlike MASKS WORDS LEFT have; how many have the one that most have",
                EdgesOfBestTest::mostParts);
        edges.edge(16, "none: all are GUESSED", EdgesOfBestTest::bestOfNone);
        edges.edge(16, "the LETTER not GUESSED by which that is fewest; of like ones the least", EdgesOfBestTest::bestOfLike);
        edges.edge(16, "BEST. NONE.", EdgesOfBestTest::bestWithoutWords);
    }

    private static void surely(Edges edges) {
        edges.edge(17, "SURELY: how many (0), the LETTER (1; NONE). BAD", EdgesOfBestTest::numbersOfSurely);
        edges.edge(17, "none: one at most is LEFT already", EdgesOfBestTest::surelyOfOne);
        edges.edge(17, "the least of those that part WORDS LEFT (not all of these have one MASK of it",
                EdgesOfBestTest::surelyParts);
        edges.edge(17, "whatever MASKS (that WORDS LEFT have) are answered", EdgesOfBestTest::surelyAtTheWorst);
    }

    private static void guessers(Edges edges) {
        edges.edge(18, "NEXT. NONE. BAD", EdgesOfBestTest::kindsOfNext);
        edges.edge(18, "say which LETTER not GUESSED is guessed next (none, if all are)", EdgesOfBestTest::nextOfNone);
        edges.edge(18, "what a GUESSER of a KIND would guess now", EdgesOfBestTest::nextWithoutWords);
        edges.edge(18, "0 ROW: the least", () -> nextAmongEnds(0, 0, 5, 9));
        edges.edge(18, "4 LAST (under ROW): the greatest", () -> nextAmongEnds(4, 9, 5, 0));
        edges.edge(18, "the one that most WORDS LEFT have; of like ones the least", EdgesOfBestTest::often);
        edges.edge(18, "the least that all WORDS LEFT have, else as OFTEN", EdgesOfBestTest::sure);
        edges.edge(18, "by which twice how many WORDS LEFT have it is nearest to how many are LEFT; of like ones the least",
                EdgesOfBestTest::half);
        edges.edge(18, "at PLACE 0 of the least WORD LEFT, if that is not GUESSED, else as OFTEN", EdgesOfBestTest::first);
    }

    private static void ends(Edges edges) {
        edges.edge(19, "ENDS: WRONG more (0), GUESSES (1). BAD", EdgesOfBestTest::numbersOfEnds);
        edges.edge(19, "until one WORD at most is LEFT", EdgesOfBestTest::endsOfOne);
        edges.edge(19, "goes on from now", EdgesOfBestTest::endsFromNow);
    }

    private static void meanAndLuck(Edges edges) {
        edges.edge(20, "MEAN is THE FRACTION: 1. BAD", EdgesOfBestTest::kindsOfMean);
        edges.edge(20, "THE FRACTION (none LEFT: 0)", EdgesOfBestTest::meanOfNone);
        edges.edge(20, "against a HOLDER of KIND 0, each of the WORDS LEFT being the SECRET, alike",
                EdgesOfBestTest::meanOfWordsLeft);
        edges.edge(20, "lowest terms, below above 0", EdgesOfBestTest::meanInLowestTerms);
        edges.edge(21, "LUCK is THE FRACTION: 1. BAD", EdgesOfBestTest::numbersOfLuck);
        edges.edge(21, "LUCK for n (0 .. 3)", EdgesOfBestTest::luckByN);
        edges.edge(21, "the chance that one WORD at most is LEFT then", EdgesOfBestTest::luckOfOne);
        edges.edge(21, "(fewer LETTERS than n not GUESSED: as many as there are)", EdgesOfBestTest::luckOfFewLetters);
        edges.edge(21, "THE HOLDER being of KIND 0, the SECRET as it is", EdgesOfBestTest::luckByTheSecret);
    }

    private static void against(Edges edges) {
        edges.edge(22, "BAD: -10", EdgesOfBestTest::numbersOfAgainst);
        edges.edge(22, "how many (k = NONE), the k-th. -5: not so many", EdgesOfBestTest::pairsAtTheirEnds);
        edges.edge(22, "until one at most is LEFT", EdgesOfBestTest::pairsOfOne);
        edges.edge(22, "no other KIND of GUESSERS has fewer against j, no other KIND of HOLDERS more against i",
                EdgesOfBestTest::pairsByEnds);
    }

    // ---- parts, best

    private static void numbersOfParts() {
        HangedWords x = Checks.with(0, 1123, 1213);
        int[][] bads = {{-1, 0}, {10, 0}, {0, -1}, {0, 2}, {10, 2}, {MIN, 0}, {MAX, 0}, {0, MIN}, {0, MAX}};
        for (int[] bad : bads) {
            checks.dueRefused(15, "parts(" + bad[0] + ", " + bad[1] + ")", x, y -> y.parts(bad[0], bad[1]), BAD);
        }
        checks.due(15, "parts(0, 0)", x.parts(0, 0), 1);
        checks.due(15, "parts(0, 1)", x.parts(0, 1), 2);
        checks.due(15, "parts(9, 0)", x.parts(9, 0), 1);
        checks.due(15, "parts(9, 1)", x.parts(9, 1), 2);
    }

    private static void partsOfNone() {
        HangedWords x = new HangedWords();
        for (int l = 0; l < 10; l++) {
            checks.due(15, "parts(" + l + ", 0), no words", x.parts(l, 0), 0);
            checks.due(15, "parts(" + l + ", 1), no words", x.parts(l, 1), 0);
        }
        x.word(1234);
        x.game(0);
        checks.due(15, "parts(1, 0), no words any more", x.parts(1, 0), 0);
        checks.due(15, "parts(1, 1), no words any more", x.parts(1, 1), 0);
        checks.dueStatus(15, x, 0, 0, 0);
    }

    private static void partsByGuessed() {
        HangedWords x = Checks.with(0, 1123, 1213, 1124);
        checks.due(15, "parts(1, 0), not guessed", x.parts(1, 0), 2);
        checks.due(15, "parts(1, 1), not guessed", x.parts(1, 1), 2);
        x.guess(1);
        checks.due(15, "parts(1, 0), guessed", x.parts(1, 0), 1);
        checks.due(15, "parts(1, 1), guessed", x.parts(1, 1), 2);
        checks.due(15, "parts(3, 0), of what is left", x.parts(3, 0), 2);
        checks.dueStatus(15, x, 0, 0, 0);
    }

    private static void mostParts() {
        HangedWords x = Checks.with(0, 1000, 100, 10, 1, 1100, 1010, 1001, 2000);
        checks.due(15, "parts(1, 0), all unlike", x.parts(1, 0), 8);
        checks.due(15, "parts(1, 1), all unlike", x.parts(1, 1), 1);
        checks.due(15, "parts(9, 0), all alike", x.parts(9, 0), 1);
        checks.due(15, "parts(9, 1), all alike", x.parts(9, 1), 8);
        HangedWords z = Checks.with(0, 1000, 2000, 3000);
        checks.due(15, "parts(1, 1), the first word is alone", z.parts(1, 1), 2);
        checks.due(15, "parts(3, 1), the last word is alone", z.parts(3, 1), 2);
        HangedWords y = Checks.with(0, 1234);
        checks.due(15, "parts(1, 0), one word", y.parts(1, 0), 1);
        checks.due(15, "parts(1, 1), one word", y.parts(1, 1), 1);
    }

    private static HangedWords allGuessed(int... codes) {
        HangedWords x = Checks.with(0, codes);
        for (int l = 0; l < 10; l++) {
            x.guess(l);
        }
        return x;
    }

    private static void bestOfNone() {
        checks.due(16, "best(), all guessed", allGuessed(1234, 5678).best(), NONE);
        HangedWords x = Checks.with(0, 1234);
        for (int l = 0; l < 9; l++) {
            x.guess(l);
        }
        checks.due(16, "best(), one not guessed", x.best(), 9);
        x.guess(9);
        checks.due(16, "best(), none not guessed", x.best(), NONE);
        x.undo();
        checks.due(16, "best(), one undone", x.best(), 9);
        checks.dueStatus(16, x, 0, 0, 0);
    }

    private static void bestOfLike() {
        // Each of 1 and 2 parts the two words; 0 and the others do not.
        checks.due(16, "best()", Checks.with(0, 1111, 2222).best(), 1);
        HangedWords x = Checks.with(0, 8889, 8898);
        checks.due(16, "best(), 8 and 9 alike", x.best(), 8);
        // 1 and 7 part all three, 0 leaves two of them together.
        checks.due(16, "best(), 1 and 7 alike", Checks.with(0, 7012, 1703, 2073).best(), 1);
        // Only 7 parts all three.
        checks.due(16, "best(), 7 alone", Checks.with(0, 7012, 712, 2071).best(), 7);
        // Of eight words seven are alike by each letter that is in one of them.
        checks.due(16, "best(), eight words", Checks.with(0, EIGHT).best(), 0);
        HangedWords y = Checks.with(0, 1111, 2222, 3333);
        y.guess(1);
        checks.due(16, "best(), one left, 1 guessed", y.best(), 0);
        y.guess(0);
        checks.due(16, "best(), one left, 0 and 1 guessed", y.best(), 2);
    }

    private static void bestWithoutWords() {
        HangedWords x = new HangedWords();
        checks.due(16, "best(), no words", x.best(), 0);
        checks.dueStatus(16, x, 0, 0, 0);
    }

    // ---- surely

    private static void numbersOfSurely() {
        HangedWords x = Checks.with(0, 1111, 2222);
        for (int what : new int[] {-1, 2, MIN, MAX}) {
            checks.dueRefused(17, "surely(" + what + ")", x, y -> y.surely(what), BAD);
        }
        checks.due(17, "surely(0)", x.surely(0), 1);
        checks.due(17, "surely(1)", x.surely(1), 1);
    }

    private static void surelyIs(HangedWords x, int fewest, int letter) {
        checks.due(17, "surely(0)", x.surely(0), fewest);
        checks.due(17, "surely(1)", x.surely(1), letter);
        checks.dueStatus(17, x, 0, 0, 0);
    }

    private static void surelyOfOne() {
        surelyIs(new HangedWords(), 0, NONE);
        surelyIs(Checks.with(0, 1234), 0, NONE);
        surelyIs(allGuessed(1234, 5678), 0, NONE);
        HangedWords x = Checks.with(0, 1111, 2222);
        x.guess(1);
        surelyIs(x, 0, NONE);
        x.anew();
        surelyIs(x, 1, 1);
    }

    private static void surelyParts() {
        // 0 is in both at the same places; 1 parts them, and is wrong for one of them.
        surelyIs(Checks.with(0, 10, 20), 1, 1);
        // 0 is in both, but elsewhere.
        surelyIs(Checks.with(0, 100, 2000), 0, 0);
        // 3 is in both at one place, and comes ahead of 5.
        surelyIs(Checks.with(0, 3335, 3338), 1, 5);
        // 1 and 2 part all three, but 2 without a wrong one.
        surelyIs(Checks.with(0, 1222, 2322, 2232), 0, 2);
        HangedWords x = Checks.with(0, 1111, 2222, 3333);
        x.guess(9);
        surelyIs(x, 2, 1);
        // 1 is in both that are left, but elsewhere; that 3333 lacks it is nothing to them.
        HangedWords y = Checks.with(0, 1200, 2100, 3333);
        y.guess(3);
        surelyIs(y, 0, 1);
    }

    private static void surelyAtTheWorst() {
        surelyIs(Checks.with(0, EIGHT), 7, 0);
        surelyIs(Checks.with(3, EIGHT), 7, 0);
        HangedWords x = Checks.with(0, 1111, 2222, 3333);
        x.secret(2);
        surelyIs(x, 2, 1);
        // 0 is wrong for the first three, which 1 parts then without a wrong one; 9 leaves 9991 beside 9990.
        surelyIs(Checks.with(0, 9991, 9919, 9199, 9990), 1, 0);
        // 1 is wrong for 5678 alone.
        surelyIs(Checks.with(0, 2341, 2314, 2134, 5678), 1, 1);
    }

    // ---- next

    private static void kindsOfNext() {
        HangedWords x = Checks.with(0, 5012);
        for (int kind : new int[] {-1, 6, MIN, MAX}) {
            checks.dueRefused(18, "next(" + kind + ")", x, y -> y.next(kind), BAD);
        }
        checks.due(18, "next(0)", x.next(0), 0);
        checks.due(18, "next(5)", x.next(5), 5);
    }

    private static void nextOfNone() {
        HangedWords x = allGuessed(1234, 5678);
        for (int kind = 0; kind < 6; kind++) {
            checks.due(18, "next(" + kind + "), all guessed", x.next(kind), NONE);
        }
        checks.dueRefused(18, "next(6), all guessed", x, y -> y.next(6), BAD);
        x.undo();
        for (int kind = 0; kind < 6; kind++) {
            checks.due(18, "next(" + kind + "), one not guessed", x.next(kind), 9);
        }
    }

    private static void nextWithoutWords() {
        HangedWords x = new HangedWords();
        int[] byKind = {0, 0, 0, 0, 9, 0};
        for (int kind = 0; kind < 6; kind++) {
            checks.due(18, "next(" + kind + "), no words", x.next(kind), byKind[kind]);
        }
        x.word(9999);
        x.game(0);
        for (int kind = 0; kind < 6; kind++) {
            checks.due(18, "next(" + kind + "), no words any more", x.next(kind), byKind[kind]);
        }
        checks.dueStatus(18, x, 0, 0, 0);
    }

    /** What is guessed with all open, with the first half guessed or with the other, and with one left open. */
    private static void nextAmongEnds(int kind, int all, int half, int last) {
        HangedWords x = Checks.with(0, 5555);
        checks.due(18, "next(" + kind + "), none guessed", x.next(kind), all);
        int step = all == 0 ? 1 : -1;
        for (int l = all; l != half; l += step) {
            x.guess(l);
        }
        checks.due(18, "next(" + kind + ")", x.next(kind), half);
        for (int l = half; l != last; l += step) {
            x.guess(l);
        }
        checks.due(18, "next(" + kind + "), one open", x.next(kind), last);
    }

    private static void nexts(int kind, int want, int... codes) {
        checks.due(18, "next(" + kind + ")", Checks.with(0, codes).next(kind), want);
    }

    private static void often() {
        nexts(1, 2, 1111, 2233, 2344);
        nexts(1, 1, 1111, 2345);
        nexts(1, 9, 9876, 9543);
        nexts(1, 3, 9873, 9543);
        HangedWords x = Checks.with(0, 1233, 4533, 6788);
        x.guess(3);
        checks.due(18, "next(1), of 1233", x.next(1), 1);
        x.anew();
        x.secret(2);
        x.guess(3);
        checks.due(18, "next(1), of 6788", x.next(1), 6);
        x.guess(6);
        x.guess(7);
        x.guess(8);
        checks.due(18, "next(1), what no word has", x.next(1), 0);
    }

    private static void sure() {
        nexts(2, 7, 1987, 2879);
        nexts(2, 2, 1278, 2345, 2678);
        HangedWords x = Checks.with(0, 1278, 2347, 2678);
        checks.due(18, "next(2), the least that all have", x.next(2), 2);
        x.guess(3);
        x.guess(2);
        checks.due(18, "next(2), one of them guessed", x.next(2), 1);
        nexts(2, 1, 1111, 2222);
        nexts(2, 3, 1113, 2234, 3456, 4567);
    }

    private static void half() {
        // Two of four have 6; one or three have the others, and 0 and 9 none.
        nexts(3, 6, 1116, 1611, 1222, 5555);
        // Of three, one and two are as near to half.
        nexts(3, 1, 1500, 5600, 6700);
        nexts(3, 5, 5600, 5700, 6800);
        nexts(3, 3, 3334, 4444);
        // All or none are as near to half of two, so that 0 comes ahead of 3.
        nexts(3, 0, 3344, 4433);
        nexts(3, 0, 9999);
        // As far from half as can be: all eight words have the same letters.
        nexts(3, 0, 1234, 1243, 1324, 1342, 1423, 1432, 2134, 2143);
        HangedWords x = Checks.with(0, 3334, 4444, 4445);
        checks.due(18, "next(3), one of three", x.next(3), 3);
        x.guess(3);
        x.guess(0);
        checks.due(18, "next(3), 3334 being left, none is near", x.next(3), 1);
    }

    private static void first() {
        nexts(5, 9, 9000, 1000);
        nexts(5, 0, 123, 9999);
        HangedWords x = Checks.with(0, 5012, 5013, 6013);
        x.guess(5);
        checks.due(18, "next(5), guessed, so as often", x.next(5), 0);
        HangedWords y = Checks.with(2, 5012, 6013, 7013);
        y.guess(5);
        checks.due(18, "next(5), of the least that is left", y.next(5), 6);
        y.secret(2);
        checks.due(18, "next(5), whatever the secret is", y.next(5), 6);
    }

    // ---- ends

    private static void numbersOfEnds() {
        HangedWords x = Checks.with(0, 1111, 2222);
        int[][] bads = {{-1, 0}, {6, 0}, {0, -1}, {0, 2}, {6, 2}, {MIN, 0}, {MAX, 0}, {0, MIN}, {0, MAX}};
        for (int[] bad : bads) {
            checks.dueRefused(19, "ends(" + bad[0] + ", " + bad[1] + ")", x, y -> y.ends(bad[0], bad[1]), BAD);
        }
        end(x, 0, 1, 2);
        end(x, 5, 0, 1);
    }

    private static void end(HangedWords x, int kind, int wrong, int guesses) {
        checks.due(19, "ends(" + kind + ", 0)", x.ends(kind, 0), wrong);
        checks.due(19, "ends(" + kind + ", 1)", x.ends(kind, 1), guesses);
    }

    private static void endsOfOne() {
        HangedWords none = new HangedWords();
        HangedWords one = Checks.with(2, 1234);
        HangedWords spent = allGuessed(1111, 2222);
        for (int kind = 0; kind < 6; kind++) {
            end(none, kind, 0, 0);
            end(one, kind, 0, 0);
            end(spent, kind, 0, 0);
        }
        HangedWords two = Checks.with(2, 9999, 8888);
        end(two, 0, 9, 9);
        end(two, 4, 1, 1);
    }

    private static void endsFromNow() {
        HangedWords x = Checks.with(4, 1111, 2222, 3333);
        // Moody: 0 wrong (kept), 1 wrong (mean), 2 wrong (kept is 2222 as 1111 is out: given).
        end(x, 0, 2, 3);
        x.guess(9);
        // Now 0 is answered by meanness, and 1 by the secret.
        end(x, 0, 1, 2);
        x.guess(1);
        end(x, 0, 2, 2);
        checks.dueCounts(19, x, 3, 2, 2, 2);
        x.guess(2);
        x.guess(3);
        checks.due(19, "count(1)", x.count(1), 1);
        end(x, 0, 0, 0);
    }

    // ---- mean, luck

    private static void kindsOfMean() {
        HangedWords x = Checks.with(0, 1111, 2222);
        checks.due(20, "mean(1)", x.mean(1), 1);
        for (int kind : new int[] {-1, 6, MIN, MAX}) {
            checks.dueRefused(20, "mean(" + kind + ")", x, y -> y.mean(kind), BAD);
            checks.dueFraction(20, "mean(" + kind + ")", x, 1, 2);
        }
        means(x, 0, 3, 2);
        means(x, 5, 1, 2);
    }

    private static void means(HangedWords x, int kind, long above, long below) {
        checks.due(20, "mean(" + kind + ")", x.mean(kind), 1);
        checks.dueFraction(20, "mean(" + kind + ")", x, above, below);
    }

    private static void meanOfNone() {
        HangedWords x = Checks.with(0, 1111, 2222);
        means(x, 0, 3, 2);
        x.game(0);
        for (int kind = 0; kind < 6; kind++) {
            means(x, kind, 0, 1);
        }
        means(Checks.with(0, 1111), 4, 0, 1);
        means(allGuessed(1111, 2222), 4, 0, 1);
    }

    private static void meanOfWordsLeft() {
        for (int holder = 0; holder < 6; holder++) {
            HangedWords x = Checks.with(holder, EIGHT);
            x.secret(5);
            // By rows 0 wrong for 0000, and so on, to 6 for 6666 and 7 for 7777.
            means(x, 0, 7, 2);
            checks.due(20, "count(4)", x.count(4), 5);
            checks.due(20, "count(5)", x.count(5), holder);
        }
        HangedWords y = Checks.with(0, 1111, 2222, 3333);
        y.secret(2);
        y.guess(1);
        // 0 is wrong for both; 2 parts them.
        means(y, 0, 3, 2);
    }

    private static void meanInLowestTerms() {
        // By rows each of these words has as many wrong ones as there are words ahead of it.
        means(Checks.with(0, 0, 1111), 0, 1, 2);
        means(Checks.with(0, 0, 1111, 2222), 0, 1, 1);
        means(Checks.with(0, 0, 1111, 2222, 3333), 0, 3, 2);
        means(Checks.with(0, 0, 1111, 2222, 3333, 4444), 0, 2, 1);
        means(Checks.with(0, 100, 2000), 0, 0, 1);
    }

    private static void lucks(HangedWords x, int n, long above, long below) {
        checks.due(21, "luck(" + n + ")", x.luck(n), 1);
        checks.dueFraction(21, "luck(" + n + ")", x, above, below);
    }

    private static void numbersOfLuck() {
        HangedWords x = Checks.with(0, 1111, 2222);
        lucks(x, 1, 1, 5);
        for (int n : new int[] {-1, 4, MIN, MAX}) {
            checks.dueRefused(21, "luck(" + n + ")", x, y -> y.luck(n), BAD);
            checks.dueFraction(21, "luck(" + n + ")", x, 1, 5);
        }
    }

    private static void luckByN() {
        HangedWords x = Checks.with(0, 1111, 2222);
        lucks(x, 0, 0, 1);
        lucks(x, 1, 1, 5);
        // Of 45 pairs 28 lack both 1 and 2; of 120 threes 56.
        lucks(x, 2, 17, 45);
        lucks(x, 3, 8, 15);
        x.guess(0);
        lucks(x, 1, 2, 9);
        // Of 36 pairs 21 lack both; of 84 threes 35.
        lucks(x, 2, 5, 12);
        lucks(x, 3, 7, 12);
        HangedWords y = Checks.with(0, 0, 9999);
        lucks(y, 1, 1, 5);
        HangedWords z = Checks.with(0, 1110, 1119, 1111);
        // 1110 is told by 0, and by 1 not, for 1119 has 1 where it has; 1111 by 1, and not by 0 or 9.
        lucks(z, 1, 1, 10);
        z.secret(2);
        lucks(z, 1, 1, 10);
    }

    private static void luckOfOne() {
        for (int n = 0; n <= 3; n++) {
            lucks(new HangedWords(), n, 1, 1);
            lucks(Checks.with(0, 1234), n, 1, 1);
            lucks(allGuessed(1234, 5678), n, 1, 1);
        }
    }

    private static void luckOfFewLetters() {
        HangedWords x = Checks.with(0, 1111, 2222, 3333);
        x.secret(2);
        for (int l : new int[] {0, 4, 5, 6, 7, 8, 9}) {
            x.guess(l);
        }
        lucks(x, 1, 1, 3);
        lucks(x, 2, 1, 1);
        lucks(x, 3, 1, 1);
        x.guess(1);
        checks.due(21, "count(1)", x.count(1), 2);
        lucks(x, 0, 0, 1);
        lucks(x, 1, 1, 1);
        lucks(x, 2, 1, 1);
        lucks(x, 3, 1, 1);
        x.guess(2);
        lucks(x, 3, 1, 1);
        x.guess(3);
        lucks(x, 0, 1, 1);
        lucks(x, 1, 1, 1);
        lucks(x, 3, 1, 1);
    }

    private static void luckByTheSecret() {
        for (int holder = 0; holder < 6; holder++) {
            HangedWords x = Checks.with(holder, 1111, 1112, 3333);
            // 1111 is told by 1 alone, for 2 leaves 3333 beside it and 3 leaves 1112; 3333 is told by 1 or 3.
            lucks(x, 1, 1, 10);
            x.secret(2);
            lucks(x, 1, 1, 5);
            checks.due(21, "count(5)", x.count(5), holder);
        }
        HangedWords y = Checks.with(0, 1111, 2222, 3333, 4442);
        lucks(y, 1, 1, 10);
        y.secret(1);
        lucks(y, 1, 1, 10);
        y.secret(3);
        lucks(y, 1, 1, 5);
        // Of the three that are left 1111 is kept, for the secret is not; only 1 tells it.
        HangedWords z = Checks.with(2, 1111, 2222, 3333, 4442);
        z.secret(3);
        z.guess(4);
        checks.due(21, "of(3, 1)", z.of(3, 1), 0);
        lucks(z, 1, 1, 9);
    }

    // ---- against

    private static void numbersOfAgainst() {
        HangedWords x = Checks.with(3, 1111, 2222);
        for (int k : new int[] {-2, -3, -10, MIN}) {
            checks.dueRefused(22, "against(" + k + ")", x, y -> y.against(k), -10);
        }
        checks.dueRefused(22, "against(-2), no words", new HangedWords(), y -> y.against(-2), -10);
    }

    private static void pairsAtTheirEnds() {
        HangedWords x = Checks.with(3, 1111, 2222);
        int[] pairs = {11, 12, 21, 22, 31, 32, 51, 52};
        checks.due(22, "against(NONE)", x.against(NONE), pairs.length);
        for (int k = 0; k < pairs.length; k++) {
            checks.due(22, "against(" + k + ")", x.against(k), pairs[k]);
        }
        for (int k : new int[] {8, 9, 35, 36, 37, MAX}) {
            checks.due(22, "against(" + k + "), not so many", x.against(k), -5);
        }
        checks.dueStatus(22, x, 0, 0, 0);
    }

    private static void pairsOfOne() {
        HangedWords[] all = {new HangedWords(), Checks.with(4, 1234), allGuessed(1111, 2222)};
        for (HangedWords x : all) {
            checks.due(22, "against(NONE), one at most left", x.against(NONE), 36);
            for (int k = 0; k < 36; k++) {
                checks.due(22, "against(" + k + ")", x.against(k), 10 * (k / 6) + k % 6);
            }
            checks.due(22, "against(36)", x.against(36), -5);
        }
    }

    private static void pairsByEnds() {
        int[][] all = {{1123, 1213, 4561, 7891, 2345}, EIGHT, {5012, 5013, 5023, 6013}, {1000, 100, 10, 1, 2000},
            {9876, 9875, 1234}, {1, 10, 100, 1000, 2, 20, 200, 2000}, {1111, 2222}};
        for (int[] codes : all) {
            HangedWords x = Checks.with(0, codes);
            x.secret(1);
            pairsRest(x, resting(x));
            x.guess(9);
            pairsRest(x, resting(x));
        }
        // All holders but the mild one say no to 1, which guessers guess first, but for those by rows and from behind.
        HangedWords y = Checks.with(0, 1111, 2222);
        y.secret(1);
        pairsRest(y, List.of(10, 11, 12, 14, 15, 20, 21, 22, 24, 25, 30, 31, 32, 34, 35, 50, 51, 52, 54, 55));
        // Guessers by rows have fewer against a moody holder than all others.
        HangedWords z = Checks.with(0, 3331, 2331, 2123, 3330);
        z.secret(3);
        pairsRest(z, List.of(11, 12, 21, 22, 51, 52));
        pairsRest(Checks.with(0, 1310, 1330, 1212, 1203), List.of());
    }

    private static void pairsRest(HangedWords x, List<Integer> pairs) {
        checks.due(22, "against(NONE)", x.against(NONE), pairs.size());
        for (int k = 0; k < pairs.size(); k++) {
            checks.due(22, "against(" + k + ")", x.against(k), pairs.get(k));
        }
        checks.due(22, "against(one more)", x.against(pairs.size()), -5);
    }

    /** The pairs that rest, by what ends answers when the holder is told to be of each kind. */
    private static List<Integer> resting(HangedWords x) {
        int[][] wrong = new int[6][6];
        for (int j = 0; j < 6; j++) {
            x.holder(j);
            for (int i = 0; i < 6; i++) {
                wrong[i][j] = x.ends(i, 0);
            }
        }
        List<Integer> pairs = new ArrayList<>();
        for (int i = 0; i < 6; i++) {
            for (int j = 0; j < 6; j++) {
                boolean rests = true;
                for (int other = 0; other < 6; other++) {
                    rests &= wrong[other][j] >= wrong[i][j] && wrong[i][other] <= wrong[i][j];
                }
                if (rests) {
                    pairs.add(10 * i + j);
                }
            }
        }
        return pairs;
    }

    private static void nothingIsChanged() {
        HangedWords x = Checks.with(4, 5012, 5013, 5023, 6013, 1111);
        x.secret(3);
        x.guess(9);
        x.note(31, 0, 1, 2);
        x.mark(31, 0, 9);
        long before = x.digest();
        for (int kind = 0; kind < 6; kind++) {
            x.next(kind);
            x.ends(kind, 0);
            x.ends(kind, 1);
            x.against(kind - 1);
        }
        for (int l = 0; l < 10; l++) {
            x.parts(l, 0);
            x.parts(l, 1);
        }
        x.best();
        x.surely(0);
        x.surely(1);
        checks.dueUnchanged(22, "these", x, before);
        x.mean(3);
        x.luck(0);
        x.luck(3);
        x.mean(0);
        x.luck(0);
        checks.dueFraction(22, "luck(0)", x, 0, 1);
        checks.dueUnchanged(22, "mean and luck, but for the fraction", x, before);
        checks.due(22, "undo() behind these", x.undo(), 0);
        checks.due(22, "undo() behind these", x.undo(), 0);
        checks.due(22, "count(4)", x.count(4), 0);
    }
}
