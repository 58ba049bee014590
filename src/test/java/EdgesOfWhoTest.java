import java.math.BigInteger;

/** The edges of promises 23 to 30: note, mark, forget, is, look, kinds, ask, evenings. */
public final class EdgesOfWhoTest {
    private static final Checks checks = new Checks();
    private static final int BAD = HangedWords.BAD;
    private static final int FULL = HangedWords.FULL;
    private static final int NONE = HangedWords.NONE;
    private static final int MIN = Integer.MIN_VALUE;
    private static final int MAX = Integer.MAX_VALUE;
    private static final int[] EIGHT = {0, 1111, 2222, 3333, 4444, 5555, 6666, 7777};

    public static void main(String[] args) {
        Edges edges = new Edges(checks);
        notes(edges);
        marks(edges);
        holders(edges);
        guessers(edges);
        evenings(edges);
        edges.end(23, 30);
    }

    private static void notes(Edges edges) {
        edges.edge(23, "WORDS w (bits; 1 or more of those that are there)", EdgesOfWhoTest::wordsOfNotes);
        edges.edge(23, "g (0 .. 9) LETTERS GUESSED, MASK x (0 .. 15) was answered to LETTER l (0 .. 9)",
                EdgesOfWhoTest::numbersOfNotes);
        edges.edge(23, "A NOTE: how many there are. BAD; FULL: 6", EdgesOfWhoTest::sixNotes);
        edges.edge(23, "NOTES 0 .. 5, as they come", EdgesOfWhoTest::notesAsTheyCome);
    }

    private static void marks(Edges edges) {
        edges.edge(24, "WORDS w being LEFT, LETTERS g (bits, 0 .. 1023) GUESSED, LETTER l (0 .. 9) was guessed",
                EdgesOfWhoTest::numbersOfMarks);
        edges.edge(24, "A MARK: how many there are. BAD; FULL: 6", EdgesOfWhoTest::sixMarks);
        edges.edge(24, "MARKS 0 .. 5, as they come", EdgesOfWhoTest::marksAsTheyCome);
        edges.edge(25, "No NOTES (0), MARKS (1): how many there were. BAD", EdgesOfWhoTest::numbersOfForget);
        edges.edge(25, "how many there were", EdgesOfWhoTest::forgetFull);
    }

    private static void holders(Edges edges) {
        edges.edge(26, "by which, the SECRET as it is (KEPT by w), all NOTES are so", EdgesOfWhoTest::keptByNotes);
        edges.edge(26, "IS, as bits", EdgesOfWhoTest::noneAndAllHolders);
        edges.edge(26, "g (0 .. 9) LETTERS GUESSED", EdgesOfWhoTest::moodOfNotes);
        edges.edge(27, "none: no KIND, no WORD LEFT", EdgesOfWhoTest::lookOfNone);
        edges.edge(27, "the most of these KINDS that answer alike are fewest; of like ones the least",
                EdgesOfWhoTest::lookOfLike);
        edges.edge(27, "the LETTER l (0 .. 9) to which, WORDS LEFT, how many are GUESSED as now", EdgesOfWhoTest::lookAsNow);
    }

    private static void guessers(Edges edges) {
        edges.edge(28, "WHAT: KINDS (bits) of GUESSERS by which all MARKS are so", EdgesOfWhoTest::noneAndAllGuessers);
        edges.edge(28, "say which LETTER not GUESSED is guessed next (none, if all are)", EdgesOfWhoTest::marksOfGuessed);
        edges.edge(29, "none: no KIND, no WORD.", EdgesOfWhoTest::askOfNone);
        edges.edge(29, "by which the most of these KINDS that guess alike are fewest; of like ones the least",
                EdgesOfWhoTest::askOfLike);
        edges.edge(29, "the set of WORDS (bits, 1 or more of those that are there), LETTERS GUESSED as now",
                EdgesOfWhoTest::askAsNow);
    }

    private static void evenings(Edges edges) {
        edges.edge(30, "EVENINGS by a SEED (0 .. 999999), n (0 .. 60)", EdgesOfWhoTest::numbersOfEvenings);
        edges.edge(30, "(no WORDS: nothing)", EdgesOfWhoTest::eveningsWithoutWords);
        edges.edge(30, "X is SEED at first; n times X becomes X times 1103515245 and 12345, by 2147483648 what is left over",
                EdgesOfWhoTest::eveningsOneByOne);
        edges.edge(30, "a GAME anew", EdgesOfWhoTest::eveningsChangeNothing);
    }

    // ---- notes

    private static void refusedNotes(HangedWords x, int[]... bads) {
        int before = x.count(6);
        for (int[] b : bads) {
            checks.dueRefused(23, "note(" + b[0] + ", " + b[1] + ", " + b[2] + ", " + b[3] + ")", x,
                    y -> y.note(b[0], b[1], b[2], b[3]), BAD);
        }
        checks.due(23, "count(6)", x.count(6), before);
    }

    private static void wordsOfNotes() {
        HangedWords x = new HangedWords();
        refusedNotes(x, new int[][] {{0, 0, 0, 0}, {1, 0, 0, 0}, {255, 0, 0, 0}, {-1, 0, 0, 0}});
        for (int size = 1; size <= 8; size++) {
            HangedWords y = new HangedWords();
            for (int w = 0; w < size; w++) {
                y.word(EIGHT[w]);
            }
            refusedNotes(y, new int[][] {{0, 0, 0, 0}, {1 << size, 0, 0, 0}, {(1 << size) + 1, 0, 0, 0}, {-1, 0, 0, 0},
                {MIN, 0, 0, 0}, {MAX, 0, 0, 0}, {MIN + 1, 0, 0, 0}});
            checks.due(23, "note of the first word", y.note(1, 0, 0, 0), 1);
            checks.due(23, "note of the last word", y.note(1 << size - 1, 0, 0, 0), 2);
            checks.due(23, "note of all words", y.note((1 << size) - 1, 0, 0, 0), 3);
        }
        HangedWords z = Checks.with(0, 1111, 2222);
        z.guess(1);
        checks.due(23, "note of a word that is not left", z.note(2, 0, 0, 0), 1);
    }

    private static void numbersOfNotes() {
        HangedWords x = Checks.with(0, 1111);
        refusedNotes(x, new int[][] {{1, -1, 0, 0}, {1, 10, 0, 0}, {1, MIN, 0, 0}, {1, MAX, 0, 0},
            {1, 0, -1, 0}, {1, 0, 10, 0}, {1, 0, MIN, 0}, {1, 0, MAX, 0},
            {1, 0, 0, -1}, {1, 0, 0, 16}, {1, 0, 0, MIN}, {1, 0, 0, MAX}});
        checks.due(23, "note(1, 0, 0, 0)", x.note(1, 0, 0, 0), 1);
        checks.due(23, "note(1, 9, 0, 0)", x.note(1, 9, 0, 0), 2);
        checks.due(23, "note(1, 0, 9, 0)", x.note(1, 0, 9, 0), 3);
        checks.due(23, "note(1, 0, 0, 15)", x.note(1, 0, 0, 15), 4);
    }

    private static void sixNotes() {
        HangedWords x = Checks.with(0, 1111);
        for (int i = 1; i <= 6; i++) {
            checks.due(23, "note, the " + i + "th", x.note(1, 0, 0, 0), i);
        }
        long before = x.digest();
        checks.dueRefused(23, "a 7th note", x, y -> y.note(1, 0, 0, 0), FULL);
        checks.dueRefused(23, "a 7th note, bad w", x, y -> y.note(0, 0, 0, 0), BAD);
        checks.dueRefused(23, "a 7th note, bad g", x, y -> y.note(1, 10, 0, 0), BAD);
        checks.dueRefused(23, "a 7th note, bad l", x, y -> y.note(1, 0, 10, 0), BAD);
        checks.dueRefused(23, "a 7th note, bad x", x, y -> y.note(1, 0, 0, 16), BAD);
        checks.dueUnchanged(23, "a 7th note", x, before);
        checks.due(23, "a mark beside six notes", x.mark(1, 0, 0), 1);
        x.forget(0);
        checks.due(23, "note behind forget(0)", x.note(1, 0, 0, 0), 1);
    }

    private static void notesAsTheyCome() {
        HangedWords x = Checks.with(0, 1111);
        x.note(1, 0, 1, 15);
        x.note(1, 9, 9, 0);
        HangedWords y = Checks.with(0, 1111);
        y.note(1, 9, 9, 0);
        y.note(1, 0, 1, 15);
        checks.due(23, "digests are unlike by the order", x.digest() == y.digest() ? 1 : 0, 0);
        x.word(2222);
        checks.due(23, "count(6) behind a word", x.count(6), 2);
        checks.due(23, "a note of the same again", x.note(1, 9, 9, 0), 3);
    }

    // ---- marks, forget

    private static void numbersOfMarks() {
        HangedWords x = new HangedWords();
        checks.dueRefused(24, "mark(1, 0, 0), no words", x, y -> y.mark(1, 0, 0), BAD);
        x.word(1111);
        x.word(2222);
        int[][] bads = {{0, 0, 0}, {4, 0, 0}, {5, 0, 0}, {-1, 0, 0}, {MIN, 0, 0}, {MAX, 0, 0}, {1, -1, 0}, {1, 1024, 0},
            {1, MIN, 0}, {1, MAX, 0}, {1, 0, -1}, {1, 0, 10}, {1, 0, MIN}, {1, 0, MAX}};
        for (int[] b : bads) {
            checks.dueRefused(24, "mark(" + b[0] + ", " + b[1] + ", " + b[2] + ")", x, y -> y.mark(b[0], b[1], b[2]), BAD);
        }
        checks.due(24, "count(7)", x.count(7), 0);
        checks.due(24, "mark(1, 0, 0)", x.mark(1, 0, 0), 1);
        checks.due(24, "mark(3, 1023, 9)", x.mark(3, 1023, 9), 2);
        HangedWords z = Checks.with(0, EIGHT);
        checks.due(24, "mark(255, 0, 0)", z.mark(255, 0, 0), 1);
        checks.due(24, "mark(128, 0, 0)", z.mark(128, 0, 0), 2);
        checks.dueRefused(24, "mark(256, 0, 0)", z, y -> y.mark(256, 0, 0), BAD);
    }

    private static void sixMarks() {
        HangedWords x = Checks.with(0, 1111);
        for (int i = 1; i <= 6; i++) {
            checks.due(24, "mark, the " + i + "th", x.mark(1, 0, 0), i);
        }
        long before = x.digest();
        checks.dueRefused(24, "a 7th mark", x, y -> y.mark(1, 0, 0), FULL);
        checks.dueRefused(24, "a 7th mark, bad w", x, y -> y.mark(2, 0, 0), BAD);
        checks.dueRefused(24, "a 7th mark, bad g", x, y -> y.mark(1, 1024, 0), BAD);
        checks.dueRefused(24, "a 7th mark, bad l", x, y -> y.mark(1, 0, 10), BAD);
        checks.dueUnchanged(24, "a 7th mark", x, before);
        checks.due(24, "a note beside six marks", x.note(1, 0, 0, 0), 1);
        x.forget(1);
        checks.due(24, "mark behind forget(1)", x.mark(1, 0, 0), 1);
    }

    private static void marksAsTheyCome() {
        HangedWords x = Checks.with(0, 1111);
        x.mark(1, 0, 1);
        x.mark(1, 1023, 9);
        HangedWords y = Checks.with(0, 1111);
        y.mark(1, 1023, 9);
        y.mark(1, 0, 1);
        checks.due(24, "digests are unlike by the order", x.digest() == y.digest() ? 1 : 0, 0);
        x.word(2222);
        checks.due(24, "count(7) behind a word", x.count(7), 2);
        checks.due(24, "a mark of the same again", x.mark(1, 0, 1), 3);
    }

    private static void numbersOfForget() {
        HangedWords x = Checks.with(0, 1111);
        checks.due(25, "forget(0), none", x.forget(0), 0);
        checks.due(25, "forget(1), none", x.forget(1), 0);
        x.note(1, 0, 0, 0);
        x.mark(1, 0, 0);
        long before = x.digest();
        for (int what : new int[] {-1, 2, MIN, MAX}) {
            checks.dueRefused(25, "forget(" + what + ")", x, y -> y.forget(what), BAD);
        }
        checks.dueUnchanged(25, "forget(2)", x, before);
        checks.due(25, "forget(0), no words being needed", new HangedWords().forget(0), 0);
    }

    private static void forgetFull() {
        HangedWords x = Checks.with(0, 1111);
        for (int i = 0; i < 6; i++) {
            x.note(1, 0, 0, 15);
            x.mark(1, 1023, 0);
        }
        checks.due(25, "is()", x.is(), 0);
        checks.due(25, "kinds()", x.kinds(), 0);
        checks.due(25, "forget(0)", x.forget(0), 6);
        checks.due(25, "is()", x.is(), 63);
        checks.dueCounts(25, x, 1, 1, 0, 0, 0, 0, 0, 6);
        checks.due(25, "forget(1)", x.forget(1), 6);
        checks.due(25, "kinds()", x.kinds(), 63);
        checks.due(25, "forget(0) again", x.forget(0), 0);
        checks.due(25, "forget(1) again", x.forget(1), 0);
    }

    // ---- is, look

    private static void isBy(HangedWords x, int w, int g, int l, int mask, int want) {
        x.forget(0);
        x.note(w, g, l, mask);
        checks.due(26, "is() by note(" + w + ", " + g + ", " + l + ", " + mask + ")", x.is(), want);
    }

    private static void keptByNotes() {
        HangedWords x = Checks.with(0, 1111, 2222, 3333, 4444);
        // Of these only honest ones, mild ones and moody ones (none guessed) give 1; the others say no.
        isBy(x, 15, 0, 1, 15, 1 + 8 + 16);
        isBy(x, 15, 0, 1, 0, 2 + 4 + 32);
        // The secret is not of w, so the least of w is kept.
        isBy(x, 14, 0, 2, 15, 1 + 8 + 16);
        isBy(x, 14, 0, 3, 15, 8);
        x.secret(2);
        isBy(x, 14, 0, 3, 15, 1 + 8 + 16);
        isBy(x, 14, 0, 2, 15, 8);
        isBy(x, 11, 0, 1, 15, 1 + 8 + 16);
        // What is left now, and what is guessed, is nothing to a note.
        x.guess(3);
        x.guess(1);
        isBy(x, 14, 0, 3, 15, 1 + 8 + 16);
        isBy(x, 1, 0, 1, 15, 63);
    }

    private static void noneAndAllHolders() {
        checks.due(26, "is(), no words, no notes", new HangedWords().is(), 63);
        HangedWords x = Checks.with(0, 1111, 2222);
        checks.due(26, "is(), no notes", x.is(), 63);
        isBy(x, 3, 0, 9, 0, 63);
        isBy(x, 3, 0, 9, 15, 0);
        isBy(x, 3, 0, 1, 1, 0);
        x.forget(0);
        for (int i = 0; i < 5; i++) {
            x.note(3, 0, 9, 0);
        }
        checks.due(26, "is(), five that all kinds fit", x.is(), 63);
        x.note(3, 0, 1, 0);
        checks.due(26, "is(), the sixth that some fit", x.is(), 2 + 4);
        checks.dueStatus(26, x, 0, 0, 0);
    }

    private static void moodOfNotes() {
        HangedWords x = Checks.with(0, 1111, 2222);
        for (int g = 0; g <= 9; g++) {
            // Honest, mild and stubborn ones give 1; moody ones by the number guessed.
            isBy(x, 3, g, 1, 15, 1 + 8 + 32 + (g % 2 == 0 ? 16 : 0));
            isBy(x, 3, g, 1, 0, 2 + 4 + (g % 2 == 0 ? 0 : 16));
        }
    }

    private static void lookOfNone() {
        HangedWords x = new HangedWords();
        checks.due(27, "look(), no words", x.look(), NONE);
        x.word(1111);
        checks.due(27, "look(), one word", x.look(), 0);
        x.note(1, 0, 1, 0);
        checks.due(27, "is()", x.is(), 0);
        checks.due(27, "look(), no kind", x.look(), NONE);
        x.forget(0);
        checks.due(27, "look() behind forget(0)", x.look(), 0);
        x.game(0);
        checks.due(27, "look(), no words any more", x.look(), NONE);
        checks.dueStatus(27, x, 0, 0, 0);
    }

    private static void lookOfLike() {
        // By 1 and by 2 alike three kinds say 15 and three say 0; the others leave all six alike.
        HangedWords x = Checks.with(0, 1111, 2222, 3333, 4444);
        checks.due(27, "look()", x.look(), 1);
        HangedWords y = Checks.with(0, 8888, 9999, 7777, 6666);
        checks.due(27, "look(), by 8", y.look(), 8);
        // One kind is left, so that all letters are alike.
        y.note(15, 0, 7, 15);
        checks.due(27, "is(), mild ones alone", y.is(), 8);
        checks.due(27, "look(), one kind", y.look(), 0);
        // Honest ones alone: by 4 they part from all other kinds, but these are out already.
        HangedWords z = Checks.with(0, 4561, 7891, 1123, 1145);
        z.guess(0);
        z.note(15, 1, 4, 1);
        checks.due(27, "is(), honest ones alone", z.is(), 1);
        checks.due(27, "look(), one kind", z.look(), 0);
    }

    private static void lookAsNow() {
        HangedWords x = Checks.with(0, 1111, 2222);
        x.note(3, 0, 1, 15);
        x.note(3, 2, 2, 0);
        // Honest, moody and stubborn ones fit; moody ones part from the others when one is guessed.
        checks.due(27, "is()", x.is(), 1 + 16 + 32);
        checks.due(27, "look(), none guessed", x.look(), 0);
        x.guess(5);
        checks.due(27, "look(), one guessed", x.look(), 1);
        x.guess(6);
        checks.due(27, "look(), two guessed", x.look(), 0);
        x.guess(7);
        checks.due(27, "look(), three guessed", x.look(), 1);
        x.guess(1);
        checks.due(27, "look(), one word left", x.look(), 0);
        HangedWords y = Checks.with(0, 1234);
        for (int l = 0; l < 10; l++) {
            y.guess(l);
        }
        checks.due(27, "look(), all guessed", y.look(), 0);
    }

    // ---- kinds, ask

    private static void kindsBy(HangedWords x, int w, int g, int l, int want) {
        x.forget(1);
        x.mark(w, g, l);
        checks.due(28, "kinds() by mark(" + w + ", " + g + ", " + l + ")", x.kinds(), want);
    }

    private static void noneAndAllGuessers() {
        checks.due(28, "kinds(), no words, no marks", new HangedWords().kinds(), 63);
        HangedWords x = Checks.with(0, 5012, 5013, 5023, 6013);
        checks.due(28, "kinds(), no marks", x.kinds(), 63);
        kindsBy(x, 15, 0, 7, 0);
        kindsBy(x, 15, 0, 0, 1 + 2 + 4);
        kindsBy(x, 15, 1022, 0, 63);
        kindsBy(x, 15, 511, 9, 63);
        x.forget(1);
        for (int i = 0; i < 5; i++) {
            x.mark(15, 511, 9);
        }
        checks.due(28, "kinds(), five that all kinds fit", x.kinds(), 63);
        x.mark(15, 0, 9);
        checks.due(28, "kinds(), the sixth that one fits", x.kinds(), 16);
        checks.dueStatus(28, x, 0, 0, 0);
    }

    private static void marksOfGuessed() {
        HangedWords x = Checks.with(0, 5012, 5013);
        for (int l = 0; l < 10; l++) {
            kindsBy(x, 3, 1023, l, 0);
            kindsBy(x, 3, 1 << l, l, 0);
            kindsBy(x, 3, 1023 - (1 << l), l, 63);
        }
    }

    private static void askOfNone() {
        HangedWords x = new HangedWords();
        checks.due(29, "ask(), no words", x.ask(), NONE);
        x.word(1111);
        checks.due(29, "ask(), one word", x.ask(), 1);
        x.mark(1, 1023, 0);
        checks.due(29, "kinds()", x.kinds(), 0);
        checks.due(29, "ask(), no kind", x.ask(), NONE);
        x.forget(1);
        checks.due(29, "ask() behind forget(1)", x.ask(), 1);
        x.game(0);
        checks.due(29, "ask(), no words any more", x.ask(), NONE);
        checks.dueStatus(29, x, 0, 0, 0);
    }

    private static void askOfLike() {
        // Of word 0 or word 1 alone: by rows and by halves 0, often, sure and first 9 (or 8), last 9.
        HangedWords x = Checks.with(0, 9999, 8888);
        // {0}: 9 is said by often, sure, last, first (4); {1}: 8 by three; {0, 1}: 8 by often, sure, half.
        checks.due(29, "ask()", x.ask(), 2);
        HangedWords y = Checks.with(0, 8888, 9999);
        checks.due(29, "ask(), of like ones", y.ask(), 1);
        y.mark(1, 0, 9);
        checks.due(29, "kinds(), last ones alone", y.kinds(), 16);
        checks.due(29, "ask(), one kind", y.ask(), 1);
        // Those by rows alone: by 3 they part from all other kinds, but these are out already.
        HangedWords rows = Checks.with(0, 1111, 5555, 6666);
        rows.mark(6, 0, 0);
        checks.due(29, "kinds(), those by rows alone", rows.kinds(), 1);
        checks.due(29, "ask(), one kind", rows.ask(), 1);
        // With 0 guessed the first seven words have 9 alone, so that sets without the eighth part no one: 128 is the
        // first that does (three say 1), and 129 parts them best (9 is the first of word 0).
        HangedWords z = Checks.with(0, 9000, 9900, 9990, 9999, 9090, 9009, 9909, 1);
        z.mark(1, 1, 9);
        checks.due(29, "kinds(), all but those by rows and halves", z.kinds(), 2 + 4 + 16 + 32);
        z.guess(0);
        checks.due(29, "ask(), of eight words", z.ask(), 129);
    }

    private static void askAsNow() {
        HangedWords x = Checks.with(0, 9999, 8888);
        x.guess(9);
        checks.due(29, "count(1)", x.count(1), 1);
        // {0}: 9 is guessed: 0 by all but last ones (8); {1}: 8 by often, sure, last, first; {0, 1} as {1} or less.
        checks.due(29, "ask(), of a word that is not left", x.ask(), 2);
        for (int l = 0; l < 9; l++) {
            x.guess(l);
        }
        checks.due(29, "ask(), all guessed", x.ask(), 1);
        // Those by rows and by halves guess 1 of either word alone, for 0 is guessed; of both words 1 and 5.
        HangedWords y = Checks.with(0, 5555, 6666);
        y.mark(1, 1, 1);
        checks.due(29, "kinds()", y.kinds(), 1 + 8);
        y.guess(0);
        checks.due(29, "ask(), 0 guessed", y.ask(), 3);
    }

    // ---- evenings

    private static void numbersOfEvenings() {
        HangedWords x = Checks.with(0, 1111, 2222);
        int[][] bads = {{-1, 0}, {1000000, 0}, {MIN, 0}, {MAX, 0}, {0, -1}, {0, 61}, {0, MIN}, {0, MAX}, {-1, 61}};
        for (int[] b : bads) {
            checks.dueRefused(30, "evenings(" + b[0] + ", " + b[1] + ")", x, y -> y.evenings(b[0], b[1]), BAD);
        }
        for (int[] b : bads) {
            checks.dueRefused(30, "evenings, no words", new HangedWords(), y -> y.evenings(b[0], b[1]), BAD);
        }
        checks.due(30, "evenings(0, 0)", x.evenings(0, 0), 0);
        checks.due(30, "evenings(999999, 0)", x.evenings(999999, 0), 0);
    }

    private static void eveningsWithoutWords() {
        HangedWords x = new HangedWords();
        checks.due(30, "evenings(0, 60), no words", x.evenings(0, 60), 0);
        checks.due(30, "evenings(999999, 60), no words", x.evenings(999999, 60), 0);
        checks.due(30, "evenings(0, 0), no words", x.evenings(0, 0), 0);
        checks.dueStatus(30, x, 0, 0, 0);
        HangedWords y = Checks.with(5, 1234);
        checks.due(30, "evenings(5, 60), one word", y.evenings(5, 60), 0);
    }

    /** Each evening is played by ends on a game anew, its secret told; X is reckoned in numbers that can not wrap. */
    private static void eveningsOneByOne() {
        int[][] all = {{1111, 2222}, {5012, 5013, 5023, 6013, 1111, 9876, 42}, EIGHT};
        for (int[] codes : all) {
            for (int seed : new int[] {0, 1, 123456, 999999}) {
                eveningsOf(seed, (seed + codes.length) % 6, codes);
            }
        }
        // By these X is just above or just below what 1048576 is in once more, so that the kind hangs on it.
        for (int seed : new int[] {959, 1403, 16882, 21119}) {
            eveningsOf(seed, 0, EIGHT);
        }
    }

    private static void eveningsOf(int seed, int kind, int[] codes) {
        BigInteger x = BigInteger.valueOf(seed);
        int together = 0;
        for (int n = 1; n <= 60; n++) {
            x = x.multiply(BigInteger.valueOf(1103515245)).add(BigInteger.valueOf(12345))
                    .mod(BigInteger.valueOf(2147483648L));
            HangedWords one = Checks.with(kind, codes);
            one.secret(x.divide(BigInteger.valueOf(65536)).mod(BigInteger.valueOf(codes.length)).intValue());
            together += one.ends(x.divide(BigInteger.valueOf(1048576)).mod(BigInteger.valueOf(6)).intValue(), 0);
            HangedWords other = Checks.with(kind, codes);
            other.guess(1);
            checks.due(30, "evenings(" + seed + ", " + n + ")", other.evenings(seed, n), together);
        }
    }

    private static void eveningsChangeNothing() {
        HangedWords x = Checks.with(4, 5012, 5013, 5023, 6013);
        int atFirst = x.evenings(77, 60);
        x.secret(2);
        x.guess(0);
        x.guess(9);
        x.note(15, 0, 0, 2);
        x.mean(1);
        long before = x.digest();
        checks.due(30, "evenings(77, 60), whatever the game is", x.evenings(77, 60), atFirst);
        checks.dueUnchanged(30, "evenings(77, 60)", x, before);
        checks.due(30, "undo()", x.undo(), 0);
        checks.due(30, "count(8)", x.count(8), 2);
    }
}
