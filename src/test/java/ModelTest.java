import java.util.Random;

/** Long runs of calls by fixed seeds, on the class and on the model, whose answers must be alike. */
public final class ModelTest {
    private static final int RUNS = 2000;
    /** An object is promised for 512 calls; the dearest step here makes some 170 of them. */
    private static final int MOST_CALLS = 512 - 170;
    private static final String[] PIECES = {"game 0;", "game 4;", "game 2 ;", "word 1 1 2 3;", "word 1 2 1 3;",
        "word 03 3 3 4;", "word 4 0 0 1;", "word 1 0 0 1 ;", "word 5 6 7 8;", "word5 5 5 5;", "word 2 2 1 1;",
        "word 9 9 0 0;", "word 1 9 9 1;", "secret 0;", "secret 1;", "secret 2;", "secret 07;", "guess 1;", "guess 0;",
        "guess 9;", "guess 05;", "guess", "word", " ", ";", "10", "000", "games", "-", "A", "1", "\t", "(", "`", "{", "/", ":"};

    private final Random random;
    private final HangedWords x = new HangedWords();
    private final Model model = new Model();
    private int calls = 0;
    private String call = "";
    private long got;
    private long want;

    private ModelTest(long seed) {
        random = new Random(seed);
    }

    public static void main(String[] args) {
        int wrong = 0;
        for (int run = 0; run < RUNS && wrong < 20; run++) {
            wrong += new ModelTest(run).runs(run) ? 0 : 1;
        }
        System.out.println(RUNS + " runs beside the model, " + wrong + " not alike");
        if (wrong != 0) {
            System.exit(1);
        }
    }

    private boolean runs(int run) {
        boolean wild = run % 4 == 3;
        while (calls < MOST_CALLS) {
            calls += 2;
            oneCall(random.nextInt(40), wild);
            if (got == want) {
                got = x.digest();
                want = model.digest();
            }
            if (got != want) {
                System.out.println("run " + run + ", call " + calls + ": " + call + " answered " + got + ", due is " + want);
                return false;
            }
        }
        for (int what = 0; what < 3; what++) {
            if (x.status(what) != model.status(what)) {
                System.out.println("run " + run + ": status(" + what + ")");
                return false;
            }
        }
        return true;
    }

    /** Mostly a number from least to greatest, seldom one just outside, wildly any int. */
    private int some(int least, int greatest, boolean wild) {
        int roll = random.nextInt(wild ? 6 : 60);
        if (roll == 0) {
            return random.nextBoolean() ? least - 1 : greatest + 1;
        }
        if (wild && roll == 1) {
            int[] far = {Integer.MIN_VALUE, Integer.MAX_VALUE, random.nextInt(), -10, 31, 32, 64, 255, 256, 65536};
            return far[random.nextInt(far.length)];
        }
        return least + random.nextInt(greatest - least + 1);
    }

    private int someCode(boolean wild) {
        if (random.nextInt(3) == 0) {
            return some(0, 9999, wild);
        }
        int code = 0;
        for (int i = 0; i < 4; i++) {
            code = 10 * code + random.nextInt(4);
        }
        return code;
    }

    private void answers(String made, long mine, long due) {
        calls++;
        call = made;
        got = mine;
        want = due;
    }

    private void oneCall(int which, boolean wild) {
        int l = some(0, 9, wild);
        int kind = some(0, 5, wild);
        int what = some(0, 1, wild);
        int w = some(0, 7, wild);
        int set = some(1, Math.max(1, (1 << x.count(0)) - 1), wild);
        int code = someCode(wild);
        switch (which) {
            case 0:
                if (random.nextInt(4) == 0) {
                    answers("game(" + kind + ")", x.game(kind), model.game(kind));
                }
                break;
            case 1: answers("holder(" + kind + ")", x.holder(kind), model.holder(kind)); break;
            case 2: case 3: case 4: answers("word(" + code + ")", x.word(code), model.word(code)); break;
            case 5: typeText(wild); break;
            case 6: answers("read()", x.read(), model.read()); break;
            case 7: case 8: case 9: answers("guess(" + l + ")", x.guess(l), model.guess(l)); break;
            case 10: answers("secret(" + w + ")", x.secret(w), model.secret(w)); break;
            case 11: answers("anew()", x.anew(), model.anew()); break;
            case 12: answers("undo()", x.undo(), model.undo()); break;
            case 13: answers("of(" + w + ", " + what + ")", x.of(w, what), model.of(w, what)); break;
            case 14: answers("mask(" + w + ", " + l + ")", x.mask(w, l), model.mask(w, l)); break;
            case 15: answers("answer(" + l + ")", x.answer(l), model.answer(l)); break;
            case 16: answers("parts(" + l + ", " + what + ")", x.parts(l, what), model.parts(l, what)); break;
            case 17: answers("best()", x.best(), model.best()); break;
            case 18: answers("surely(" + what + ")", x.surely(what), model.surely(what)); break;
            case 19: answers("next(" + kind + ")", x.next(kind), model.next(kind)); break;
            case 20: answers("ends(" + kind + ", " + what + ")", x.ends(kind, what), model.ends(kind, what)); break;
            case 21: answers("mean(" + kind + ")", x.mean(kind), model.mean(kind)); break;
            default: anotherCall(which, wild, l, set, what); break;
        }
    }

    private void anotherCall(int which, boolean wild, int l, int set, int what) {
        int n = some(0, 3, wild);
        int k = some(-1, 36, wild);
        int g = some(0, 9, wild);
        int mask = some(0, 15, wild);
        int letters = random.nextBoolean() ? 0 : some(0, 1023, wild);
        int seed = some(0, 999999, wild);
        int evenings = some(0, 60, wild);
        switch (which) {
            case 22: answers("luck(" + n + ")", x.luck(n), model.luck(n)); break;
            case 23: answers("against(" + k + ")", x.against(k), model.against(k)); break;
            case 24: case 25: fittingNote(set, g, l, mask); break;
            case 26: case 27: fittingMark(set, letters, l); break;
            case 28: answers("forget(" + what + ")", x.forget(what), model.forget(what)); break;
            case 29: answers("is()", x.is(), model.is()); break;
            case 30: answers("look()", x.look(), model.look()); break;
            case 31: answers("kinds()", x.kinds(), model.kinds()); break;
            case 32: answers("ask()", x.ask(), model.ask()); break;
            case 33: answers("evenings", x.evenings(seed, evenings), model.evenings(seed, evenings)); break;
            case 34: answers("part(" + what + ")", x.part(what), model.part(what)); break;
            case 35: answers("image(" + what + ")", x.image(what), model.image(what)); break;
            case 36: answers("from(" + what + ")", x.from(what), model.from(what)); break;
            case 37: answers("status(" + n + ")", x.status(n), model.status(n)); break;
            case 38: answers("count(" + g + ")", x.count(g), model.count(g)); break;
            default: answers("count(" + l + ")", x.count(l), model.count(l)); break;
        }
    }

    /** Half of the notes are what some kind would say, so that kinds stay in question. */
    private void fittingNote(int set, int g, int l, int mask) {
        int now = x.answer(l);
        long due = model.answer(l);
        boolean fits = now == due && now >= 0 && random.nextBoolean();
        int w = fits ? bits() : set;
        int guesses = fits ? Math.min(9, x.count(2)) : g;
        int said = fits ? now : mask;
        answers("note(" + w + ", " + guesses + ", " + l + ", " + said + ")",
                x.note(w, guesses, l, said), model.note(w, guesses, l, said));
    }

    private int bits() {
        int left = 0;
        calls += 2 * x.count(0);
        for (int w = 0; w < x.count(0); w++) {
            left |= x.of(w, 1) << w;
        }
        return left;
    }

    private void fittingMark(int set, int letters, int l) {
        int now = x.next(random.nextInt(6));
        boolean fits = now >= 0 && x.count(2) == 0 && random.nextBoolean();
        int w = fits ? bits() : set;
        int guessed = fits ? 0 : letters;
        int said = fits ? now : l;
        answers("mark(" + w + ", " + guessed + ", " + said + ")",
                x.mark(w, guessed, said), model.mark(w, guessed, said));
    }

    private void typeText(boolean wild) {
        answers("clear()", x.clear(), model.clear());
        StringBuilder text = new StringBuilder(random.nextInt(12) == 0 ? "" : "game " + random.nextInt(6) + ";");
        int pieces = random.nextInt(9);
        for (int i = 0; i < pieces; i++) {
            text.append(random.nextInt(6) == 0 ? PIECES[random.nextInt(PIECES.length)] : orderly(i));
        }
        for (int i = 0; i < text.length() && got == want; i++) {
            answers("type", x.type(text.charAt(i)), model.type(text.charAt(i)));
        }
        if (wild && got == want) {
            int c = some(0, 127, true);
            answers("type(" + c + ")", x.type(c), model.type(c));
        }
        if (got == want) {
            answers("read() of '" + text + "'", x.read(), model.read());
        }
    }

    private String orderly(int i) {
        int roll = random.nextInt(4);
        if (i < 4 || roll == 0) {
            return String.format("word %d %d %d %d;", random.nextInt(4), random.nextInt(4), random.nextInt(4),
                    random.nextInt(10));
        }
        return roll == 1 ? "secret " + random.nextInt(4) + ";" : "guess " + random.nextInt(10) + ";";
    }
}
