import java.util.function.ToLongFunction;

/** Counts answers that are not as due, and makes objects to ask; each test has one of its own. */
final class Checks {
    private int made = 0;
    private int wrong = 0;

    void due(int promise, String call, long got, long want) {
        made++;
        if (got != want) {
            wrong++;
            System.out.println("promise " + promise + ": " + call + " answered " + got + ", due is " + want);
        }
    }

    /** Bad, no and full are how often calls were refused so far. */
    void dueStatus(int promise, HangedWords x, int bad, int no, int full) {
        due(promise, "status(0)", x.status(0), bad);
        due(promise, "status(1)", x.status(1), no);
        due(promise, "status(2)", x.status(2), full);
    }

    void dueCounts(int promise, HangedWords x, int... wanted) {
        for (int what = 0; what < wanted.length; what++) {
            due(promise, "count(" + what + ")", x.count(what), wanted[what]);
        }
    }

    void dueFraction(int promise, String call, HangedWords x, long above, long below) {
        due(promise, call + " above", x.part(0), above);
        due(promise, call + " below", x.part(1), below);
    }

    /** A refused call leaves all that digest tells as it was. */
    void dueUnchanged(int promise, String call, HangedWords x, long digestBefore) {
        due(promise, "digest() behind " + call, x.digest(), digestBefore);
    }

    /** A call that is refused: its answer, and what of status it counts as; no other count moves. */
    void dueRefused(int promise, String call, HangedWords x, ToLongFunction<HangedWords> makes, long answer) {
        int bad = x.status(0);
        int no = x.status(1);
        int full = x.status(2);
        due(promise, call, makes.applyAsLong(x), answer);
        boolean isNo = answer == HangedWords.NO;
        boolean isFull = answer == HangedWords.FULL;
        dueStatus(promise, x, bad + (isNo || isFull ? 0 : 1), no + (isNo ? 1 : 0), full + (isFull ? 1 : 0));
    }

    int made() {
        return made;
    }

    int wrong() {
        return wrong;
    }

    void end() {
        System.out.println(made + " answers looked at, " + wrong + " not as due");
        if (wrong != 0 || made == 0) {
            System.exit(1);
        }
    }

    static HangedWords with(int kind, int... codes) {
        HangedWords x = new HangedWords();
        x.game(kind);
        for (int code : codes) {
            x.word(code);
        }
        return x;
    }

    static void typeAnew(HangedWords x, String text) {
        x.clear();
        for (int i = 0; i < text.length(); i++) {
            x.type(text.charAt(i));
        }
    }
}
