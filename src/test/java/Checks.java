/** Counts answers that are not as due, and makes objects to ask; each test has one of its own. */
final class Checks {
    private int made = 0;
    private int wrong = 0;

    void due(int promise, String call, long got, long want) {
        made++;
        if (got != want) {
            wrong++;
            System.out.println("promise " + promise + ": " + call + " answered " + got + ", due is " + want);
        }
    }

    /** Bad, no and full are how often calls were refused so far. */
    void dueStatus(int promise, HangedWords x, int bad, int no, int full) {
        due(promise, "status(0)", x.status(0), bad);
        due(promise, "status(1)", x.status(1), no);
        due(promise, "status(2)", x.status(2), full);
    }

    void dueCounts(int promise, HangedWords x, int... wanted) {
        for (int what = 0; what < wanted.length; what++) {
            due(promise, "count(" + what + ")", x.count(what), wanted[what]);
        }
    }

    void dueFraction(int promise, String call, HangedWords x, long above, long below) {
        due(promise, call + " above", x.part(0), above);
        due(promise, call + " below", x.part(1), below);
    }

    /** A refused call leaves all that digest tells as it was. */
    void dueUnchanged(int promise, String call, HangedWords x, long digestBefore) {
        due(promise, "digest() behind " + call, x.digest(), digestBefore);
    }

    void end() {
        System.out.println(made + " answers looked at, " + wrong + " not as due");
        if (wrong != 0 || made == 0) {
            System.exit(1);
        }
    }

    static HangedWords with(int kind, int... codes) {
        HangedWords x = new HangedWords();
        x.game(kind);
        for (int code : codes) {
            x.word(code);
        }
        return x;
    }

    static void typeAnew(HangedWords x, String text) {
        x.clear();
        for (int i = 0; i < text.length(); i++) {
            x.type(text.charAt(i));
        }
    }
}
