/** Promises 1 to 7: a new object, game, holder, word, type, clear, read. */
public final class GameTest {
    private static final Checks checks = new Checks();

    public static void main(String[] args) {
        newObject();
        game();
        holder();
        word();
        typeAndClear();
        readWhole();
        readFaults();
        readLeavesAllAtFault();
        readTakesThePlaceOfAll();
        checks.end();
    }

    private static void newObject() {
        HangedWords x = new HangedWords();
        checks.dueCounts(1, x, 0, 0, 0, 0, 0, 0, 0, 0, 0, 0);
        checks.dueFraction(1, "new", x, 0, 1);
        checks.dueStatus(1, x, 0, 0, 0);
        checks.due(1, "from(0)", x.from(0), HangedWords.NO);
        checks.due(1, "from(1)", x.from(1), HangedWords.NO);
        checks.due(1, "undo()", x.undo(), HangedWords.NO);
        checks.due(1, "is()", x.is(), 63);
        checks.due(1, "kinds()", x.kinds(), 63);
        HangedWords y = new HangedWords();
        y.word(1234);
        checks.due(1, "count(0) of another object", x.count(0), 0);
    }

    private static HangedWords busy() {
        HangedWords x = Checks.with(2, 1111, 2222, 3333);
        Checks.typeAnew(x, "game 1;");
        x.image(1);
        x.secret(2);
        x.guess(1);
        x.note(1, 0, 0, 0);
        x.mark(1, 0, 0);
        x.luck(1);
        return x;
    }

    private static void game() {
        HangedWords x = busy();
        checks.dueFraction(2, "luck(1)", x, 2, 9);
        long before = x.digest();
        checks.due(2, "game(-1)", x.game(-1), HangedWords.BAD);
        checks.due(2, "game(6)", x.game(6), HangedWords.BAD);
        checks.dueUnchanged(2, "game(6)", x, before);
        checks.dueStatus(2, x, 2, 0, 0);
        checks.due(2, "game(5)", x.game(5), 3);
        checks.dueCounts(2, x, 0, 0, 0, 0, 0, 5, 0, 0, 0, 7);
        checks.dueFraction(2, "game(5)", x, 2, 9);
        checks.dueStatus(2, x, 2, 0, 0);
        checks.due(2, "game(0)", x.game(0), 0);
        checks.due(2, "count(5)", x.count(5), 0);
        checks.due(2, "word(12)", x.word(12), 0);
        checks.due(2, "mask(0, 1)", x.mask(0, 1), 4);
        checks.due(2, "next(1)", x.next(1), 0);
        checks.due(2, "from(1)", x.from(1), 1);
        checks.dueCounts(2, x, 3, 3, 0, 0, 0, 2, 0, 0, 0, 7);
    }

    private static void holder() {
        HangedWords x = Checks.with(0, 1111, 2222);
        x.guess(5);
        x.anew();
        x.guess(6);
        checks.due(3, "count(8)", x.count(8), 3);
        checks.due(3, "holder(-1)", x.holder(-1), HangedWords.BAD);
        checks.due(3, "holder(6)", x.holder(6), HangedWords.BAD);
        checks.dueStatus(3, x, 2, 0, 0);
        checks.due(3, "count(8) behind holder(6)", x.count(8), 3);
        checks.due(3, "holder(5)", x.holder(5), 0);
        checks.dueCounts(3, x, 2, 2, 1, 1, 0, 5, 0, 0, 0, 0);
        checks.due(3, "undo()", x.undo(), HangedWords.NO);
        x.guess(7);
        checks.due(3, "holder(5), as it was", x.holder(5), 5);
        checks.due(3, "count(8) behind holder(5)", x.count(8), 0);
        checks.due(3, "holder(3)", x.holder(3), 5);
        checks.due(3, "answer(2)", x.answer(2), 15);
        checks.due(3, "holder(1)", x.holder(1), 3);
        checks.due(3, "answer(2)", x.answer(2), 0);
    }

    private static void word() {
        HangedWords x = new HangedWords();
        checks.due(4, "word(-1)", x.word(-1), HangedWords.BAD);
        checks.due(4, "word(10000)", x.word(10000), HangedWords.BAD);
        checks.due(4, "word(9999)", x.word(9999), 0);
        checks.due(4, "word(0)", x.word(0), 1);
        checks.due(4, "word(0) again", x.word(0), HangedWords.NO);
        checks.dueStatus(4, x, 2, 1, 0);
        x.secret(1);
        x.guess(3);
        x.guess(9);
        checks.dueCounts(4, x, 2, 1, 2, 2, 1, 0, 0, 0, 3, 0);
        checks.due(4, "word(9999) again", x.word(9999), HangedWords.NO);
        checks.dueCounts(4, x, 2, 1, 2, 2, 1, 0, 0, 0, 3, 0);
        checks.due(4, "word(7)", x.word(7), 2);
        checks.dueCounts(4, x, 3, 3, 0, 0, 1, 0, 0, 0, 0, 0);
        for (int i = 3; i < 8; i++) {
            checks.due(4, "word", x.word(10 * i), i);
        }
        x.guess(9);
        checks.due(4, "9th word", x.word(5), HangedWords.FULL);
        checks.due(4, "9th word, there already", x.word(7), HangedWords.NO);
        checks.due(4, "9th word, bad", x.word(10000), HangedWords.BAD);
        checks.due(4, "count(2) behind a refused word", x.count(2), 1);
        checks.dueStatus(4, x, 3, 3, 1);
    }

    private static void typeAndClear() {
        HangedWords x = new HangedWords();
        checks.due(6, "clear()", x.clear(), 0);
        checks.due(5, "type(-1)", x.type(-1), HangedWords.BAD);
        checks.due(5, "type(128)", x.type(128), HangedWords.BAD);
        checks.due(5, "type(0)", x.type(0), 1);
        checks.due(5, "type(127)", x.type(127), 2);
        for (int i = 3; i <= 150; i++) {
            checks.due(5, "type(32)", x.type(32), i);
        }
        checks.due(5, "type(32), the 151st", x.type(32), HangedWords.FULL);
        checks.due(5, "type(128), the 151st", x.type(128), HangedWords.BAD);
        checks.dueStatus(5, x, 3, 0, 1);
        checks.due(5, "count(9)", x.count(9), 150);
        checks.due(6, "clear()", x.clear(), 150);
        checks.due(6, "count(9)", x.count(9), 0);
        checks.due(6, "clear() again", x.clear(), 0);
        checks.due(6, "type(1)", x.type(1), 1);
        checks.dueStatus(6, x, 3, 0, 1);
    }

    private static void reads(String text, int want) {
        HangedWords x = new HangedWords();
        Checks.typeAnew(x, text);
        checks.due(7, "read() of '" + text + "'", x.read(), want);
        checks.dueStatus(7, x, 0, 0, 0);
        checks.due(7, "count(9) behind read()", x.count(9), text.length());
    }

    private static void readWhole() {
        reads("game 0;", 1);
        reads("  game   05  ;   ", 1);
        reads("game5;word0 1 2 3;", 2);
        reads("game 3;word 01 02 3 04;guess 9;secret 0;guess 0;", 5);
        reads("game 0;word 0 0 0 0;secret 0;secret 0;", 4);
        HangedWords x = new HangedWords();
        Checks.typeAnew(x, "game 4;word 1 1 1 1;word 2 2 2 2;word 3 3 3 3;secret 2;guess 1;secret 0;guess 2;");
        checks.due(7, "read()", x.read(), 8);
        checks.dueCounts(7, x, 3, 1, 2, 2, 0, 4, 0, 0, 0, 80);
        checks.due(7, "of(2, 1)", x.of(2, 1), 1);
        checks.due(7, "of(1, 0)", x.of(1, 0), 2222);
        checks.due(7, "read() again", x.read(), 8);
        checks.dueCounts(7, x, 3, 1, 2, 2, 0, 4, 0, 0, 0, 80);
    }

    private static void faultAt(String text, int place) {
        reads(text, -10 - place);
    }

    private static void readFaults() {
        faultAt("", 0);
        faultAt("   ", 3);
        faultAt("game", 4);
        faultAt("game 0", 6);
        faultAt("game 0 ", 7);
        faultAt("gam", 0);
        faultAt("gamee 0;", 0);
        faultAt(" word 1 2 3 4;", 1);
        faultAt("hang 0;", 0);
        faultAt("fame 0;", 0);
        faultAt("game 0;lord 1 2 3 4;", 7);
        faultAt("0;", 0);
        faultAt(";", 0);
        faultAt("game;", 4);
        faultAt("game 6;", 5);
        faultAt("game 10;", 5);
        faultAt("game 000;", 5);
        faultAt("game game;", 5);
        faultAt("game 0 0;", 7);
        faultAt("game 0;;", 7);
        faultAt("game 0; game 0;", 8);
        faultAt("game 0; gaMe 0;", 8);
        faultAt("game 0;3", 7);
        faultAt("game 0;\t", 7);
        faultAt("game 0\t;", 6);
        faultAt("Game 0;", 0);
        faultAt("game 0;" + (char) 0, 7);
        faultAt("game 0;word", 11);
        faultAt("game 0;word 1 2 3 4", 19);
        faultAt("game 0;word 1 2 3;", 17);
        faultAt("game 0;word 1 2 3 10;", 18);
        faultAt("game 0;word 12 3 4;", 12);
        faultAt("game 0;word 1234;", 12);
        faultAt("game 0;word 1 2 3 4 5;", 20);
        faultAt("game 0;word 1 2 3 4;word 1 2 3 4;", 31);
        faultAt("game 0;word 1 2 3 4;word 1 2 3 04;", 31);
        faultAt("game 0;secret 0;", 14);
        faultAt("game 0;secret x;", 14);
        faultAt("game 0;word 1 2 3 4;secret 1;", 27);
        faultAt("game 0;word 1 2 3 4;secret 00 1;", 30);
        faultAt("game 0;guess 0;", 13);
        faultAt("game 0;guess", 12);
        faultAt("game 0;word 1 2 3 4;guess 10;", 26);
        faultAt("game 0;word 1 2 3 4;guess 1;guess 1;", 34);
        faultAt("game 0;word 1 2 3 4;guess 1;guess 01;", 34);
        faultAt("game 0;word 1 2 3 4;guess 1;word 5 6 7 8;", 28);
        faultAt("game 0;word 1 2 3 4;guess 1;word 1 2 3 4;", 28);
        StringBuilder nine = new StringBuilder("game 0;");
        for (int i = 0; i < 9; i++) {
            nine.append("word 0 0 0 ").append(i).append(';');
        }
        faultAt(nine.toString(), 7 + 8 * 13);
        reads(nine.substring(0, 7 + 8 * 13), 9);
    }

    private static void readLeavesAllAtFault() {
        HangedWords x = busy();
        Checks.typeAnew(x, "game 1;word 1 2 3 4;guess 1;guess 1;");
        long before = x.digest();
        checks.due(7, "read()", x.read(), -44);
        checks.dueUnchanged(7, "read() at a fault", x, before);
        checks.due(7, "undo() behind it", x.undo(), 0);
        checks.due(7, "undo() behind it", x.undo(), 0);
        checks.due(7, "count(4)", x.count(4), 0);
    }

    private static void readTakesThePlaceOfAll() {
        HangedWords x = busy();
        x.game(9);
        Checks.typeAnew(x, "game 3;word 0 1 2 3;guess 7;");
        checks.due(7, "read()", x.read(), 3);
        checks.dueCounts(7, x, 1, 1, 1, 1, 0, 3, 0, 0, 0, 28);
        checks.due(7, "undo()", x.undo(), HangedWords.NO);
        checks.dueFraction(7, "read()", x, 2, 9);
        checks.dueStatus(7, x, 1, 1, 0);
        checks.due(7, "from(1)", x.from(1), 1);
        checks.dueCounts(7, x, 3, 3, 0, 0, 0, 2, 0, 0, 0, 28);
    }
}
