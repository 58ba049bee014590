import java.util.ArrayList;
import java.util.List;
import java.util.function.Supplier;
import java.util.function.ToLongFunction;

/**
 * A refused call changes nothing but STATUS, and one that only asks not even that: an object that met one is asked all
 * there is to ask beside a twin that did not. What can only be seen by going on (what may be undone, images, the text)
 * is gone on with, too.
 */
public final class RefusedTest {
    private static final int BAD = HangedWords.BAD;
    private static final int NO = HangedWords.NO;
    private static final int FULL = HangedWords.FULL;
    private static final int MIN = Integer.MIN_VALUE;
    private static final int MAX = Integer.MAX_VALUE;
    /** Stands for the answer of a call that is not refused, but asks and changes nothing at all. */
    private static final long ANY = 1000;

    private static final Checks checks = new Checks();

    private record Call(int promise, String name, ToLongFunction<HangedWords> makes, long answer) {
    }

    private final String name;
    private final Supplier<HangedWords> builds;
    private final List<Call> calls = new ArrayList<>();

    private RefusedTest(String name, Supplier<HangedWords> builds) {
        this.name = name;
        this.builds = builds;
    }

    public static void main(String[] args) {
        fresh().run();
        busy().run();
        full().run();
        spent().run();
        faulty().run();
        checks.end();
    }

    // ---- states, and what is refused in each

    private static RefusedTest fresh() {
        RefusedTest test = new RefusedTest("a new object", HangedWords::new);
        test.askAll();
        test.refuseNumbers(0);
        test.ask(7, "read()", HangedWords::read);
        test.refuse(8, "guess(0)", x -> x.guess(0), NO);
        test.refuse(9, "secret(0)", x -> x.secret(0), BAD);
        test.refuse(11, "undo()", HangedWords::undo, NO);
        test.refuse(14, "answer(0)", x -> x.answer(0), NO);
        test.refuse(23, "note(1, 0, 0, 0)", x -> x.note(1, 0, 0, 0), BAD);
        test.refuse(24, "mark(1, 0, 0)", x -> x.mark(1, 0, 0), BAD);
        test.refuse(33, "from(0)", x -> x.from(0), NO);
        test.refuse(33, "from(1)", x -> x.from(1), NO);
        return test;
    }

    private static HangedWords buildBusy() {
        HangedWords x = Checks.with(4, 5012, 5013, 5023, 6013, 1111);
        Checks.typeAnew(x, "game 2;word 1 2 3 4;word 5 6 7 8;guess 1;guess 2;");
        x.anew();
        x.image(0);
        x.secret(3);
        x.guess(9);
        x.guess(2);
        x.note(31, 0, 1, 2);
        x.note(7, 1, 2, 8);
        x.mark(31, 0, 9);
        x.luck(2);
        return x;
    }

    private static RefusedTest busy() {
        RefusedTest test = new RefusedTest("a game being played", RefusedTest::buildBusy);
        test.askAll();
        test.refuseNumbers(5);
        test.ask(14, "answer(0)", x -> x.answer(0));
        test.refuse(4, "word(5012)", x -> x.word(5012), NO);
        test.refuse(4, "word(1111)", x -> x.word(1111), NO);
        test.refuse(8, "guess(9)", x -> x.guess(9), NO);
        test.refuse(8, "guess(2)", x -> x.guess(2), NO);
        test.refuse(9, "secret(3)", x -> x.secret(3), NO);
        test.refuse(14, "answer(9)", x -> x.answer(9), NO);
        test.refuse(33, "from(1)", x -> x.from(1), NO);
        return test;
    }

    /** A text that is read, so that a byte lost or changed is seen. */
    private static HangedWords buildFull() {
        HangedWords x = Checks.with(1, 1123, 1213, 4561, 7891, 2345, 9009, 9, 5577);
        String text = "game 5;word 1 1 2 3;word 1 2 1 3;word 4 5 6 1;word 7 8 9 1;secret 2;guess 9;guess 1;";
        Checks.typeAnew(x, text + " ".repeat(150 - text.length()));
        x.guess(1);
        x.image(0);
        for (int i = 0; i < 4; i++) {
            x.secret(7 - i);
            x.anew();
        }
        x.guess(0);
        x.image(1);
        for (int i = 0; i < 6; i++) {
            x.note(255 - i, i, 9 - i, i);
            x.mark(200 + i, 1000 + i, i);
        }
        x.mean(4);
        return x;
    }

    private static RefusedTest full() {
        RefusedTest test = new RefusedTest("all that can be full", RefusedTest::buildFull);
        test.askAll();
        test.refuseNumbers(8);
        test.ask(14, "answer(9)", x -> x.answer(9));
        test.refuse(4, "word(1)", x -> x.word(1), FULL);
        test.refuse(4, "word(5577)", x -> x.word(5577), NO);
        test.refuse(5, "type(32)", x -> x.type(32), FULL);
        test.refuse(5, "type(0)", x -> x.type(0), FULL);
        test.refuse(23, "note(1, 0, 0, 0)", x -> x.note(1, 0, 0, 0), FULL);
        test.refuse(24, "mark(1, 0, 0)", x -> x.mark(1, 0, 0), FULL);
        test.refuse(9, "secret(4)", x -> x.secret(4), NO);
        test.refuse(8, "guess(0)", x -> x.guess(0), NO);
        test.refuse(14, "answer(0)", x -> x.answer(0), NO);
        return test;
    }

    private static HangedWords buildSpent() {
        HangedWords x = Checks.with(2, 1234, 5678, 9012);
        for (int l = 0; l < 10; l++) {
            x.guess(l);
        }
        x.image(1);
        x.type('g');
        return x;
    }

    private static RefusedTest spent() {
        RefusedTest test = new RefusedTest("all letters guessed", RefusedTest::buildSpent);
        test.askAll();
        test.refuseNumbers(3);
        test.ask(7, "read()", HangedWords::read);
        for (int l = 0; l < 10; l++) {
            int letter = l;
            test.refuse(8, "guess(" + l + ")", x -> x.guess(letter), NO);
            test.refuse(14, "answer(" + l + ")", x -> x.answer(letter), NO);
        }
        test.refuse(33, "from(0)", x -> x.from(0), NO);
        return test;
    }

    private static RefusedTest faulty() {
        RefusedTest test = new RefusedTest("a text with a fault", () -> {
            HangedWords x = buildBusy();
            x.type('x');
            return x;
        });
        test.ask(7, "read()", HangedWords::read);
        return test;
    }

    private void ask(int promise, String call, ToLongFunction<HangedWords> makes) {
        calls.add(new Call(promise, call, makes, ANY));
    }

    /** All that only asks; of these none is refused in any state, but may answer none or not so many. */
    private void askAll() {
        for (int l = 0; l < 10; l++) {
            int letter = l;
            ask(15, "parts(" + l + ", 0)", x -> x.parts(letter, 0));
            ask(15, "parts(" + l + ", 1)", x -> x.parts(letter, 1));
            ask(35, "count(" + l + ")", x -> x.count(letter));
        }
        for (int k = 0; k < 6; k++) {
            int kind = k;
            ask(18, "next(" + k + ")", x -> x.next(kind));
            ask(19, "ends(" + k + ", 0)", x -> x.ends(kind, 0));
            ask(19, "ends(" + k + ", 1)", x -> x.ends(kind, 1));
            ask(30, "evenings(" + k + ", 10)", x -> x.evenings(kind, 10 * kind));
        }
        for (int k : new int[] {-1, 0, 35, 36, MAX}) {
            ask(22, "against(" + k + ")", x -> x.against(k));
        }
        for (int w = 0; w < 2; w++) {
            int what = w;
            ask(17, "surely(" + w + ")", x -> x.surely(what));
            ask(31, "part(" + w + ")", x -> x.part(what));
            ask(34, "status(" + w + ")", x -> x.status(what));
        }
        ask(16, "best()", HangedWords::best);
        ask(26, "is()", HangedWords::is);
        ask(27, "look()", HangedWords::look);
        ask(28, "kinds()", HangedWords::kinds);
        ask(29, "ask()", HangedWords::ask);
        ask(36, "digest()", HangedWords::digest);
    }

    private void refuse(int promise, String call, ToLongFunction<HangedWords> makes, long answer) {
        calls.add(new Call(promise, call, makes, answer));
    }

    /** Every number of every call, one below and one above what is told, and far from it. */
    private void refuseNumbers(int words) {
        for (int v : outside(5)) {
            refuse(2, "game(" + v + ")", x -> x.game(v), BAD);
            refuse(3, "holder(" + v + ")", x -> x.holder(v), BAD);
            refuse(18, "next(" + v + ")", x -> x.next(v), BAD);
            refuse(19, "ends(" + v + ", 0)", x -> x.ends(v, 0), BAD);
            refuse(19, "ends(" + v + ", 1)", x -> x.ends(v, 1), BAD);
            refuse(20, "mean(" + v + ")", x -> x.mean(v), BAD);
        }
        for (int v : outside(9)) {
            refuse(8, "guess(" + v + ")", x -> x.guess(v), BAD);
            refuse(14, "answer(" + v + ")", x -> x.answer(v), BAD);
            refuse(13, "mask(0, " + v + ")", x -> x.mask(0, v), BAD);
            refuse(15, "parts(" + v + ", 0)", x -> x.parts(v, 0), BAD);
            refuse(23, "note(1, " + v + ", 0, 0)", x -> x.note(1, v, 0, 0), BAD);
            refuse(23, "note(1, 0, " + v + ", 0)", x -> x.note(1, 0, v, 0), BAD);
            refuse(24, "mark(1, 0, " + v + ")", x -> x.mark(1, 0, v), BAD);
            refuse(35, "count(" + v + ")", x -> x.count(v), BAD);
        }
        for (int v : outside(1)) {
            refuse(12, "of(0, " + v + ")", x -> x.of(0, v), BAD);
            refuse(15, "parts(0, " + v + ")", x -> x.parts(0, v), BAD);
            refuse(17, "surely(" + v + ")", x -> x.surely(v), BAD);
            refuse(19, "ends(0, " + v + ")", x -> x.ends(0, v), BAD);
            refuse(25, "forget(" + v + ")", x -> x.forget(v), BAD);
            refuse(31, "part(" + v + ")", x -> x.part(v), BAD);
            refuse(32, "image(" + v + ")", x -> x.image(v), BAD);
            refuse(33, "from(" + v + ")", x -> x.from(v), BAD);
        }
        refuseOtherNumbers(words);
    }

    private void refuseOtherNumbers(int words) {
        for (int v : outside(words - 1)) {
            refuse(9, "secret(" + v + ")", x -> x.secret(v), BAD);
            refuse(12, "of(" + v + ", 0)", x -> x.of(v, 0), BAD);
            refuse(12, "of(" + v + ", 1)", x -> x.of(v, 1), BAD);
            refuse(13, "mask(" + v + ", 0)", x -> x.mask(v, 0), BAD);
        }
        for (int w : new int[] {0, 1 << words, -1, MIN, MAX, MIN + 1}) {
            refuse(23, "note(" + w + ", 0, 0, 0)", x -> x.note(w, 0, 0, 0), BAD);
            refuse(24, "mark(" + w + ", 0, 0)", x -> x.mark(w, 0, 0), BAD);
        }
        outside(9999).forEach(v -> refuse(4, "word(" + v + ")", x -> x.word(v), BAD));
        outside(127).forEach(v -> refuse(5, "type(" + v + ")", x -> x.type(v), BAD));
        outside(3).forEach(v -> refuse(21, "luck(" + v + ")", x -> x.luck(v), BAD));
        outside(15).forEach(v -> refuse(23, "note(1, 0, 0, " + v + ")", x -> x.note(1, 0, 0, v), BAD));
        outside(1023).forEach(v -> refuse(24, "mark(1, " + v + ", 0)", x -> x.mark(1, v, 0), BAD));
        outside(999999).forEach(v -> refuse(30, "evenings(" + v + ", 1)", x -> x.evenings(v, 1), BAD));
        outside(60).forEach(v -> refuse(30, "evenings(1, " + v + ")", x -> x.evenings(1, v), BAD));
        outside(2).forEach(v -> refuse(34, "status(" + v + ")", x -> x.status(v), -1));
        for (int v : new int[] {-2, -3, MIN}) {
            refuse(22, "against(" + v + ")", x -> x.against(v), -10);
        }
    }

    private static List<Integer> outside(int greatest) {
        return List.of(-1, greatest + 1, MIN, MAX);
    }

    // ---- an object beside its twin

    private void run() {
        for (Call call : calls) {
            dueOf(call);
            for (int way = 0; way < 5; way++) {
                besideTwin(call, way);
            }
        }
        allTogether();
    }

    private void dueOf(Call call) {
        HangedWords x = builds.get();
        if (call.answer != ANY) {
            checks.dueRefused(call.promise, call.name + " of " + name, x, call.makes, call.answer);
            return;
        }
        int bad = x.status(0);
        int no = x.status(1);
        int full = x.status(2);
        call.makes.applyAsLong(x);
        checks.dueStatus(call.promise, x, bad, no, full);
    }

    private void besideTwin(Call call, int way) {
        HangedWords x = builds.get();
        call.makes.applyAsLong(x);
        List<Long> got = told(x, way);
        List<Long> want = told(builds.get(), way);
        for (int i = 0; i < want.size(); i++) {
            checks.due(call.promise, "answer " + i + " of way " + way + " behind " + call.name + " of " + name,
                    got.get(i), want.get(i));
        }
    }

    /** Many refusals, one behind the other, as far as an object's calls reach. */
    private void allTogether() {
        HangedWords x = builds.get();
        long[] refused = {x.status(0), x.status(1), x.status(2)};
        List<Call> refusals = calls.stream().filter(call -> call.answer != ANY).toList();
        for (Call call : refusals.subList(0, Math.min(refusals.size(), 200))) {
            checks.due(call.promise, call.name + " among all of " + name, call.makes.applyAsLong(x), call.answer);
            refused[call.answer == NO ? 1 : call.answer == FULL ? 2 : 0]++;
        }
        for (int what = 0; what < 3; what++) {
            checks.due(34, "status(" + what + ") behind all of " + name, x.status(what), refused[what]);
        }
        checks.due(34, "digest() behind all of " + name, x.digest(), builds.get().digest());
    }

    private static List<Long> told(HangedWords x, int way) {
        List<Long> told = new ArrayList<>();
        switch (way) {
            case 0:
                tellAsItStands(x, told);
                break;
            case 1:
                tellUndone(x, told);
                break;
            case 2:
            case 3:
                told.add((long) x.from(way - 2));
                tellUndone(x, told);
                told.add((long) x.from(3 - way));
                tellUndone(x, told);
                break;
            default:
                told.add((long) x.read());
                tellUndone(x, told);
                told.add((long) x.clear());
                break;
        }
        return told;
    }

    private static void tellAsItStands(HangedWords x, List<Long> told) {
        told.add(x.digest());
        told.add((long) x.is());
        told.add((long) x.look());
        told.add((long) x.kinds());
        told.add((long) x.ask());
        told.add((long) x.best());
        told.add((long) x.surely(0));
        told.add((long) x.surely(1));
        told.add((long) x.against(-1));
        told.add((long) x.evenings(7, 9));
        for (int l = 0; l < 10; l++) {
            told.add((long) x.answer(l));
            told.add((long) x.mask(0, l));
        }
        for (int w = 0; w < 8; w++) {
            told.add((long) x.of(w, 0));
            told.add((long) x.of(w, 1));
        }
        for (int kind = 0; kind < 6; kind++) {
            told.add((long) x.next(kind));
            told.add((long) x.ends(kind, 1));
        }
    }

    private static void tellUndone(HangedWords x, List<Long> told) {
        for (int i = 0; i < 9; i++) {
            told.add(x.digest());
            told.add((long) x.undo());
        }
    }
}
