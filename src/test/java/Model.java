import java.util.ArrayDeque;
import java.util.ArrayList;
import java.util.Arrays;
import java.util.Comparator;
import java.util.HashMap;
import java.util.List;
import java.util.Map;
import java.util.TreeMap;
import java.util.TreeSet;
import java.util.regex.Matcher;
import java.util.regex.Pattern;

/** The document written down a second time, as slowly and plainly as it goes, to be asked beside the class. */
final class Model {
    /** All that an image keeps. */
    private static final class State {
        List<String> words = new ArrayList<>();
        int kind = 0;
        int secret = 0;
        TreeSet<Integer> left = new TreeSet<>();
        TreeSet<Integer> guessed = new TreeSet<>();
        int wrong = 0;
        List<int[]> notes = new ArrayList<>();
        List<int[]> marks = new ArrayList<>();
        ArrayDeque<State> past = new ArrayDeque<>();

        State copy() {
            State s = new State();
            s.words = new ArrayList<>(words);
            s.kind = kind;
            s.secret = secret;
            s.left = new TreeSet<>(left);
            s.guessed = new TreeSet<>(guessed);
            s.wrong = wrong;
            s.notes = new ArrayList<>(notes);
            s.marks = new ArrayList<>(marks);
            s.past = new ArrayDeque<>(past);
            return s;
        }

        void anew() {
            left.clear();
            for (int w = 0; w < words.size(); w++) {
                left.add(w);
            }
            guessed.clear();
            wrong = 0;
        }

        void put(int letter, int mask) {
            left.removeIf(w -> maskIn(words.get(w), letter) != mask);
            guessed.add(letter);
            wrong += mask == 0 ? 1 : 0;
        }
    }

    private State s = new State();
    private final State[] images = new State[2];
    private String text = "";
    private long above = 0;
    private long below = 1;
    private final long[] refused = new long[3];

    private long bad() {
        refused[0]++;
        return -2;
    }

    private long no() {
        refused[1]++;
        return -3;
    }

    private long full() {
        refused[2]++;
        return -4;
    }

    private static boolean in(long v, long least, long greatest) {
        return least <= v && v <= greatest;
    }

    private static int maskIn(String word, int letter) {
        int mask = 0;
        for (int p = 0; p < 4; p++) {
            if (word.charAt(p) - '0' == letter) {
                mask += 1 << p;
            }
        }
        return mask;
    }

    private static TreeSet<Integer> setOf(int bits) {
        TreeSet<Integer> set = new TreeSet<>();
        for (int i = 0; i < 31; i++) {
            if ((bits & 1 << i) != 0) {
                set.add(i);
            }
        }
        return set;
    }

    private static int bitsOf(Iterable<Integer> set) {
        int bits = 0;
        for (int i : set) {
            bits += 1 << i;
        }
        return bits;
    }

    // ---- kinds

    private TreeMap<Integer, Integer> masksAmong(TreeSet<Integer> left, int letter) {
        TreeMap<Integer, Integer> sizes = new TreeMap<>();
        for (int w : left) {
            sizes.merge(maskIn(s.words.get(w), letter), 1, Integer::sum);
        }
        return sizes;
    }

    private int holderSays(int kind, TreeSet<Integer> left, int guesses, int letter, int secret) {
        int kept = left.contains(secret) ? secret : left.first();
        int keptMask = maskIn(s.words.get(kept), letter);
        TreeMap<Integer, Integer> sizes = masksAmong(left, letter);
        int slippery = sizes.entrySet().stream()
                .max(Comparator.comparing((Map.Entry<Integer, Integer> e) -> e.getValue()).thenComparing(e -> -e.getKey()))
                .get().getKey();
        int mean = sizes.containsKey(0) ? 0 : slippery;
        int mild = sizes.keySet().stream()
                .max(Comparator.comparing((Integer m) -> setOf(m).size()).thenComparing(m -> m)).get();
        int moody = guesses % 2 == 1 ? mean : keptMask;
        int stubborn = sizes.get(keptMask) >= left.size() / 2.0 ? keptMask : slippery;
        return new int[] {keptMask, slippery, mean, mild, moody, stubborn}[kind];
    }

    private int guesserSays(int kind, TreeSet<Integer> left, TreeSet<Integer> guessed) {
        List<Integer> open = new ArrayList<>();
        int[] having = new int[10];
        for (int l = 0; l < 10; l++) {
            if (!guessed.contains(l)) {
                open.add(l);
            }
            for (int w : left) {
                having[l] += s.words.get(w).indexOf('0' + l) >= 0 ? 1 : 0;
            }
        }
        if (open.isEmpty()) {
            return -1;
        }
        int often = open.stream().min(Comparator.comparing((Integer l) -> -having[l]).thenComparing(l -> l)).get();
        int sure = open.stream().filter(l -> having[l] == left.size()).findFirst().orElse(often);
        int half = open.stream().min(Comparator
                .comparing((Integer l) -> Math.abs(2 * having[l] - left.size())).thenComparing(l -> l)).get();
        int first = often;
        if (!left.isEmpty()) {
            int letter = s.words.get(left.first()).charAt(0) - '0';
            first = guessed.contains(letter) ? often : letter;
        }
        return new int[] {open.get(0), often, sure, half, open.get(open.size() - 1), first}[kind];
    }

    private int[] played(State from, int guesser, int holder, int secret) {
        State g = from.copy();
        int guesses = 0;
        while (g.left.size() > 1) {
            int l = guesserSays(guesser, g.left, g.guessed);
            g.put(l, holderSays(holder, g.left, g.guessed.size(), l, secret));
            guesses++;
        }
        return new int[] {g.wrong - from.wrong, guesses};
    }

    private void put(long a, long b) {
        long x = a;
        long y = b;
        while (y != 0) {
            long r = x % y;
            x = y;
            y = r;
        }
        above = b == 0 ? 0 : a / x;
        below = b == 0 ? 1 : b / x;
    }

    // ---- a game

    long game(int kind) {
        if (!in(kind, 0, 5)) {
            return bad();
        }
        int before = s.words.size();
        s = new State();
        s.kind = kind;
        return before;
    }

    long holder(int kind) {
        if (!in(kind, 0, 5)) {
            return bad();
        }
        int before = s.kind;
        s.kind = kind;
        s.past.clear();
        return before;
    }

    long word(int code) {
        if (!in(code, 0, 9999)) {
            return bad();
        }
        String letters = String.format("%04d", code);
        if (s.words.contains(letters)) {
            return no();
        }
        if (s.words.size() == 8) {
            return full();
        }
        s.words.add(letters);
        s.anew();
        s.past.clear();
        return s.words.size() - 1;
    }

    long type(int c) {
        if (!in(c, 0, 127)) {
            return bad();
        }
        if (text.length() == 150) {
            return full();
        }
        text += (char) c;
        return text.length();
    }

    long clear() {
        int before = text.length();
        text = "";
        return before;
    }

    /** Tokens first, each with its place, then the items; the end is a token, too. */
    long read() {
        List<String> tokens = new ArrayList<>();
        List<Integer> places = new ArrayList<>();
        Matcher m = Pattern.compile("[a-z]+|[0-9]+|[^ ]", Pattern.DOTALL).matcher(text);
        while (m.find()) {
            tokens.add(m.group());
            places.add(m.start());
        }
        places.add(text.length());
        State before = s;
        s = new State();
        int[] at = {0};
        int items = 0;
        boolean fine = !tokens.isEmpty();
        while (fine && at[0] < tokens.size()) {
            fine = readItem(tokens, at, items == 0);
            items++;
        }
        if (!fine) {
            s = before;
            return -10 - places.get(Math.min(at[0], tokens.size()));
        }
        s.past.clear();
        return items;
    }

    private boolean readItem(List<String> tokens, int[] at, boolean first) {
        String name = tokens.get(at[0]);
        boolean stands = first == name.equals("game") && Arrays.asList("game", "word", "secret", "guess").contains(name);
        if (name.equals("word") && (s.words.size() == 8 || !s.guessed.isEmpty())) {
            stands = false;
        }
        if (!stands) {
            return false;
        }
        at[0]++;
        String letters = "";
        for (int i = 0; i < (name.equals("word") ? 4 : 1); i++) {
            String token = at[0] < tokens.size() ? tokens.get(at[0]) : "";
            if (!token.matches("[0-9][0-9]?")) {
                return false;
            }
            int number = Integer.parseInt(token);
            letters += number;
            boolean told = name.equals("game") ? number <= 5
                    : name.equals("secret") ? number < s.words.size()
                    : name.equals("guess") ? number <= 9 && !s.guessed.contains(number) && !s.words.isEmpty()
                    : number <= 9 && !(i == 3 && s.words.contains(letters));
            if (!told) {
                return false;
            }
            at[0]++;
        }
        if (at[0] >= tokens.size() || !tokens.get(at[0]).equals(";")) {
            return false;
        }
        at[0]++;
        take(name, letters);
        return true;
    }

    private void take(String name, String letters) {
        int number = Integer.parseInt(letters);
        if (name.equals("game")) {
            s.kind = number;
        } else if (name.equals("word")) {
            s.words.add(letters);
            s.anew();
        } else if (name.equals("secret")) {
            s.secret = number;
        } else {
            s.put(number, holderSays(s.kind, s.left, s.guessed.size(), number, s.secret));
        }
    }

    // ---- guesses

    private void remember() {
        State then = s.copy();
        then.past.clear();
        s.past.addLast(then);
        if (s.past.size() > 8) {
            s.past.removeFirst();
        }
    }

    long guess(int l) {
        if (!in(l, 0, 9)) {
            return bad();
        }
        if (s.guessed.contains(l) || s.left.isEmpty()) {
            return no();
        }
        int mask = holderSays(s.kind, s.left, s.guessed.size(), l, s.secret);
        remember();
        s.put(l, mask);
        return mask;
    }

    long secret(int w) {
        if (!in(w, 0, s.words.size() - 1)) {
            return bad();
        }
        if (s.secret == w) {
            return no();
        }
        int before = s.secret;
        remember();
        s.secret = w;
        return before;
    }

    long anew() {
        int before = s.wrong;
        remember();
        s.anew();
        return before;
    }

    long undo() {
        if (s.past.isEmpty()) {
            return no();
        }
        State then = s.past.removeLast();
        s.guessed = new TreeSet<>(then.guessed);
        s.left = new TreeSet<>(then.left);
        s.wrong = then.wrong;
        s.secret = then.secret;
        return s.wrong;
    }

    long of(int w, int what) {
        if (!in(w, 0, s.words.size() - 1) || !in(what, 0, 1)) {
            return bad();
        }
        return what == 0 ? Integer.parseInt(s.words.get(w)) : s.left.contains(w) ? 1 : 0;
    }

    long mask(int w, int l) {
        if (!in(w, 0, s.words.size() - 1) || !in(l, 0, 9)) {
            return bad();
        }
        return maskIn(s.words.get(w), l);
    }

    long answer(int l) {
        if (!in(l, 0, 9)) {
            return bad();
        }
        if (s.guessed.contains(l) || s.left.isEmpty()) {
            return no();
        }
        return holderSays(s.kind, s.left, s.guessed.size(), l, s.secret);
    }

    // ---- what is best

    long parts(int l, int what) {
        if (!in(l, 0, 9) || !in(what, 0, 1)) {
            return bad();
        }
        TreeMap<Integer, Integer> sizes = masksAmong(s.left, l);
        return what == 0 ? sizes.size() : sizes.values().stream().mapToInt(i -> i).max().orElse(0);
    }

    long best() {
        long found = -1;
        long fewest = 99;
        for (int l = 0; l < 10; l++) {
            long greatest = parts(l, 1);
            if (!s.guessed.contains(l) && greatest < fewest) {
                found = l;
                fewest = greatest;
            }
        }
        return found;
    }

    /** With every letter that is open, parting or not, so that leaving out the others is looked at, too. */
    private int fewest(TreeSet<Integer> left, TreeSet<Integer> guessed, Map<String, Integer> known) {
        if (left.size() <= 1) {
            return 0;
        }
        String key = left + "" + guessed;
        if (!known.containsKey(key)) {
            int least = 99;
            for (int l = 0; l < 10; l++) {
                if (!guessed.contains(l)) {
                    least = Math.min(least, worst(left, guessed, l, known));
                }
            }
            known.put(key, least);
        }
        return known.get(key);
    }

    private int worst(TreeSet<Integer> left, TreeSet<Integer> guessed, int l, Map<String, Integer> known) {
        TreeSet<Integer> then = new TreeSet<>(guessed);
        then.add(l);
        int worst = 0;
        for (int mask : masksAmong(left, l).keySet()) {
            TreeSet<Integer> part = new TreeSet<>(left);
            part.removeIf(w -> maskIn(s.words.get(w), l) != mask);
            worst = Math.max(worst, fewest(part, then, known) + (mask == 0 ? 1 : 0));
        }
        return worst;
    }

    long surely(int what) {
        if (!in(what, 0, 1)) {
            return bad();
        }
        Map<String, Integer> known = new HashMap<>();
        int fewest = fewest(s.left, s.guessed, known);
        if (what == 0) {
            return fewest;
        }
        for (int l = 0; l < 10 && s.left.size() > 1; l++) {
            boolean parts = masksAmong(s.left, l).size() > 1;
            if (!s.guessed.contains(l) && parts && worst(s.left, s.guessed, l, known) == fewest) {
                return l;
            }
        }
        return -1;
    }

    long next(int kind) {
        return in(kind, 0, 5) ? guesserSays(kind, s.left, s.guessed) : bad();
    }

    long ends(int kind, int what) {
        return in(kind, 0, 5) && in(what, 0, 1) ? played(s, kind, s.kind, s.secret)[what] : bad();
    }

    long mean(int kind) {
        if (!in(kind, 0, 5)) {
            return bad();
        }
        int together = 0;
        for (int w : s.left) {
            together += played(s, kind, 0, w)[0];
        }
        put(together, s.left.size());
        return 1;
    }

    /** Rows of letters, each guessed in its order. */
    private long[] rows(State from, int n) {
        if (n == 0 || from.guessed.size() == 10) {
            return new long[] {from.left.size() <= 1 ? 1 : 0, 1};
        }
        long[] together = {0, 0};
        for (int l = 0; l < 10; l++) {
            if (!from.guessed.contains(l)) {
                State then = from.copy();
                if (then.left.isEmpty()) {
                    then.guessed.add(l);
                } else {
                    then.put(l, holderSays(0, then.left, then.guessed.size(), l, s.secret));
                }
                long[] some = rows(then, n - 1);
                together[0] += some[0];
                together[1] += some[1];
            }
        }
        return together;
    }

    long luck(int n) {
        if (!in(n, 0, 3)) {
            return bad();
        }
        long[] chance = rows(s, n);
        put(chance[0], chance[1]);
        return 1;
    }

    long against(int k) {
        if (k < -1) {
            bad();
            return -10;
        }
        int[][] wrong = new int[6][6];
        for (int i = 0; i < 6; i++) {
            for (int j = 0; j < 6; j++) {
                wrong[i][j] = played(s, i, j, s.secret)[0];
            }
        }
        List<Integer> rest = new ArrayList<>();
        for (int pair = 0; pair < 60; pair++) {
            int i = pair / 10;
            int j = pair % 10;
            if (j < 6) {
                int least = Integer.MAX_VALUE;
                for (int other = 0; other < 6; other++) {
                    least = Math.min(least, wrong[other][j]);
                }
                if (wrong[i][j] == least && wrong[i][j] == Arrays.stream(wrong[i]).max().getAsInt()) {
                    rest.add(pair);
                }
            }
        }
        return k == -1 ? rest.size() : k < rest.size() ? rest.get(k) : -5;
    }

    // ---- who it is

    private boolean words(int w) {
        return w >= 1 && w < Math.pow(2, s.words.size());
    }

    long note(int w, int g, int l, int x) {
        if (!words(w) || !in(g, 0, 9) || !in(l, 0, 9) || !in(x, 0, 15)) {
            return bad();
        }
        if (s.notes.size() == 6) {
            return full();
        }
        s.notes.add(new int[] {w, g, l, x});
        return s.notes.size();
    }

    long mark(int w, int g, int l) {
        if (!words(w) || !in(g, 0, 1023) || !in(l, 0, 9)) {
            return bad();
        }
        if (s.marks.size() == 6) {
            return full();
        }
        s.marks.add(new int[] {w, g, l});
        return s.marks.size();
    }

    long forget(int what) {
        if (!in(what, 0, 1)) {
            return bad();
        }
        List<int[]> rows = what == 0 ? s.notes : s.marks;
        int before = rows.size();
        rows.clear();
        return before;
    }

    long is() {
        int kinds = 63;
        for (int k = 0; k < 6; k++) {
            for (int[] n : s.notes) {
                if (holderSays(k, setOf(n[0]), n[1], n[2], s.secret) != n[3]) {
                    kinds &= ~(1 << k);
                }
            }
        }
        return kinds;
    }

    private static int mostAlike(List<Integer> said) {
        Map<Integer, Integer> sizes = new HashMap<>();
        said.forEach(v -> sizes.merge(v, 1, Integer::sum));
        return sizes.values().stream().mapToInt(i -> i).max().getAsInt();
    }

    long look() {
        TreeSet<Integer> kinds = setOf((int) is());
        long found = -1;
        int fewest = 99;
        for (int l = 0; l < 10 && !kinds.isEmpty() && !s.left.isEmpty(); l++) {
            List<Integer> said = new ArrayList<>();
            for (int k : kinds) {
                said.add(holderSays(k, s.left, s.guessed.size(), l, s.secret));
            }
            if (mostAlike(said) < fewest) {
                fewest = mostAlike(said);
                found = l;
            }
        }
        return found;
    }

    long kinds() {
        int kinds = 63;
        for (int k = 0; k < 6; k++) {
            for (int[] m : s.marks) {
                if (guesserSays(k, setOf(m[0]), setOf(m[1])) != m[2]) {
                    kinds &= ~(1 << k);
                }
            }
        }
        return kinds;
    }

    long ask() {
        TreeSet<Integer> kinds = setOf((int) kinds());
        long found = -1;
        int fewest = 99;
        for (int set = 1; words(set) && !kinds.isEmpty(); set++) {
            List<Integer> said = new ArrayList<>();
            for (int k : kinds) {
                said.add(guesserSays(k, setOf(set), s.guessed));
            }
            if (mostAlike(said) < fewest) {
                fewest = mostAlike(said);
                found = set;
            }
        }
        return found;
    }

    long evenings(int seed, int n) {
        if (!in(seed, 0, 999999) || !in(n, 0, 60)) {
            return bad();
        }
        long x = seed;
        long together = 0;
        for (int i = 0; i < n && !s.words.isEmpty(); i++) {
            x = Math.floorMod(x * 1103515245L + 12345L, 1L << 31);
            State g = s.copy();
            g.anew();
            together += played(g, (int) ((x >> 20) % 6), s.kind, (int) ((x >> 16) % s.words.size()))[0];
        }
        return together;
    }

    // ---- what there is

    long part(int what) {
        return in(what, 0, 1) ? what == 0 ? above : below : bad();
    }

    long image(int i) {
        if (!in(i, 0, 1)) {
            return bad();
        }
        images[i] = s.copy();
        return 1;
    }

    long from(int i) {
        if (!in(i, 0, 1)) {
            return bad();
        }
        if (images[i] == null) {
            return no();
        }
        s = images[i].copy();
        return 1;
    }

    long status(int what) {
        if (!in(what, 0, 2)) {
            bad();
            return -1;
        }
        return refused[what];
    }

    private long[] counts() {
        return new long[] {s.words.size(), s.left.size(), s.guessed.size(), s.wrong, s.secret, s.kind,
            s.notes.size(), s.marks.size(), s.past.size(), text.length()};
    }

    long count(int what) {
        return in(what, 0, 9) ? counts()[what] : bad();
    }

    long digest() {
        List<Long> values = new ArrayList<>();
        Arrays.stream(counts()).forEach(values::add);
        s.words.forEach(w -> values.add(Long.parseLong(w)));
        values.add((long) bitsOf(s.left));
        values.add((long) bitsOf(s.guessed));
        s.notes.forEach(n -> Arrays.stream(n).forEach(v -> values.add((long) v)));
        s.marks.forEach(m -> Arrays.stream(m).forEach(v -> values.add((long) v)));
        values.add(above);
        values.add(below);
        long h = 1823;
        for (long v : values) {
            h = 31 * h + v;
        }
        return h;
    }
}
