/** Hangman with holders and guessers of six kinds each; every answer is told by the project's document. */
public final class HangedWords {
    public static final int NONE = -1, BAD = -2, NO = -3, FULL = -4;

    private static final int LETTERS = 10;
    private static final int ALL_LETTERS = 1023;
    private static final int PLACES = 4;
    private static final int MASKS = 16;
    private static final int CODES = 10000;
    private static final int MOST_WORDS = 8;
    private static final int SETS_OF_WORDS = 256;
    private static final int KINDS = 6;
    private static final int MOST_NOTES = 6;
    private static final int MOST_MARKS = 6;
    private static final int MOST_UNDONE = 8;
    private static final int MOST_BYTES = 150;
    private static final int BYTES = 128;
    private static final int IMAGES = 2;
    private static final int MOST_LUCK = 3;
    private static final int SEEDS = 1000000;
    private static final int MOST_EVENINGS = 60;
    private static final int READ_FAULT = -10;
    private static final int NOT_SO_MANY = -5;
    private static final int BAD_PAIR = -10;
    private static final int COUNTS = 10;

    private final Table table = new Table();
    /** An image is null until it is kept for the first time. */
    private final Table[] images = new Table[IMAGES];
    private final Reader reader = new Reader();
    private final Fraction fraction = new Fraction();
    private final Sureness sureness = new Sureness();
    /** A game played on beside the one that stands, so that looking ahead changes nothing. */
    private final Game trial = new Game();
    private final int[] wrongOfPairs = new int[KINDS * KINDS];
    private final int[] saidByKind = new int[KINDS];
    private int refusedBad;
    private int refusedNo;
    private int refusedFull;

    public HangedWords() {
    }

    // ---- a game

    public int game(int kind) {
        if (!isBelow(kind, KINDS)) {
            return refuseBad();
        }
        int before = table.words.size;
        table.reset(kind);
        return before;
    }

    public int holder(int kind) {
        if (!isBelow(kind, KINDS)) {
            return refuseBad();
        }
        int before = table.kind;
        table.kind = kind;
        table.past.size = 0;
        return before;
    }

    public int word(int code) {
        if (!isBelow(code, CODES)) {
            return refuseBad();
        }
        if (table.words.numberOf(code) != NONE) {
            return refuseNo();
        }
        if (table.words.size >= MOST_WORDS) {
            return refuseFull();
        }
        table.addWord(code);
        return table.words.size - 1;
    }

    public int type(int c) {
        if (!isBelow(c, BYTES)) {
            return refuseBad();
        }
        if (reader.text.size >= MOST_BYTES) {
            return refuseFull();
        }
        reader.text.add(c);
        return reader.text.size;
    }

    public int clear() {
        int before = reader.text.size;
        reader.text.size = 0;
        return before;
    }

    public int read() {
        int items = reader.readItems();
        if (items == 0) {
            return READ_FAULT - reader.text.place;
        }
        table.copyFrom(reader.draft);
        return items;
    }

    // ---- guesses

    public int guess(int l) {
        if (!isBelow(l, LETTERS)) {
            return refuseBad();
        }
        if (!table.game.isOpen(l)) {
            return refuseNo();
        }
        table.remember();
        return table.takeGuess(l);
    }

    public int secret(int w) {
        if (!isBelow(w, table.words.size)) {
            return refuseBad();
        }
        if (w == table.secret) {
            return refuseNo();
        }
        int before = table.secret;
        table.remember();
        table.secret = w;
        return before;
    }

    public int anew() {
        int before = table.game.wrong;
        table.remember();
        table.game.begin(table.words.all());
        return before;
    }

    public int undo() {
        if (table.past.size == 0) {
            return refuseNo();
        }
        table.goBack();
        return table.game.wrong;
    }

    public int of(int w, int what) {
        if (!isBelow(w, table.words.size) || !isBelow(what, 2)) {
            return refuseBad();
        }
        return what == 0 ? table.words.codeOf(w) : (table.game.left >> w & 1);
    }

    public int mask(int w, int l) {
        if (!isBelow(w, table.words.size) || !isBelow(l, LETTERS)) {
            return refuseBad();
        }
        return table.words.maskOf(w, l);
    }

    public int answer(int l) {
        if (!isBelow(l, LETTERS)) {
            return refuseBad();
        }
        if (!table.game.isOpen(l)) {
            return refuseNo();
        }
        return replyNow(table.kind, l);
    }

    // ---- what is best

    public int parts(int l, int what) {
        if (!isBelow(l, LETTERS) || !isBelow(what, 2)) {
            return refuseBad();
        }
        int left = table.game.left;
        return what == 0 ? table.words.unlikeMasks(left, l) : table.words.greatestPart(left, l);
    }

    public int best() {
        int found = NONE;
        int fewest = MOST_WORDS + 1;
        for (int l = 0; l < LETTERS; l++) {
            int greatest = table.words.greatestPart(table.game.left, l);
            if ((table.game.guessed >> l & 1) == 0 && greatest < fewest) {
                found = l;
                fewest = greatest;
            }
        }
        return found;
    }

    public int surely(int what) {
        if (!isBelow(what, 2)) {
            return refuseBad();
        }
        int left = table.game.left;
        sureness.reckon(table.words, left);
        return what == 0 ? sureness.fewestOf(left) : sureness.firstLetter(table.words, left);
    }

    public int next(int kind) {
        if (!isBelow(kind, KINDS)) {
            return refuseBad();
        }
        return Guessers.choice(kind, table.words, table.game.left, table.game.guessed);
    }

    public int ends(int kind, int what) {
        if (!isBelow(kind, KINDS) || !isBelow(what, 2)) {
            return refuseBad();
        }
        trial.copyFrom(table.game);
        int wrongMore = trial.playOn(table.words, kind, table.kind, table.secret);
        return what == 0 ? wrongMore : trial.guesses() - table.game.guesses();
    }

    public int mean(int kind) {
        if (!isBelow(kind, KINDS)) {
            return refuseBad();
        }
        int left = table.game.left;
        int together = 0;
        for (int w = 0; w < MOST_WORDS; w++) {
            if ((left >> w & 1) != 0) {
                trial.copyFrom(table.game);
                together += trial.playOn(table.words, kind, Holders.HONEST, w);
            }
        }
        fraction.put(together, Integer.bitCount(left));
        return 1;
    }

    public int luck(int n) {
        if (!isBelow(n, MOST_LUCK + 1)) {
            return refuseBad();
        }
        int guessed = table.game.guessed;
        int drawn = Math.min(n, LETTERS - Integer.bitCount(guessed));
        int lucky = 0;
        int together = 0;
        // An honest holder's answers don't hang on their order, so sets of letters stand for rows.
        for (int letters = 0; letters <= ALL_LETTERS; letters++) {
            if ((letters & guessed) == 0 && Integer.bitCount(letters) == drawn) {
                together++;
                lucky += Integer.bitCount(leftByHonest(letters)) <= 1 ? 1 : 0;
            }
        }
        fraction.put(lucky, together);
        return 1;
    }

    public int against(int k) {
        if (k < NONE) {
            refuseBad();
            return BAD_PAIR;
        }
        reckonPairs();
        int found = 0;
        for (int i = 0; i < KINDS; i++) {
            for (int j = 0; j < KINDS; j++) {
                if (pairRests(i, j)) {
                    if (found == k) {
                        return 10 * i + j;
                    }
                    found++;
                }
            }
        }
        return k == NONE ? found : NOT_SO_MANY;
    }

    // ---- who it is

    public int note(int w, int g, int l, int x) {
        boolean told = isSetOfWords(w) && isBelow(g, LETTERS) && isBelow(l, LETTERS) && isBelow(x, MASKS);
        if (!told) {
            return refuseBad();
        }
        if (table.notes.isFull()) {
            return refuseFull();
        }
        table.notes.add(w, g, l, x);
        return table.notes.size;
    }

    public int mark(int w, int g, int l) {
        boolean told = isSetOfWords(w) && isBelow(g, ALL_LETTERS + 1) && isBelow(l, LETTERS);
        if (!told) {
            return refuseBad();
        }
        if (table.marks.isFull()) {
            return refuseFull();
        }
        table.marks.add(w, g, l, 0);
        return table.marks.size;
    }

    public int forget(int what) {
        if (!isBelow(what, 2)) {
            return refuseBad();
        }
        Rows rows = what == 0 ? table.notes : table.marks;
        int before = rows.size;
        rows.size = 0;
        return before;
    }

    public int is() {
        return fittingHolders();
    }

    public int look() {
        int fitting = fittingHolders();
        if (fitting == 0 || table.game.left == 0) {
            return NONE;
        }
        int found = NONE;
        int fewest = KINDS + 1;
        for (int l = 0; l < LETTERS; l++) {
            for (int kind = 0; kind < KINDS; kind++) {
                saidByKind[kind] = replyNow(kind, l);
            }
            int most = mostAlike(fitting);
            if (most < fewest) {
                found = l;
                fewest = most;
            }
        }
        return found;
    }

    public int kinds() {
        return fittingGuessers();
    }

    public int ask() {
        int fitting = fittingGuessers();
        if (fitting == 0) {
            return NONE;
        }
        int found = NONE;
        int fewest = KINDS + 1;
        for (int set = 1; set <= table.words.all(); set++) {
            for (int kind = 0; kind < KINDS; kind++) {
                saidByKind[kind] = Guessers.choice(kind, table.words, set, table.game.guessed);
            }
            int most = mostAlike(fitting);
            if (most < fewest) {
                found = set;
                fewest = most;
            }
        }
        return found;
    }

    public int evenings(int seed, int n) {
        if (!isBelow(seed, SEEDS) || !isBelow(n, MOST_EVENINGS + 1)) {
            return refuseBad();
        }
        int size = table.words.size;
        if (size == 0) {
            return 0;
        }
        int together = 0;
        long x = seed;
        for (int evening = 0; evening < n; evening++) {
            x = (x * 1103515245L + 12345L) % 2147483648L;
            int word = (int) (x / 65536L % size);
            int kind = (int) (x / 1048576L % KINDS);
            trial.begin(table.words.all());
            together += trial.playOn(table.words, kind, table.kind, word);
        }
        return together;
    }

    // ---- what there is

    public long part(int what) {
        if (!isBelow(what, 2)) {
            return refuseBad();
        }
        return what == 0 ? fraction.above : fraction.below;
    }

    public int image(int i) {
        if (!isBelow(i, IMAGES)) {
            return refuseBad();
        }
        Table kept = images[i];
        if (kept == null) {
            kept = new Table();
            images[i] = kept;
        }
        kept.copyFrom(table);
        return 1;
    }

    public int from(int i) {
        if (!isBelow(i, IMAGES)) {
            return refuseBad();
        }
        Table kept = images[i];
        if (kept == null) {
            return refuseNo();
        }
        table.copyFrom(kept);
        return 1;
    }

    public int status(int what) {
        switch (what) {
            case 0:
                return refusedBad;
            case 1:
                return refusedNo;
            case 2:
                return refusedFull;
            default:
                refuseBad();
                return -1;
        }
    }

    public int count(int what) {
        return isBelow(what, COUNTS) ? howMany(what) : refuseBad();
    }

    public long digest() {
        long h = 1823;
        for (int what = 0; what < COUNTS; what++) {
            h = 31 * h + howMany(what);
        }
        for (int w = 0; w < table.words.size; w++) {
            h = 31 * h + table.words.codeOf(w);
        }
        h = 31 * h + table.game.left;
        h = 31 * h + table.game.guessed;
        h = table.notes.digestOn(h, 4);
        h = table.marks.digestOn(h, 3);
        h = 31 * h + fraction.above;
        return 31 * h + fraction.below;
    }

    // ---- helpers of the calls above

    private static boolean isBelow(int number, int limit) {
        return number >= 0 && number < limit;
    }

    private boolean isSetOfWords(int w) {
        return w >= 1 && w <= table.words.all();
    }

    private int refuseBad() {
        refusedBad++;
        return BAD;
    }

    private int refuseNo() {
        refusedNo++;
        return NO;
    }

    private int refuseFull() {
        refusedFull++;
        return FULL;
    }

    private int howMany(int what) {
        switch (what) {
            case 0:
                return table.words.size;
            case 1:
                return Integer.bitCount(table.game.left);
            case 2:
                return table.game.guesses();
            case 3:
                return table.game.wrong;
            case 4:
                return table.secret;
            case 5:
                return table.kind;
            case 6:
                return table.notes.size;
            case 7:
                return table.marks.size;
            case 8:
                return table.past.size;
            default:
                return reader.text.size;
        }
    }

    private int replyNow(int kind, int letter) {
        return Holders.reply(kind, table.words, table.secret, table.game.left, table.game.guesses(), letter);
    }

    private int leftByHonest(int letters) {
        int left = table.game.left;
        int kept = Holders.keptOf(table.secret, left);
        for (int l = 0; l < LETTERS; l++) {
            if ((letters >> l & 1) != 0) {
                left &= table.words.alikeTo(kept, l);
            }
        }
        return left;
    }

    private void reckonPairs() {
        for (int i = 0; i < KINDS; i++) {
            for (int j = 0; j < KINDS; j++) {
                trial.copyFrom(table.game);
                wrongOfPairs[i * KINDS + j] = trial.playOn(table.words, i, j, table.secret);
            }
        }
    }

    private boolean pairRests(int i, int j) {
        int wrong = wrongOfPairs[i * KINDS + j];
        for (int other = 0; other < KINDS; other++) {
            if (wrongOfPairs[other * KINDS + j] < wrong || wrongOfPairs[i * KINDS + other] > wrong) {
                return false;
            }
        }
        return true;
    }

    private int fittingHolders() {
        int fitting = 0;
        for (int kind = 0; kind < KINDS; kind++) {
            if (allNotesFit(kind)) {
                fitting |= 1 << kind;
            }
        }
        return fitting;
    }

    private boolean allNotesFit(int kind) {
        Rows notes = table.notes;
        for (int i = 0; i < notes.size; i++) {
            int reply = Holders.reply(kind, table.words, table.secret,
                    notes.cell(i, 0), notes.cell(i, 1), notes.cell(i, 2));
            if (reply != notes.cell(i, 3)) {
                return false;
            }
        }
        return true;
    }

    private int fittingGuessers() {
        int fitting = 0;
        for (int kind = 0; kind < KINDS; kind++) {
            if (allMarksFit(kind)) {
                fitting |= 1 << kind;
            }
        }
        return fitting;
    }

    private boolean allMarksFit(int kind) {
        Rows marks = table.marks;
        for (int i = 0; i < marks.size; i++) {
            if (Guessers.choice(kind, table.words, marks.cell(i, 0), marks.cell(i, 1)) != marks.cell(i, 2)) {
                return false;
            }
        }
        return true;
    }

    /** How many of these kinds say the same, at most, by what each of them is known to say. */
    private int mostAlike(int kinds) {
        int most = 0;
        for (int kind = 0; kind < KINDS; kind++) {
            int alike = 0;
            for (int other = 0; other < KINDS; other++) {
                if ((kinds >> other & 1) != 0 && saidByKind[other] == saidByKind[kind]) {
                    alike++;
                }
            }
            most = Math.max(most, alike);
        }
        return most;
    }

    /** What holders answer; each kind falls back on the one that it stands under. Some word must be left. */
    private static final class Holders {
        static final int HONEST = 0;
        private static final int SLIPPERY = 1;
        private static final int MEAN = 2;
        private static final int MILD = 3;
        private static final int MOODY = 4;
        private static final int STUBBORN = 5;

        static int reply(int kind, Words words, int secret, int left, int guesses, int letter) {
            int kept = keptOf(secret, left);
            switch (moodOf(kind, guesses)) {
                case SLIPPERY:
                    return words.commonestMask(left, letter);
                case MEAN:
                    return words.isLacking(left, letter) ? 0 : words.commonestMask(left, letter);
                case MILD:
                    return words.fullestMask(left, letter);
                case STUBBORN:
                    return halfAreLike(words, kept, left, letter)
                            ? words.maskOf(kept, letter) : words.commonestMask(left, letter);
                default:
                    return words.maskOf(kept, letter);
            }
        }

        private static boolean halfAreLike(Words words, int kept, int left, int letter) {
            return 2 * Integer.bitCount(words.alikeTo(kept, letter) & left) >= Integer.bitCount(left);
        }

        static int keptOf(int secret, int left) {
            return (left >> secret & 1) != 0 ? secret : leastOf(left);
        }

        /** As which other kind a moody holder answers now; all others are as they are. */
        private static int moodOf(int kind, int guesses) {
            if (kind != MOODY) {
                return kind;
            }
            return guesses % 2 == 1 ? MEAN : HONEST;
        }
    }

    /** What guessers guess next; each kind falls back on the one that it stands under. */
    private static final class Guessers {
        private static final int OFTEN = 1;
        private static final int SURE = 2;
        private static final int HALF = 3;
        private static final int LAST = 4;
        private static final int FIRST = 5;

        static int choice(int kind, Words words, int left, int guessed) {
            switch (kind) {
                case OFTEN:
                    return often(words, left, guessed);
                case SURE:
                    return sure(words, left, guessed);
                case HALF:
                    return half(words, left, guessed);
                case LAST:
                    return last(guessed);
                case FIRST:
                    return first(words, left, guessed);
                default:
                    return row(guessed);
            }
        }

        private static int row(int guessed) {
            for (int l = 0; l < LETTERS; l++) {
                if ((guessed >> l & 1) == 0) {
                    return l;
                }
            }
            return NONE;
        }

        private static int last(int guessed) {
            for (int l = LETTERS - 1; l >= 0; l--) {
                if ((guessed >> l & 1) == 0) {
                    return l;
                }
            }
            return NONE;
        }

        private static int often(Words words, int left, int guessed) {
            int found = NONE;
            int most = -1;
            for (int l = 0; l < LETTERS; l++) {
                int having = Integer.bitCount(left & words.having(l));
                if ((guessed >> l & 1) == 0 && having > most) {
                    found = l;
                    most = having;
                }
            }
            return found;
        }

        private static int sure(Words words, int left, int guessed) {
            for (int l = 0; l < LETTERS; l++) {
                if ((guessed >> l & 1) == 0 && !words.isLacking(left, l)) {
                    return l;
                }
            }
            return often(words, left, guessed);
        }

        private static int half(Words words, int left, int guessed) {
            int found = NONE;
            int nearest = MOST_WORDS + 1;
            for (int l = 0; l < LETTERS; l++) {
                int off = Math.abs(2 * Integer.bitCount(left & words.having(l)) - Integer.bitCount(left));
                if ((guessed >> l & 1) == 0 && off < nearest) {
                    found = l;
                    nearest = off;
                }
            }
            return found;
        }

        private static int first(Words words, int left, int guessed) {
            if (left != 0) {
                int letter = words.codeOf(leastOf(left)) / 1000;
                if ((guessed >> letter & 1) == 0) {
                    return letter;
                }
            }
            return often(words, left, guessed);
        }
    }

    /** The least word of a set; NONE, if it is empty. */
    private static int leastOf(int set) {
        for (int w = 0; w < MOST_WORDS; w++) {
            if ((set >> w & 1) != 0) {
                return w;
            }
        }
        return NONE;
    }

    /** The words, and for each letter which of them have it, and which have it alike. Sets of words are bits. */
    private static final class Words {
        int size;
        private final int[] codes = new int[MOST_WORDS];
        private final int[] masks = new int[MOST_WORDS * LETTERS];
        private final int[] alike = new int[MOST_WORDS * LETTERS];
        private final int[] havers = new int[LETTERS];

        void copyFrom(Words other) {
            size = other.size;
            System.arraycopy(other.codes, 0, codes, 0, codes.length);
            System.arraycopy(other.masks, 0, masks, 0, masks.length);
            System.arraycopy(other.alike, 0, alike, 0, alike.length);
            System.arraycopy(other.havers, 0, havers, 0, havers.length);
        }

        void removeAll() {
            size = 0;
            for (int l = 0; l < LETTERS; l++) {
                havers[l] = 0;
            }
        }

        void add(int code) {
            if (size < MOST_WORDS) {
                codes[size] = code;
                size++;
                for (int l = 0; l < LETTERS; l++) {
                    reckonLetter(size - 1, l);
                }
            }
        }

        private void reckonLetter(int w, int letter) {
            int mask = reckonMask(codes[w], letter);
            masks[w * LETTERS + letter] = mask;
            if (mask != 0) {
                havers[letter] |= 1 << w;
            }
            int same = 1 << w;
            for (int v = 0; v < w; v++) {
                if (masks[v * LETTERS + letter] == mask) {
                    alike[v * LETTERS + letter] |= 1 << w;
                    same |= 1 << v;
                }
            }
            alike[w * LETTERS + letter] = same;
        }

        private static int reckonMask(int code, int letter) {
            int mask = 0;
            int rest = code;
            for (int place = PLACES - 1; place >= 0; place--) {
                if (rest % 10 == letter) {
                    mask |= 1 << place;
                }
                rest /= 10;
            }
            return mask;
        }

        int all() {
            return (1 << size) - 1;
        }

        int numberOf(int code) {
            for (int w = 0; w < size; w++) {
                if (codes[w] == code) {
                    return w;
                }
            }
            return NONE;
        }

        int codeOf(int w) {
            return w >= 0 && w < size ? codes[w] : 0;
        }

        int maskOf(int w, int letter) {
            return w >= 0 && w < size && letter >= 0 && letter < LETTERS ? masks[w * LETTERS + letter] : 0;
        }

        /** The words that have the letter just where word w has it. */
        int alikeTo(int w, int letter) {
            return w >= 0 && w < size && letter >= 0 && letter < LETTERS ? alike[w * LETTERS + letter] : 0;
        }

        int having(int letter) {
            return letter >= 0 && letter < LETTERS ? havers[letter] : 0;
        }

        /** Whether some word left has not got the letter. */
        boolean isLacking(int left, int letter) {
            return (left & ~having(letter)) != 0;
        }

        int commonestMask(int left, int letter) {
            int found = 0;
            int most = 0;
            for (int w = 0; w < size; w++) {
                if ((left >> w & 1) != 0) {
                    int mask = maskOf(w, letter);
                    int like = Integer.bitCount(alikeTo(w, letter) & left);
                    if (like > most || like == most && mask < found) {
                        found = mask;
                        most = like;
                    }
                }
            }
            return found;
        }

        /** The mask of most places; of like ones the greatest. */
        int fullestMask(int left, int letter) {
            int found = 0;
            for (int w = 0; w < size; w++) {
                int mask = maskOf(w, letter);
                int more = Integer.bitCount(mask) - Integer.bitCount(found);
                if ((left >> w & 1) != 0 && (more > 0 || more == 0 && mask > found)) {
                    found = mask;
                }
            }
            return found;
        }

        int withMask(int left, int letter, int mask) {
            int found = 0;
            for (int w = 0; w < size; w++) {
                if (maskOf(w, letter) == mask) {
                    found |= 1 << w;
                }
            }
            return found & left;
        }

        int unlikeMasks(int left, int letter) {
            int masksSeen = 0;
            for (int w = 0; w < size; w++) {
                if ((left >> w & 1) != 0) {
                    masksSeen |= 1 << maskOf(w, letter);
                }
            }
            return Integer.bitCount(masksSeen);
        }

        int greatestPart(int left, int letter) {
            int most = 0;
            for (int w = 0; w < size; w++) {
                if ((left >> w & 1) != 0) {
                    most = Math.max(most, Integer.bitCount(alikeTo(w, letter) & left));
                }
            }
            return most;
        }
    }

    /** A game: letters guessed and words left as bits, and how many guesses were wrong. */
    private static final class Game {
        int left;
        int guessed;
        int wrong;

        void begin(int allWords) {
            left = allWords;
            guessed = 0;
            wrong = 0;
        }

        void copyFrom(Game other) {
            left = other.left;
            guessed = other.guessed;
            wrong = other.wrong;
        }

        int guesses() {
            return Integer.bitCount(guessed);
        }

        boolean isOpen(int letter) {
            return left != 0 && (guessed >> letter & 1) == 0;
        }

        void put(Words words, int letter, int mask) {
            left = words.withMask(left, letter, mask);
            guessed |= 1 << letter;
            if (mask == 0) {
                wrong++;
            }
        }

        /** Guesses until one word at most is left, which the letters suffice for: how many wrong more. */
        int playOn(Words words, int guesser, int holder, int secret) {
            int before = wrong;
            for (int turn = 0; turn < LETTERS && Integer.bitCount(left) > 1; turn++) {
                int letter = Guessers.choice(guesser, words, left, guessed);
                if (letter != NONE) {
                    put(words, letter, Holders.reply(holder, words, secret, left, guesses(), letter));
                }
            }
            return wrong - before;
        }
    }

    /** All that an image keeps. */
    private static final class Table {
        final Words words = new Words();
        final Game game = new Game();
        final Rows notes = new Rows(MOST_NOTES);
        final Rows marks = new Rows(MOST_MARKS);
        final Rows past = new Rows(MOST_UNDONE);
        int kind;
        int secret;

        void reset(int newKind) {
            words.removeAll();
            game.begin(0);
            notes.size = 0;
            marks.size = 0;
            past.size = 0;
            kind = newKind;
            secret = 0;
        }

        void copyFrom(Table other) {
            words.copyFrom(other.words);
            game.copyFrom(other.game);
            notes.copyFrom(other.notes);
            marks.copyFrom(other.marks);
            past.copyFrom(other.past);
            kind = other.kind;
            secret = other.secret;
        }

        void addWord(int code) {
            words.add(code);
            game.begin(words.all());
            past.size = 0;
        }

        int takeGuess(int letter) {
            int mask = Holders.reply(kind, words, secret, game.left, game.guesses(), letter);
            game.put(words, letter, mask);
            return mask;
        }

        void remember() {
            if (past.isFull()) {
                past.dropFirst();
            }
            past.add(game.left, game.guessed, game.wrong, secret);
        }

        void goBack() {
            if (past.size > 0) {
                past.size--;
                game.left = past.cell(past.size, 0);
                game.guessed = past.cell(past.size, 1);
                game.wrong = past.cell(past.size, 2);
                secret = past.cell(past.size, 3);
            }
        }
    }

    /** Rows of four numbers, in the order in which they came. */
    private static final class Rows {
        private static final int WIDTH = 4;
        int size;
        private final int[] cells;

        Rows(int most) {
            cells = new int[Math.max(most, 0) * WIDTH];
        }

        boolean isFull() {
            return (size + 1) * WIDTH > cells.length;
        }

        int cell(int row, int column) {
            int at = row * WIDTH + column;
            return isBelow(at, cells.length) ? cells[at] : 0;
        }

        void add(int a, int b, int c, int d) {
            if (!isFull()) {
                int at = size * WIDTH;
                cells[at] = a;
                cells[at + 1] = b;
                cells[at + 2] = c;
                cells[at + 3] = d;
                size++;
            }
        }

        void dropFirst() {
            if (size > 0) {
                System.arraycopy(cells, WIDTH, cells, 0, cells.length - WIDTH);
                size--;
            }
        }

        void copyFrom(Rows other) {
            size = other.size;
            System.arraycopy(other.cells, 0, cells, 0, Math.min(cells.length, other.cells.length));
        }

        long digestOn(long start, int columns) {
            long h = start;
            for (int row = 0; row < size; row++) {
                for (int column = 0; column < columns; column++) {
                    h = 31 * h + cell(row, column);
                }
            }
            return h;
        }
    }

    /** A fraction in lowest terms, below above 0. */
    private static final class Fraction {
        long above = 0;
        long below = 1;

        /** Nothing by nothing is put as 0 by 1: the mean of no words. */
        void put(int newAbove, int newBelow) {
            int common = newBelow <= 0 ? 0 : commonDivisor(newAbove, newBelow);
            above = common == 0 ? 0 : newAbove / common;
            below = common == 0 ? 1 : newBelow / common;
        }

        private static int commonDivisor(int a, int b) {
            int greater = a;
            int less = b;
            for (int step = 0; step < 100 && less != 0; step++) {
                int rest = greater % less;
                greater = less;
                less = rest;
            }
            return greater;
        }
    }

    /** For each set of words the fewest wrong guesses within which one of them at most is left for sure. */
    private static final class Sureness {
        private final int[] fewest = new int[SETS_OF_WORDS];

        /** Parts are smaller numbers than the sets that they are parts of, so rising numbers find them reckoned. */
        void reckon(Words words, int left) {
            for (int set = 1; set <= left && set < fewest.length; set++) {
                if ((set & ~left) == 0) {
                    fewest[set] = Integer.bitCount(set) <= 1 ? 0 : reckonSet(words, set);
                }
            }
        }

        private int reckonSet(Words words, int set) {
            int least = LETTERS;
            for (int l = 0; l < LETTERS; l++) {
                if (isParting(words, set, l)) {
                    least = Math.min(least, worstBy(words, set, l));
                }
            }
            return least;
        }

        private static boolean isParting(Words words, int set, int letter) {
            return (set & ~words.alikeTo(leastOf(set), letter)) != 0;
        }

        private int worstBy(Words words, int set, int letter) {
            int worst = 0;
            for (int w = 0; w < words.size; w++) {
                if ((set >> w & 1) != 0) {
                    int wrong = words.maskOf(w, letter) == 0 ? 1 : 0;
                    worst = Math.max(worst, wrong + fewestOf(set & words.alikeTo(w, letter)));
                }
            }
            return worst;
        }

        int fewestOf(int set) {
            return set != 0 && isBelow(set, fewest.length) ? fewest[set] : 0;
        }

        int firstLetter(Words words, int left) {
            for (int l = 0; l < LETTERS && left != 0; l++) {
                if (isParting(words, left, l) && worstBy(words, left, l) == fewestOf(left)) {
                    return l;
                }
            }
            return NONE;
        }
    }

    /** The text's bytes, and the token at which its reader stands. */
    private static final class Tokens {
        static final int END = 0;
        static final int NAME = 1;
        static final int NUMBER = 2;
        static final int CLOSE = 3;
        static final int STRANGE = 4;

        int size;
        /** Where the token begins; the text's length at its end, so that a fault is always told by it. */
        int place;
        int sort;
        int number;
        private int behind;
        private final byte[] bytes = new byte[MOST_BYTES];

        void add(int c) {
            if (size < MOST_BYTES) {
                bytes[size] = (byte) c;
                size++;
            }
        }

        void rewind() {
            behind = 0;
        }

        void step() {
            place = endOfRun(behind, ' ', ' ');
            int c = place < size ? bytes[place] : -1;
            if (c < 0) {
                sort = END;
                behind = place;
            } else if (c >= 'a' && c <= 'z') {
                sort = NAME;
                behind = endOfRun(place, 'a', 'z');
            } else if (c >= '0' && c <= '9') {
                behind = endOfRun(place, '0', '9');
                takeNumber();
            } else {
                sort = c == ';' ? CLOSE : STRANGE;
                behind = place + 1;
            }
        }

        private int endOfRun(int start, char least, char greatest) {
            int end = start;
            while (end < size && end < MOST_BYTES && bytes[end] >= least && bytes[end] <= greatest) {
                end++;
            }
            return end;
        }

        private void takeNumber() {
            sort = behind - place <= 2 ? NUMBER : STRANGE;
            number = 0;
            for (int i = place; i < behind && sort == NUMBER; i++) {
                number = 10 * number + bytes[i] - '0';
            }
        }

        boolean spells(String name) {
            if (sort != NAME || behind - place != name.length()) {
                return false;
            }
            for (int i = 0; i < name.length(); i++) {
                if (bytes[place + i] != name.charAt(i)) {
                    return false;
                }
            }
            return true;
        }
    }

    /** Keeps the text and reads it into a draft, so that a fault leaves all as it was. */
    private static final class Reader {
        final Tokens text = new Tokens();
        final Table draft = new Table();

        /** How many items; 0 at a fault, which is the place of the token then. */
        int readItems() {
            text.rewind();
            draft.reset(0);
            int items = 0;
            text.step();
            while (items < MOST_BYTES && text.sort != Tokens.END) {
                if (!readItem(items == 0)) {
                    return 0;
                }
                items++;
                text.step();
            }
            return items;
        }

        private boolean readItem(boolean isFirst) {
            if (text.spells("game")) {
                return isFirst && readKind();
            }
            if (isFirst) {
                return false;
            }
            if (text.spells("word")) {
                return readWord();
            }
            if (text.spells("secret")) {
                return readSecret();
            }
            return text.spells("guess") && readGuess();
        }

        private boolean readKind() {
            if (!stepToNumber(KINDS)) {
                return false;
            }
            draft.kind = text.number;
            return stepToClose();
        }

        private boolean readWord() {
            if (draft.words.size >= MOST_WORDS || draft.game.guessed != 0) {
                return false;
            }
            int code = 0;
            for (int place = 0; place < PLACES; place++) {
                if (!stepToNumber(LETTERS)) {
                    return false;
                }
                code = 10 * code + text.number;
            }
            if (draft.words.numberOf(code) != NONE) {
                return false;
            }
            draft.addWord(code);
            return stepToClose();
        }

        private boolean readSecret() {
            if (!stepToNumber(draft.words.size)) {
                return false;
            }
            draft.secret = text.number;
            return stepToClose();
        }

        private boolean readGuess() {
            if (!stepToNumber(LETTERS) || !draft.game.isOpen(text.number)) {
                return false;
            }
            draft.takeGuess(text.number);
            return stepToClose();
        }

        private boolean stepToNumber(int limit) {
            text.step();
            return text.sort == Tokens.NUMBER && text.number < limit;
        }

        private boolean stepToClose() {
            text.step();
            return text.sort == Tokens.CLOSE;
        }
    }
}
