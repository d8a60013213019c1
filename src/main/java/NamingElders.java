import java.util.Arrays;

/** Children who name their elders: shared/DOC.md tells what each call does; its words stand in capitals here. */
public final class NamingElders {
    public static final int NONE = -1, BAD = -2, STATE = -3, FULL = -4;
    public static final long NO = Long.MIN_VALUE;

    private static final int NOTHING = -11, CAST = -12, PLACE = -13, SIZE = -14;
    /** No NAME, nobody, no BASKET, nothing said, none found: inside as in the answers. */
    private static final int ABSENT = -5;
    private static final int NO_FITS = -10001, FAULTED = -10, ENDS_EARLY = 100;

    private static final int ELDERS = 6, CHILDREN = 6, WORDS = 12, EVERY_WORD = 4095;
    private static final int FIRST_LOOK = 5, TOP_DIGIT = 9, PARTS = 4;
    private static final int HEARD_ROWS = 5, PLAN_ROWS = 10, BOOK_ROWS = 8;
    private static final int SUNDAYS = 60, LAST_SUNDAY = 9999, OLDEST = 9999;
    /** What is asked goes on beyond OLDEST. */
    private static final int AGELESS = 1000000;
    private static final int TEXT = 100, CLAUSES = 10, DEEPEST = 4, VALLEYS = 6, FINE = -1;
    private static final int TAPES = 6, ITEMS = 60, SORTS = 5, BOOLEANS = 4;

    private static final int KINDS = 7, TOLD = 6;
    /** The KIND above each KIND. */
    private static final int[] ABOVE = {-1, 0, 0, 0, 1, 2, 3};

    /** The letters of the TESTS, in the order of what is SEEN. */
    private static final String LETTERS = "pkvxla", RELATIONS = "<=>";
    /** What is SEEN of a CHILD, a WORD and an ELDER: what LETTERS test, then what only FITS ask for. */
    private static final int P = 0, K = 1, V = 2, X = 3, L = 4, A = 5, AGE = 6, ROW = 7, SEEN = 8;
    /** What a step of a VALLEY does, if it is none of the TESTS. */
    private static final int NOT = 6, AND = 7, OR = 8, WEIGHT = 9;
    private static final int LESS = 0, EQUAL = 1;

    private final Child[] kinds;
    private final byte[] text = new byte[TEXT];
    private int textLength;
    private final Valley[] valleys = new Valley[VALLEYS];
    private int valleyCount;

    private final State now, image, trial;
    private boolean imaged;

    private final int[] seen = new int[SEEN];
    private final int[] fit = new int[WORDS];
    private final int[] roundFit = new int[CHILDREN * ELDERS * WORDS];
    private final int[] roundTried = new int[CHILDREN], roundBest = new int[CHILDREN];
    private int roundMost;

    private final Acts acts = new Acts();
    private final int[] tapeSort = new int[TAPES], tapeLength = new int[TAPES];
    private final long[][] tapeItems = new long[TAPES][ITEMS];

    public NamingElders() {
        kinds = new Child[] {new Child(), new Baby(), new Twin(), new Shy(), new Crawler(), new Imp(), new Told()};
        for (int i = 0; i < VALLEYS; i++) {
            valleys[i] = new Valley();
        }
        // A VALLEY without CLAUSES holds till there is one.
        Valley bare = new Valley();
        now = new State(bare);
        image = new State(bare);
        trial = new State(bare);
        Arrays.fill(tapeSort, ABSENT);
    }

    // ---- children, elders, valleys

    public int child(int kind, int v, int knows) {
        if (kind < 0 || kind >= KINDS) return NONE;
        if (!isDigit(v) || !areWords(knows)) return BAD;
        if (now.children >= CHILDREN) return FULL;
        return now.addChild(kind, v, knows);
    }

    public int of(int child, int what) {
        if (!isChild(child)) return NONE;
        switch (what) {
            case 0: return now.kind[child];
            case 1: return now.v[child];
            case 2: return now.knows[child];
            case 3: return now.age[child];
            case 4: return now.basket[child];
            case 5: return knew(child, false);
            case 6: return knew(child, true);
            default: return isElder(what - 10) ? saysNow(child, what - 10) : NONE;
        }
    }

    public int elder(int elder, int what) {
        if (!isElder(elder)) return NONE;
        switch (what) {
            case 0: return now.look[elder];
            case 1: return now.name[elder];
            case 2: return now.by[elder];
            case 3: return now.hidden[elder];
            case 4: return sundaysTillNamed(elder);
            default: return NONE;
        }
    }

    public int fits(int child, int word, int elder) {
        if (!isChild(child) || !isWord(word) || !isElder(elder)) return NO_FITS;
        weigh(now, child, now.v[child], elder);
        return fit[word];
    }

    public int know(int child, int words) {
        if (!isChild(child)) return NONE;
        if (!areWords(words)) return BAD;
        int was = now.knows[child];
        now.knows[child] = words;
        return was;
    }

    public int basket(int child, int elder) {
        if (!isChild(child) || elder != -1 && !isElder(elder)) return NONE;
        int had = now.basket[child];
        now.basket[child] = elder < 0 ? ABSENT : elder;
        return had;
    }

    public int take(int child, int elder) {
        if (!isChild(child) || !isElder(elder)) return NONE;
        return takeTo(now, child, elder);
    }

    public int set(int elder, int what, int n) {
        if (!isElder(elder) || what < 0 || what > 1) return NONE;
        if (n < 0 || n > (what == 0 ? TOP_DIGIT : 1)) return BAD;
        int[] row = what == 0 ? now.look : now.hidden;
        int was = row[elder];
        row[elder] = n;
        return was;
    }

    public int forget(int elder) {
        if (!isElder(elder)) return NONE;
        int had = now.name[elder];
        now.unname(elder);
        return had;
    }

    public int bar(int words) {
        if (!areWords(words)) return BAD;
        int was = now.barred;
        now.barred = words;
        return was;
    }

    public int row(int child, int part, int n) {
        if (!isChild(child) || part < 0 || part >= PARTS) return NONE;
        if (!isDigit(n)) return BAD;
        if (now.kind[child] != TOLD) return STATE;
        int was = now.row[child * PARTS + part];
        now.row[child * PARTS + part] = n;
        return was;
    }

    public int feed(int sign) {
        if (sign < 0 || sign > 127) return BAD;
        if (textLength >= TEXT) return FULL;
        text[textLength] = (byte) sign;
        textLength++;
        return textLength;
    }

    public int valley() {
        if (valleyCount >= VALLEYS) return FULL;
        int fault = valleys[valleyCount].parse(text, textLength);
        textLength = 0;
        if (fault != FINE) return FAULTED - fault;
        now.holds = valleys[valleyCount];
        valleyCount++;
        return valleyCount - 1;
    }

    public int told(int what) {
        switch (what) {
            case 0: return now.sunday;
            case 1: return now.holds.learn;
            case 2: return now.barred;
            case 3: return now.used();
            case 4: return now.named();
            case 5:
                findRound();
                return roundMost;
            default:
                if (!isChild(what - 10)) return NONE;
                findRound();
                return roundBest[what - 10];
        }
    }

    // ---- Sundays

    public int pass(int n) {
        if (!areSundays(n)) return BAD;
        if (now.sunday + n > LAST_SUNDAY) return STATE;
        letGo(now, n, OLDEST);
        return now.sunday;
    }

    public int on(int n, int what) {
        boolean ofElder = isElder(what - 10), ofChild = isChild(what - 20);
        if (what != 0 && !ofElder && !ofChild) return NONE;
        if (!areSundays(n)) return BAD;
        trial.copyFrom(now);
        letGo(trial, n, AGELESS);
        if (ofElder) return trial.name[what - 10];
        return ofChild ? trial.knows[what - 20] : trial.named();
    }

    public int teach(int child, int elder, int word) {
        if (!isChild(child) || !isElder(elder) || !isWord(word)) return NONE;
        // Another new WORD could only be SAID in its place: it alone is taught, or nothing.
        int taught = (1 << word) & ~now.knows[child];
        return says(now, child, now.v[child], now.knows[child] | taught, elder) == word ? taught : ABSENT;
    }

    // ---- heard, odds

    public int hear(int child, int elder, int word) {
        if (child == -1) return now.heard.clear();
        if (!isChild(child) || !isElder(elder) || word != -1 && !isWord(word)) return NONE;
        return now.heard.add(child, elder, word < 0 ? ABSENT : word);
    }

    public int can(int child, int what) {
        if (!isChild(child) || what < 0 || what > 1) return NONE;
        int many = 0, least = ABSENT;
        for (int v = TOP_DIGIT; v >= 0; v--) {
            if (heardIsSo(child, v)) {
                many++;
                least = v;
            }
        }
        return what == 0 ? many : least;
    }

    public long odds(int child, int elder, int part) {
        if (!isChild(child) || !isElder(elder) || !isPart(part)) return NO;
        // Only the WORD that it SAYS now makes a difference when it is BARRED.
        boolean speaks = saysNow(child, elder) != ABSENT;
        if (part == 0) return speaks ? 1 : 0;
        return speaks ? WORDS : 1;
    }

    public long mean(int n, int part) {
        if (!areSundays(n) || !isPart(part) || now.children == 0) return NO;
        trial.copyFrom(now);
        letGo(trial, n, AGELESS);
        int known = 0;
        for (int c = 0; c < trial.children; c++) {
            known += Integer.bitCount(trial.knows[c]);
        }
        return (part == 0 ? known : now.children) / commonDivisor(known, now.children);
    }

    // ---- plans, books

    public int plan(int what, int n) {
        if (what == -1) return now.plan.clear();
        if (what < 0 || what > 3) return NONE;
        if (what == 1 && (n < 0 || !isChild(n / 10) || !isElder(n % 10))) return NONE;
        if (what > 1 && !isElder(n)) return NONE;
        return now.plan.add(what, n, 0);
    }

    public int ends(int what) {
        if (what < 0 || what > 1) return NONE;
        trial.copyFrom(now);
        for (int i = 0; i < now.plan.size; i++) {
            int n = now.plan.second[i];
            switch (now.plan.first[i]) {
                case 0:
                    letGo(trial, 1, AGELESS);
                    break;
                case 1:
                    takeTo(trial, n / 10, n % 10);
                    break;
                case 2:
                    trial.unname(n);
                    break;
                default:
                    trial.hidden[n] = 1;
            }
        }
        return what == 0 ? trial.named() : trial.used();
    }

    public int book(int elder, int word) {
        if (elder == -1) return now.book.clear();
        if (!isElder(elder) || word != -1 && !isWord(word)) return NONE;
        return now.book.add(elder, word < 0 ? ABSENT : word, 0);
    }

    public int looked() {
        for (int i = 0; i < now.book.size; i++) {
            if (now.name[now.book.first[i]] != now.book.second[i]) return i;
        }
        return ABSENT;
    }

    // ---- judging, the image, acts, tapes

    public int judge(int tape, int i) {
        if (!isTape(tape)) return NONE;
        if (tapeSort[tape] == ABSENT) return ENDS_EARLY;
        if (tapeSort[tape] != BOOLEANS) return CAST;
        if (i < 0 || i > tapeLength[tape]) return ENDS_EARLY;
        for (int e = 0; e < ELDERS; e++) {
            if (i + e >= tapeLength[tape]) return ENDS_EARLY + e;
            if ((now.name[e] >= 0) != (tapeItems[tape][i + e] == 1)) return e;
        }
        return ABSENT;
    }

    public int image() {
        image.copyFrom(now);
        imaged = true;
        return now.children;
    }

    public int undo() {
        if (!imaged) return STATE;
        now.copyFrom(image);
        return now.children;
    }

    public int act(int child, int act, int x) {
        acts.ran = 0;
        if (!isChild(child)) return 0;
        acts.number = child;
        acts.v = now.v[child];
        Child kind = kinds[now.kind[child]];
        switch (act) {
            case 0: return kind.looks(acts, x);
            case 1: return kind.points(acts, x);
            case 2: return kind.tells(acts, x);
            default: return 0;
        }
    }

    public int trace(int i) {
        return i < 0 || i >= acts.ran || i >= acts.bodies.length ? NONE : acts.bodies[i];
    }

    public int taken(int child, int k) {
        if (k < 0 || k >= KINDS) return BAD;
        if (!isChild(child)) return NOTHING;
        int kind = now.kind[child];
        // All are under KIND 0, and none stands more than two below it.
        return k == 0 || k == kind || k == ABOVE[kind] ? kind : CAST;
    }

    public int count(int what) {
        switch (what) {
            case 0: return now.children;
            case 1: return valleyCount;
            case 2: return now.heard.size;
            case 3: return now.plan.size;
            case 4: return now.book.size;
            case 5: return textLength;
            case 6: return acts.ran;
            default: return BAD;
        }
    }

    public int tape(int tape, int sort, int n) {
        if (!isTape(tape)) return NONE;
        if (sort < -1 || sort >= SORTS) return BAD;
        if (sort == -1) {
            tapeSort[tape] = ABSENT;
            return 1;
        }
        if (n > ITEMS) return BAD;
        if (n < 0) return SIZE;
        tapeSort[tape] = sort;
        tapeLength[tape] = n;
        Arrays.fill(tapeItems[tape], 0);
        return 1;
    }

    public int item(int tape, int i, long v) {
        if (!isTape(tape)) return NONE;
        if (tapeSort[tape] == ABSENT) return NOTHING;
        if (i < 0 || i >= tapeLength[tape]) return PLACE;
        tapeItems[tape][i] = narrowed(tapeSort[tape], v);
        return 1;
    }

    public long read(int tape, int i) {
        if (!isTape(tape) || tapeSort[tape] == ABSENT) return NO;
        return i < 0 || i >= tapeLength[tape] ? NO : tapeItems[tape][i];
    }

    public int shift(int tape, int i, int other, int j, int n) {
        if (!isTape(tape) || !isTape(other)) return NONE;
        if (tapeSort[tape] == ABSENT || tapeSort[other] == ABSENT) return NOTHING;
        if (tapeSort[tape] != tapeSort[other]) return CAST;
        if (n < 0 || i < 0 || j < 0) return PLACE;
        if (n > tapeLength[tape] - i || n > tapeLength[other] - j) return PLACE;
        System.arraycopy(tapeItems[tape], i, tapeItems[other], j, n);
        return n;
    }

    // ---- what numbers there are

    private boolean isChild(int child) {
        return child >= 0 && child < now.children;
    }

    private static boolean isElder(int elder) {
        return elder >= 0 && elder < ELDERS;
    }

    private static boolean isWord(int word) {
        return word >= 0 && word < WORDS;
    }

    private static boolean areWords(int words) {
        return words >= 0 && words <= EVERY_WORD;
    }

    private static boolean isDigit(int n) {
        return n >= 0 && n <= TOP_DIGIT;
    }

    private static boolean areSundays(int n) {
        return n >= 0 && n <= SUNDAYS;
    }

    private static boolean isPart(int part) {
        return part == 0 || part == 1;
    }

    private static boolean isTape(int tape) {
        return tape >= 0 && tape < TAPES;
    }

    // ---- what a CHILD SAYS

    /** FITS of a CHILD, if its v is the one given, of every WORD and an ELDER: into fit. */
    private void weigh(State s, int child, int v, int elder) {
        Child kind = kinds[s.kind[child]];
        seen[P] = child;
        seen[K] = s.kind[child];
        seen[V] = v;
        seen[L] = s.look[elder];
        seen[A] = s.age[child] % 10;
        seen[AGE] = s.age[child];
        for (int word = 0; word < WORDS; word++) {
            seen[X] = word;
            seen[ROW] = s.row[child * PARTS + word % PARTS];
            fit[word] = kind.fit(s.look[elder] + s.holds.weight(seen), seen);
        }
    }

    /** Of the words (as bits) the first that fits most, by the twelve fits from a place on; ABSENT: none above 0. */
    private static int best(int[] fits, int from, int words) {
        int best = ABSENT, most = 0;
        for (int word = 0; word < WORDS; word++) {
            if ((words >> word & 1) == 1 && fits[from + word] > most) {
                most = fits[from + word];
                best = word;
            }
        }
        return best;
    }

    /** What a CHILD SAYS to an ELDER, if its v and what it KNOWS are the ones given. */
    private int says(State s, int child, int v, int knows, int elder) {
        if (!s.listens(elder)) return ABSENT;
        weigh(s, child, v, elder);
        return best(fit, 0, knows & ~s.used());
    }

    private int saysNow(int child, int elder) {
        return says(now, child, now.v[child], now.knows[child], elder);
    }

    private int takeTo(State s, int child, int elder) {
        int word = says(s, child, s.v[child], s.knows[child], elder);
        if (word != ABSENT) {
            s.name[elder] = word;
            s.by[elder] = child;
        }
        return word;
    }

    // ---- SUNDAYS

    private void letGo(State s, int sundays, int oldest) {
        for (int i = 0; i < sundays; i++) {
            for (int c = 0; c < s.children; c++) {
                if (s.basket[c] != ABSENT) takeTo(s, c, s.basket[c]);
            }
            s.grow(oldest);
        }
    }

    private int sundaysTillNamed(int elder) {
        trial.copyFrom(now);
        for (int n = 0; n < SUNDAYS && trial.name[elder] == ABSENT; n++) {
            letGo(trial, 1, AGELESS);
        }
        return trial.name[elder] == ABSENT ? ABSENT : trial.sunday - now.sunday;
    }

    // ---- the ROUND

    private void findRound() {
        for (int c = 0; c < now.children; c++) {
            for (int e = 0; e < ELDERS; e++) {
                weigh(now, c, now.v[c], e);
                System.arraycopy(fit, 0, roundFit, (c * ELDERS + e) * WORDS, WORDS);
            }
        }
        roundMost = ABSENT;
        deal(0, 0, now.used(), now.named());
    }

    /** Deals the ELDERS that are not given to the CHILDREN from one on; the six CHILDREN keep this from going deep. */
    private void deal(int child, int given, int used, int named) {
        // The first of several stays: only more than that is worth a look.
        if (named + now.children - child <= roundMost) return;
        if (child >= now.children) {
            roundMost = named;
            System.arraycopy(roundTried, 0, roundBest, 0, CHILDREN);
            return;
        }
        for (int e = 0; e < ELDERS; e++) {
            if ((given >> e & 1) == 0) give(child, e, given, used, named);
        }
    }

    private void give(int child, int elder, int given, int used, int named) {
        int from = (child * ELDERS + elder) * WORDS;
        int word = now.listens(elder) ? best(roundFit, from, now.knows[child] & ~used) : ABSENT;
        roundTried[child] = elder;
        if (word == ABSENT) {
            deal(child + 1, given | 1 << elder, used, named);
        } else {
            deal(child + 1, given | 1 << elder, used | 1 << word, named + 1);
        }
    }

    // ---- what is HEARD

    /**
     * KNEW of a CHILD: the least set, or how many there are. What is HEARD says of some WORDS that it KNOWS them, of
     * some that it does not, and nothing of the others.
     */
    private int knew(int child, boolean least) {
        int with = 0, without = 0;
        for (int i = 0; i < now.heard.size; i++) {
            if (now.heard.first[i] != child) continue;
            int word = now.heard.third[i];
            int open = wordsOpenTo(child, now.heard.second[i]);
            if (word == ABSENT) {
                without |= open;
            } else {
                with |= 1 << word;
                // A WORD that it can't SAY at all is asked for and ruled out: so no set is left.
                without |= (open >> word & 1) == 1 ? aheadOf(word, open) : 1 << word;
            }
        }
        if ((with & without) != 0) return least ? ABSENT : 0;
        return least ? with : 1 << (WORDS - Integer.bitCount(with | without));
    }

    /** The WORDS that a CHILD would SAY to an ELDER now, did it KNOW that one alone; their fits are in fit. */
    private int wordsOpenTo(int child, int elder) {
        if (!now.listens(elder)) return 0;
        weigh(now, child, now.v[child], elder);
        int open = 0;
        for (int word = 0; word < WORDS; word++) {
            if (fit[word] > 0) open |= 1 << word;
        }
        return open & ~now.used();
    }

    /** Those of the open WORDS that are SAID rather than the one given, by fit. */
    private int aheadOf(int word, int open) {
        int ahead = 0;
        for (int w = 0; w < WORDS; w++) {
            if (fit[w] > fit[word] || fit[w] == fit[word] && w < word) ahead |= 1 << w;
        }
        return ahead & open;
    }

    private boolean heardIsSo(int child, int v) {
        for (int i = 0; i < now.heard.size; i++) {
            if (now.heard.first[i] != child) continue;
            int said = says(now, child, v, now.knows[child], now.heard.second[i]);
            if (said != now.heard.third[i]) return false;
        }
        return true;
    }

    // ---- numbers

    /** The greatest divisor of both; below is above 0. */
    private static int commonDivisor(int above, int below) {
        for (int d = below; d > 1; d--) {
            if (above % d == 0 && below % d == 0) return d;
        }
        return 1;
    }

    private static long narrowed(int sort, long v) {
        switch (sort) {
            case 0: return (byte) v;
            case 1: return (short) v;
            case 2: return (int) v;
            case 3: return v;
            default: return v == 0 ? 0 : 1;
        }
    }

    /** All that THE IMAGE keeps. */
    private static final class State {
        final int[] look = new int[ELDERS], name = new int[ELDERS], by = new int[ELDERS], hidden = new int[ELDERS];
        int barred, sunday, children;
        final int[] kind = new int[CHILDREN], v = new int[CHILDREN], knows = new int[CHILDREN];
        final int[] age = new int[CHILDREN], basket = new int[CHILDREN], row = new int[CHILDREN * PARTS];
        final Rows heard = new Rows(HEARD_ROWS), plan = new Rows(PLAN_ROWS), book = new Rows(BOOK_ROWS);
        Valley holds;

        State(Valley first) {
            holds = first;
            Arrays.fill(look, FIRST_LOOK);
            Arrays.fill(name, ABSENT);
            Arrays.fill(by, ABSENT);
        }

        void copyFrom(State other) {
            System.arraycopy(other.look, 0, look, 0, ELDERS);
            System.arraycopy(other.name, 0, name, 0, ELDERS);
            System.arraycopy(other.by, 0, by, 0, ELDERS);
            System.arraycopy(other.hidden, 0, hidden, 0, ELDERS);
            barred = other.barred;
            sunday = other.sunday;
            children = other.children;
            System.arraycopy(other.kind, 0, kind, 0, CHILDREN);
            System.arraycopy(other.v, 0, v, 0, CHILDREN);
            System.arraycopy(other.knows, 0, knows, 0, CHILDREN);
            System.arraycopy(other.age, 0, age, 0, CHILDREN);
            System.arraycopy(other.basket, 0, basket, 0, CHILDREN);
            System.arraycopy(other.row, 0, row, 0, CHILDREN * PARTS);
            heard.copyFrom(other.heard);
            plan.copyFrom(other.plan);
            book.copyFrom(other.book);
            holds = other.holds;
        }

        int addChild(int itsKind, int itsV, int itsWords) {
            int c = children;
            kind[c] = itsKind;
            v[c] = itsV;
            knows[c] = itsWords;
            age[c] = 0;
            basket[c] = ABSENT;
            for (int part = 0; part < PARTS; part++) {
                row[c * PARTS + part] = 0;
            }
            children++;
            return c;
        }

        int used() {
            int used = barred;
            for (int e = 0; e < ELDERS; e++) {
                if (name[e] != ABSENT) used |= 1 << name[e];
            }
            return used;
        }

        /** How many ELDERS have a NAME. */
        int named() {
            int named = 0;
            for (int e = 0; e < ELDERS; e++) {
                if (name[e] != ABSENT) named++;
            }
            return named;
        }

        boolean listens(int elder) {
            return name[elder] == ABSENT && hidden[elder] == 0;
        }

        void unname(int elder) {
            name[elder] = ABSENT;
            by[elder] = ABSENT;
        }

        /** The end of a SUNDAY. */
        void grow(int oldest) {
            int learn = holds.learn;
            for (int c = 0; c < children; c++) {
                if (age[c] < oldest) age[c]++;
                if (learn > 0 && age[c] % learn == 0) knows[c] |= 1 << (age[c] + c) % WORDS;
            }
            sunday++;
        }
    }

    /** Rows told by hand, of up to three numbers each. */
    private static final class Rows {
        final int[] first, second, third;
        int size;

        Rows(int most) {
            first = new int[most];
            second = new int[most];
            third = new int[most];
        }

        int add(int a, int b, int c) {
            if (size >= first.length) return FULL;
            first[size] = a;
            second[size] = b;
            third[size] = c;
            size++;
            return size;
        }

        int clear() {
            size = 0;
            return 0;
        }

        void copyFrom(Rows other) {
            System.arraycopy(other.first, 0, first, 0, first.length);
            System.arraycopy(other.second, 0, second, 0, second.length);
            System.arraycopy(other.third, 0, third, 0, third.length);
            size = other.size;
        }
    }

    /** CLAUSES as steps, one behind the other: what a TEST or another sign joins stands ahead of it. */
    private static final class Valley {
        private final byte[] text = new byte[TEXT];
        private int end, at;
        private final int[] op = new int[TEXT], relation = new int[TEXT], number = new int[TEXT];
        private int steps;
        int learn;

        /** Reads THE TEXT of a length: FINE, or the FAULT. */
        int parse(byte[] theText, int length) {
            System.arraycopy(theText, 0, text, 0, TEXT);
            end = length;
            at = 0;
            steps = 0;
            learn = 0;
            for (int i = 1; i <= CLAUSES; i++) {
                if (!clause()) return at;
                if (at >= end) return FINE;
                if (i == CLAUSES || !eat(';')) return at;
            }
            return at;
        }

        private boolean clause() {
            boolean suit = eat('s'), jar = !suit && eat('j');
            if (!phrase(suit ? "uit " : jar ? "ar " : "learn ")) return false;
            int n = digits();
            if (n < 0) return false;
            if (!suit && !jar) {
                learn = n;
                return true;
            }
            if (!eat(' ') || !either(0)) return false;
            step(WEIGHT, 0, suit ? n : -n);
            return true;
        }

        /** E, within as many ( and ! as the depth. */
        private boolean either(int depth) {
            if (!both(depth)) return false;
            for (int i = 0; i < TEXT && eat('|'); i++) {
                if (!both(depth)) return false;
                step(OR, 0, 0);
            }
            return true;
        }

        /** T. */
        private boolean both(int depth) {
            if (!factor(depth)) return false;
            for (int i = 0; i < TEXT && eat('&'); i++) {
                if (!factor(depth)) return false;
                step(AND, 0, 0);
            }
            return true;
        }

        /** F. */
        private boolean factor(int depth) {
            int within = depth;
            while (within < DEEPEST && eat('!')) {
                within++;
            }
            boolean fine = within < DEEPEST && eat('(') ? either(within + 1) && eat(')') : test();
            if ((within - depth) % 2 == 1) step(NOT, 0, 0);
            return fine;
        }

        private boolean test() {
            int letter = oneOf(LETTERS);
            if (letter < 0) return false;
            int sign = oneOf(RELATIONS);
            if (sign < 0) return false;
            int n = digits();
            if (n < 0) return false;
            step(letter, sign, n);
            return true;
        }

        /** The number of one or two digits; below 0, if there is none. */
        private int digits() {
            int n = -1;
            for (int i = 0; i < 2 && at < end && text[at] >= '0' && text[at] <= '9'; i++) {
                n = (n < 0 ? 0 : n * 10) + text[at] - '0';
                at++;
            }
            return n;
        }

        /** Which of the signs comes; below 0, if none does. */
        private int oneOf(String signs) {
            int which = at < end ? signs.indexOf((char) text[at]) : -1;
            if (which >= 0) at++;
            return which;
        }

        private boolean phrase(String signs) {
            for (int i = 0; i < signs.length(); i++) {
                if (!eat(signs.charAt(i))) return false;
            }
            return true;
        }

        private boolean eat(char sign) {
            if (at >= end || text[at] != sign) return false;
            at++;
            return true;
        }

        private void step(int what, int how, int n) {
            if (steps >= TEXT) return;
            op[steps] = what;
            relation[steps] = how;
            number[steps] = n;
            steps++;
        }

        /** The n of all suit whose E holds, less those of all jar. Bits are what holds so far, the latest lowest. */
        int weight(int[] seen) {
            int weight = 0, bits = 0;
            for (int i = 0; i < steps; i++) {
                switch (op[i]) {
                    case NOT:
                        bits ^= 1;
                        break;
                    case AND:
                        bits = bits >> 1 & (bits | ~1);
                        break;
                    case OR:
                        bits = bits >> 1 | bits & 1;
                        break;
                    case WEIGHT:
                        weight += (bits & 1) * number[i];
                        bits = 0;
                        break;
                    default:
                        bits = bits << 1 | (holds(seen[op[i]], relation[i], number[i]) ? 1 : 0);
                }
            }
            return weight;
        }

        private static boolean holds(int value, int how, int n) {
            if (how == LESS) return value < n;
            return how == EQUAL ? value == n : value > n;
        }
    }

    /** The CHILD of the latest act, and which bodies ran in it. */
    private static final class Acts {
        int number, v, ran;
        final int[] bodies = new int[20];

        void begin(int body) {
            if (ran < bodies.length) bodies[ran] = body;
            ran++;
        }
    }

    /** What all of a KIND do: FITS by the SUM and what is SEEN, and the bodies of the ACTS. */
    private static class Child {
        int fit(int sum, int[] seen) {
            return sum;
        }

        int looks(Acts a, int x) {
            a.begin(10);
            return x + a.number;
        }

        int points(Acts a, int x) {
            a.begin(11);
            return looks(a, x) - a.v;
        }

        int tells(Acts a, int x) {
            a.begin(12);
            return points(a, x) * 2;
        }
    }

    private static class Baby extends Child {
        int fit(int sum, int[] seen) {
            return seen[X] < 6 ? sum + seen[V] : sum;
        }

        int points(Acts a, int x) {
            a.begin(20);
            return super.points(a, x) ^ 6;
        }
    }

    private static class Twin extends Child {
        int fit(int sum, int[] seen) {
            return sum / 2;
        }

        int looks(Acts a, int x) {
            a.begin(30);
            return super.looks(a, x * 3);
        }
    }

    private static class Shy extends Child {
        int fit(int sum, int[] seen) {
            return sum - 2 * seen[L];
        }

        int tells(Acts a, int x) {
            a.begin(40);
            return super.tells(a, x) + points(a, 1);
        }
    }

    private static final class Crawler extends Baby {
        int fit(int sum, int[] seen) {
            return seen[AGE] < seen[V] ? 0 : super.fit(sum, seen);
        }

        int looks(Acts a, int x) {
            a.begin(50);
            return -super.looks(a, x);
        }

        int points(Acts a, int x) {
            a.begin(51);
            return super.points(a, x + 1);
        }
    }

    private static final class Imp extends Twin {
        int fit(int sum, int[] seen) {
            return -super.fit(sum, seen);
        }

        int tells(Acts a, int x) {
            a.begin(60);
            return super.tells(a, x - a.number);
        }
    }

    private static final class Told extends Shy {
        int fit(int sum, int[] seen) {
            return super.fit(sum, seen) + seen[ROW];
        }

        int points(Acts a, int x) {
            a.begin(70);
            return super.points(a, x) + super.looks(a, 2);
        }

        int looks(Acts a, int x) {
            a.begin(71);
            return super.looks(a, x) ^ a.v;
        }
    }
}
