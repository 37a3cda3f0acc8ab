/**
 * A tanner's yard, told in a text, where public men are let down into pits
 * until what is said of them hurts no more.
 *
 * Every row and object is made once, in the constructor: no call makes another.
 */
public final class TannedMen {
    public static final int NONE = -1, UNKNOWN = -1000000001, OUTSIDE = -1000000002, NOT = -1000000003, FULL = -1000000004;

    private static final int PLACES = 5;
    private static final int MOST_PITS = 3;
    private static final int MOST_BARK = 9;
    private static final int MOST_MEN = 6;
    private static final int MOST_SOFT = 30;
    private static final int MOST_SAYINGS = 8;
    private static final int MOST_SHARP = 60;
    private static final int MOST_LETTERS = 240;
    private static final int MOST_FIGURES = 3;

    private static final int PUBLIC = 0;
    private static final int SMOKED = 1;
    private static final int POET = 2;
    private static final int OLD = 3;
    private static final int UNSMOKED_PLACE = 2;

    private static final int MOST_THICK = 99;
    private static final int MOST_GLUE = 999999;
    private static final int MOST_WOUNDS = 99999;
    private static final int MOST_BORNE = 5;
    private static final int MOST_MONTHS_A_CALL = 60;
    private static final int LAST_OPEN_MONTH = 9000;

    private static final int LONGEST_TRIAL = 200;
    private static final int LONGEST_STAY = 60;
    private static final int BILLION = 1000000000;

    private static final int MOST_HEARD = 6;
    private static final int MOST_HEARD_HURT = 99;
    private static final int MOST_ENTRIES = 15;
    private static final int MOST_UNDONE = 16;
    private static final int MOST_IMAGES = 2;

    private static final int ROW_HEAD = 3;
    private static final int ROW_OF_MAN = 2 + 2 * PLACES;
    private static final int ROW = ROW_HEAD + MOST_MEN * ROW_OF_MAN;

    private final TextReader reader;
    private Plan plan;
    private Plan draft;
    private final State state;
    private final Past past;
    private final Draws draws;
    private final Ears ears;
    private final Book book;
    private final Trial trial;
    private final PitQueue queue;

    public TannedMen() {
        reader = new TextReader();
        plan = new Plan();
        draft = new Plan();
        state = new State(plan);
        past = new Past();
        draws = new Draws();
        ears = new Ears();
        book = new Book();
        trial = new Trial();
        queue = new PitQueue();
    }

    // ---- the yard

    public int feed(int letter) {
        if (isOutside(letter, 0, 255)) {
            return OUTSIDE;
        }
        if (reader.length >= MOST_LETTERS) {
            return FULL;
        }
        return reader.add(letter);
    }

    public int yard() {
        reader.readInto(draft);
        if (reader.faultKind != 0) {
            return -10 - reader.faultKind;
        }
        Plan former = plan;
        plan = draft;
        draft = former;
        state.begin(plan);
        past.count = 0;
        past.images = 0;
        ears.count = 0;
        book.count = 0;
        return plan.men;
    }

    public int fault() {
        return reader.faultAt;
    }

    public int told(int what) {
        switch (what) {
            case 0: return plan.pits;
            case 1: return state.bark;
            case 2: return plan.men;
            case 3: return plan.sayings;
            case 4: return reader.length;
            case 5: return state.months;
            case 6: return state.setInside();
            case 7: return state.glue;
            case 8: return state.allWounds();
            case 9: return state.best();
            case 10: return state.chosen();
            case 11: return state.tender();
            case 12: return ears.count;
            case 13: return book.count;
            case 14: return past.count;
            default: return OUTSIDE;
        }
    }

    public int man(int m, int what) {
        if (!plan.hasMan(m)) {
            return UNKNOWN;
        }
        Man one = state.men[m];
        switch (what) {
            case 0: return one.kind;
            case 1: return one.inside;
            case 2: return one.wounds;
            case 3: return plan.setBorne(one);
            case 4: return plan.setFelt(one);
            default: return OUTSIDE;
        }
    }

    public int skin(int m, int place, int what) {
        if (!plan.hasMan(m)) {
            return UNKNOWN;
        }
        if (isOutside(place, 0, PLACES - 1) || isOutside(what, 0, 1)) {
            return OUTSIDE;
        }
        Man one = state.men[m];
        return what == 0 ? one.soft[place] : one.thick[place];
    }

    public int saying(int s, int what) {
        if (!plan.hasSaying(s)) {
            return UNKNOWN;
        }
        if (isOutside(what, 0, 1)) {
            return OUTSIDE;
        }
        return what == 0 ? plan.place[s] : plan.sharp[s];
    }

    public int hurt(int m, int s) {
        if (!plan.hasMan(m) || !plan.hasSaying(s)) {
            return UNKNOWN;
        }
        return plan.pain(state.men[m], s);
    }

    // ---- what is done

    public int month(int n) {
        int refusal = refusalOfMonths(n);
        if (refusal != 0) {
            return refusal;
        }
        past.push(state);
        for (int i = 0; i < n; i++) {
            state.passMonth();
        }
        return state.months;
    }

    public int in(int m) {
        if (!plan.hasMan(m)) {
            return UNKNOWN;
        }
        if (state.men[m].inside == 1) {
            return NOT;
        }
        if (state.freePits() <= 0) {
            return FULL;
        }
        past.push(state);
        state.men[m].inside = 1;
        return state.freePits();
    }

    public int out(int m) {
        if (!plan.hasMan(m)) {
            return UNKNOWN;
        }
        if (state.men[m].inside == 0) {
            return NOT;
        }
        past.push(state);
        state.men[m].inside = 0;
        return plan.setBorne(state.men[m]);
    }

    public int scrape(int m, int place, int n) {
        if (!plan.hasMan(m)) {
            return UNKNOWN;
        }
        if (isOutside(place, 0, PLACES - 1) || isOutside(n, 1, MOST_SOFT)) {
            return OUTSIDE;
        }
        if (state.men[m].soft[place] < n) {
            return NOT;
        }
        past.push(state);
        state.scrapeOff(m, place, n);
        return state.men[m].soft[place];
    }

    public int say(int s, int m) {
        if (!plan.hasSaying(s) || !plan.hasMan(m)) {
            return UNKNOWN;
        }
        past.push(state);
        state.wound(m, s);
        return state.men[m].wounds;
    }

    public int bark(int b) {
        if (isOutside(b, 1, MOST_BARK)) {
            return OUTSIDE;
        }
        if (plan.isNone()) {
            return NOT;
        }
        past.push(state);
        int former = state.bark;
        state.bark = b;
        return former;
    }

    public int drift(int n) {
        int refusal = refusalOfMonths(n);
        if (refusal != 0) {
            return refusal;
        }
        past.push(state);
        for (int i = 0; i < n; i++) {
            state.stir(draws);
            state.passMonth();
        }
        return state.months;
    }

    public int undo() {
        if (past.count <= 0) {
            return NOT;
        }
        past.pop(state);
        return past.count;
    }

    // ---- tried

    public int thick(int m, int place, int n) {
        if (!plan.hasMan(m)) {
            return UNKNOWN;
        }
        if (isOutside(place, 0, PLACES - 1) || isOutside(n, 0, LONGEST_TRIAL)) {
            return OUTSIDE;
        }
        trial.startNow(state, m);
        for (int i = 0; i < n; i++) {
            trial.passMonth();
        }
        return trial.man.thick[place];
    }

    public int when(int m, int s, int what) {
        if (!plan.hasMan(m) || !plan.hasSaying(s)) {
            return UNKNOWN;
        }
        if (isOutside(what, 0, 1)) {
            return OUTSIDE;
        }
        trial.startNow(state, m);
        return what == 0 ? trial.firstBearing(plan, 1 << s) : trial.lastFeeling(plan, s);
    }

    public int edge(int m, int bears, int feels, int what) {
        if (!plan.hasMan(m) || !plan.hasSet(bears) || !plan.hasSet(feels)) {
            return UNKNOWN;
        }
        if (isOutside(what, 0, 2)) {
            return OUTSIDE;
        }
        trial.startNow(state, m);
        for (int n = 0; n <= LONGEST_TRIAL; n++) {
            if (plan.bearsAll(trial.man, bears) && plan.feelsAll(trial.man, feels)) {
                trial.note(n);
            }
            trial.passMonth();
        }
        return trial.noted(what);
    }

    public int scraping(int m, int set) {
        if (!plan.hasMan(m) || !plan.hasSet(set)) {
            return UNKNOWN;
        }
        return plan.leastScraping(state.men[m], set);
    }

    public int through(int n, int what) {
        if (isOutside(n, 0, LONGEST_TRIAL) || isOutside(what, 0, 1)) {
            return OUTSIDE;
        }
        if (plan.isNone()) {
            return NOT;
        }
        for (int m = 0; m < plan.men; m++) {
            trial.startNow(state, m);
            queue.need[m] = trial.firstBearing(plan, plan.everySaying());
        }
        queue.fill(plan.men, n);
        int most = queue.mostWithin(plan.men, plan.pits);
        return what == 0 ? Integer.bitCount(most) : most;
    }

    public int over(int m, int q) {
        if (!plan.hasMan(m) || !plan.hasMan(q) || m == q) {
            return UNKNOWN;
        }
        return state.men[m].isOver(state.men[q]) ? 1 : 0;
    }

    public int quiet(int n, int q) {
        if (isOutside(n, 0, MOST_MONTHS_A_CALL) || isOutside(q, 0, 100)) {
            return OUTSIDE;
        }
        long odds = BILLION;
        for (int i = 0; i < n; i++) {
            odds = odds * q / 100;
        }
        return (int) odds;
    }

    // ---- what is heard

    public int hear(int m, int s, int v) {
        if (!plan.hasMan(m) || !plan.hasSaying(s)) {
            return UNKNOWN;
        }
        if (isOutside(v, 0, MOST_HEARD_HURT)) {
            return OUTSIDE;
        }
        if (ears.count >= MOST_HEARD) {
            return FULL;
        }
        return ears.add(m, s, v);
    }

    public int stays(int m, int what) {
        if (!plan.hasMan(m)) {
            return UNKNOWN;
        }
        if (isOutside(what, 0, 2)) {
            return OUTSIDE;
        }
        trial.startFirst(plan, m);
        for (int n = 0; n <= LONGEST_STAY; n++) {
            if (ears.agree(plan, trial.man, m)) {
                trial.note(n);
            }
            trial.passMonth();
        }
        return trial.noted(what);
    }

    public int ask(int m) {
        if (!plan.hasMan(m)) {
            return UNKNOWN;
        }
        ears.clearParts();
        trial.startFirst(plan, m);
        for (int n = 0; n <= LONGEST_STAY; n++) {
            if (ears.agree(plan, trial.man, m)) {
                ears.part(plan, trial.man);
            }
            trial.passMonth();
        }
        return ears.bestParting(plan.sayings);
    }

    public int write(int m, int wounds) {
        if (!plan.hasMan(m)) {
            return UNKNOWN;
        }
        if (isOutside(wounds, 0, MOST_WOUNDS)) {
            return OUTSIDE;
        }
        if (book.count >= MOST_ENTRIES) {
            return FULL;
        }
        return book.add(m, wounds);
    }

    public int tear() {
        int both = ears.count + book.count;
        ears.count = 0;
        book.count = 0;
        return both;
    }

    public int judge() {
        return book.firstWrong(state);
    }

    // ---- draws, images

    public int seed(int v) {
        if (v < 0) {
            return OUTSIDE;
        }
        int former = draws.root;
        draws.root = v;
        return former;
    }

    public int keep(int i) {
        if (isOutside(i, 0, MOST_IMAGES - 1)) {
            return UNKNOWN;
        }
        past.keepImage(i, state, draws);
        past.count = 0;
        return 1;
    }

    public int goBack(int i) {
        if (isOutside(i, 0, MOST_IMAGES - 1)) {
            return UNKNOWN;
        }
        if (!past.hasImage(i)) {
            return NOT;
        }
        past.loadImage(i, state, draws);
        past.count = 0;
        return 1;
    }

    // ---- of all of them

    private static boolean isOutside(int number, int least, int most) {
        return number < least || number > most;
    }

    /** Why n months cannot pass now; 0: they can. */
    private int refusalOfMonths(int n) {
        if (isOutside(n, 1, MOST_MONTHS_A_CALL)) {
            return OUTSIDE;
        }
        if (plan.isNone()) {
            return NOT;
        }
        return state.months > LAST_OPEN_MONTH ? FULL : 0;
    }

    /** The text that is fed, and how it is read. */
    private static final class TextReader {
        static final int MISPLACED = 1;
        static final int BAD_NUMBER = 2;
        static final int TOO_MANY = 3;

        final int[] letters = new int[MOST_LETTERS];
        int length;
        int at;
        int faultKind;
        int faultAt = NONE;

        /** Only called while there is room for a letter. */
        int add(int letter) {
            if (length < MOST_LETTERS) {
                letters[length] = letter;
                length++;
            }
            return length;
        }

        /** Reads the text as far as its first fault, and empties it. */
        void readInto(Plan plan) {
            plan.clear();
            at = 0;
            faultKind = 0;
            faultAt = NONE;
            skipBlanks();
            for (int clause = 0; clause < MOST_LETTERS && at < length && faultKind == 0; clause++) {
                readClause(plan);
                skipBlanks();
            }
            length = 0;
        }

        /** Only the first fault counts: what is read behind it goes nowhere. */
        void mark(int kind, int position) {
            if (faultKind == 0) {
                faultKind = kind;
                faultAt = position;
            }
        }

        int letter() {
            return at < length ? letters[at] : NONE;
        }

        void skipBlanks() {
            while (at < length && letters[at] == ' ') {
                at++;
            }
        }

        static boolean isFigure(int letter) {
            return letter >= '0' && letter <= '9';
        }

        void readClause(Plan plan) {
            int word = letter();
            int wrong = faultOfWord(word, plan);
            if (wrong != 0) {
                mark(wrong, at);
                return;
            }
            at++;
            if (word == 't') {
                readPits(plan);
            } else if (word == 'm') {
                readMan(plan);
            } else {
                readSaying(plan);
            }
            skipMark(';');
        }

        static int faultOfWord(int word, Plan plan) {
            if (plan.isNone()) {
                return word == 't' ? 0 : MISPLACED;
            }
            if (word == 't') {
                return TOO_MANY;
            }
            if (word == 'm') {
                return plan.men < MOST_MEN ? 0 : TOO_MANY;
            }
            if (word == 's') {
                return plan.sayings < MOST_SAYINGS ? 0 : TOO_MANY;
            }
            return MISPLACED;
        }

        void readPits(Plan plan) {
            plan.pits = readNumber(1, MOST_PITS);
            plan.bark = readNumber(1, MOST_BARK);
        }

        void readMan(Plan plan) {
            int m = plan.men;
            plan.kind[m] = readNumber(PUBLIC, OLD);
            for (int p = 0; p < PLACES; p++) {
                if (p > 0) {
                    skipMark(',');
                }
                plan.soft[m][p] = readNumber(0, MOST_SOFT);
            }
            plan.men = m + 1;
        }

        void readSaying(Plan plan) {
            int s = plan.sayings;
            plan.place[s] = readNumber(0, PLACES - 1);
            plan.sharp[s] = readNumber(1, MOST_SHARP);
            plan.sayings = s + 1;
        }

        /** The number that is due here, or its least with a fault marked. */
        int readNumber(int least, int most) {
            skipBlanks();
            int start = at;
            int number = 0;
            while (at < length && isFigure(letters[at])) {
                number = number * 10 + (letters[at] - '0');
                at++;
            }
            int figures = at - start;
            if (figures == 0) {
                mark(MISPLACED, start);
                return least;
            }
            if (figures > MOST_FIGURES || isOutside(number, least, most)) {
                mark(BAD_NUMBER, start);
                return least;
            }
            return number;
        }

        void skipMark(char due) {
            skipBlanks();
            if (letter() == due) {
                at++;
            } else {
                mark(MISPLACED, at);
            }
        }
    }

    /** What the text told; it stays while the yard does. */
    private static final class Plan {
        int pits;
        int bark;
        int men;
        int sayings;
        final int[] kind = new int[MOST_MEN];
        final int[][] soft = new int[MOST_MEN][PLACES];
        final int[] place = new int[MOST_SAYINGS];
        final int[] sharp = new int[MOST_SAYINGS];

        void clear() {
            pits = 0;
            bark = 0;
            men = 0;
            sayings = 0;
        }

        boolean isNone() {
            return pits == 0;
        }

        boolean hasMan(int m) {
            return m >= 0 && m < men;
        }

        boolean hasSaying(int s) {
            return s >= 0 && s < sayings;
        }

        boolean hasSet(int set) {
            return (set >>> sayings) == 0;
        }

        int everySaying() {
            return (1 << sayings) - 1;
        }

        int pain(Man man, int s) {
            int p = place[s];
            return Math.max(0, sharp[s] + man.soft[p] - man.thick[p]);
        }

        int setBorne(Man man) {
            int set = 0;
            for (int s = 0; s < sayings; s++) {
                if (pain(man, s) <= MOST_BORNE) {
                    set |= 1 << s;
                }
            }
            return set;
        }

        int setFelt(Man man) {
            int set = 0;
            for (int s = 0; s < sayings; s++) {
                if (pain(man, s) >= 1) {
                    set |= 1 << s;
                }
            }
            return set;
        }

        boolean bearsAll(Man man, int set) {
            for (int s = 0; s < sayings; s++) {
                if (((set >> s) & 1) == 1 && pain(man, s) > MOST_BORNE) {
                    return false;
                }
            }
            return true;
        }

        boolean feelsAll(Man man, int set) {
            for (int s = 0; s < sayings; s++) {
                if (((set >> s) & 1) == 1 && pain(man, s) < 1) {
                    return false;
                }
            }
            return true;
        }

        int wholePain(Man man) {
            int sum = 0;
            for (int s = 0; s < sayings; s++) {
                sum += pain(man, s);
            }
            return sum;
        }

        int leastScraping(Man man, int set) {
            int sum = 0;
            for (int p = 0; p < PLACES; p++) {
                int due = scrapingAt(man, set, p);
                if (due > man.soft[p]) {
                    return NONE;
                }
                sum += due;
            }
            return sum;
        }

        int scrapingAt(Man man, int set, int p) {
            int due = 0;
            for (int s = 0; s < sayings; s++) {
                if (((set >> s) & 1) == 1 && place[s] == p) {
                    due = Math.max(due, pain(man, s) - MOST_BORNE);
                }
            }
            return due;
        }
    }

    private static final class Man {
        int kind;
        int inside;
        int wounds;
        final int[] soft = new int[PLACES];
        final int[] thick = new int[PLACES];

        void begin(Plan plan, int m) {
            kind = plan.kind[m];
            inside = 0;
            wounds = 0;
            for (int p = 0; p < PLACES; p++) {
                soft[p] = plan.soft[m][p];
                thick[p] = 0;
            }
        }

        void copySkin(Man other) {
            kind = other.kind;
            for (int p = 0; p < PLACES; p++) {
                soft[p] = other.soft[p];
                thick[p] = other.thick[p];
            }
        }

        /** A month in the pit; months are those that had passed ahead of it. */
        void tan(int bark, int months) {
            if (kind == PUBLIC) {
                thickenAll(bark, NONE);
            } else if (kind == SMOKED) {
                thickenAll(bark / 2 + 1, UNSMOKED_PLACE);
            } else if (kind == POET) {
                thicken(Math.floorMod(months, PLACES), 1);
            } else {
                thicken(thinnestPlace(), 3 * bark);
            }
        }

        void thickenAll(int by, int spared) {
            for (int p = 0; p < PLACES; p++) {
                if (p != spared) {
                    thicken(p, by);
                }
            }
        }

        void thicken(int p, int by) {
            thick[p] = Math.min(MOST_THICK, thick[p] + by);
        }

        int thinnestPlace() {
            int least = 0;
            for (int p = 1; p < PLACES; p++) {
                if (thick[p] < thick[least]) {
                    least = p;
                }
            }
            return least;
        }

        boolean isOver(Man other) {
            int ahead = 0;
            for (int p = 0; p < PLACES; p++) {
                ahead += Integer.compare(thick[p], other.thick[p]);
            }
            return ahead > 0;
        }

        void saveTo(int[] row, int from) {
            row[from] = inside;
            row[from + 1] = wounds;
            for (int p = 0; p < PLACES; p++) {
                row[from + 2 + p] = soft[p];
                row[from + 2 + PLACES + p] = thick[p];
            }
        }

        void loadFrom(int[] row, int from) {
            inside = row[from];
            wounds = row[from + 1];
            for (int p = 0; p < PLACES; p++) {
                soft[p] = row[from + 2 + p];
                thick[p] = row[from + 2 + PLACES + p];
            }
        }
    }

    /** All that changes while the yard stands: what is undone, and kept in images. */
    private static final class State {
        Plan plan;
        int months;
        int bark;
        int glue;
        final Man[] men = new Man[MOST_MEN];

        State(Plan plan) {
            this.plan = plan;
            for (int m = 0; m < MOST_MEN; m++) {
                men[m] = new Man();
            }
        }

        void begin(Plan told) {
            plan = told;
            months = 0;
            bark = told.bark;
            glue = 0;
            for (int m = 0; m < told.men; m++) {
                men[m].begin(told, m);
            }
        }

        void passMonth() {
            for (int m = 0; m < plan.men; m++) {
                if (men[m].inside == 1) {
                    men[m].tan(bark, months);
                }
            }
            months++;
        }

        int freePits() {
            return plan.pits - Integer.bitCount(setInside());
        }

        int setInside() {
            int set = 0;
            for (int m = 0; m < plan.men; m++) {
                set |= men[m].inside << m;
            }
            return set;
        }

        int allWounds() {
            int sum = 0;
            for (int m = 0; m < plan.men; m++) {
                sum += men[m].wounds;
            }
            return sum;
        }

        void scrapeOff(int m, int place, int n) {
            men[m].soft[place] -= n;
            glue = Math.min(MOST_GLUE, glue + n);
        }

        void wound(int m, int s) {
            men[m].wounds = Math.min(MOST_WOUNDS, men[m].wounds + plan.pain(men[m], s));
        }

        /** What is drawn ahead of a month. */
        void stir(Draws draws) {
            if (plan.men == 0) {
                return;
            }
            int deed = draws.next(5);
            int m = draws.next(plan.men);
            if (deed == 0 && men[m].inside == 0 && freePits() > 0) {
                men[m].inside = 1;
            } else if (deed == 1) {
                men[m].inside = 0;
            } else if (deed == 2 && plan.sayings > 0) {
                wound(m, draws.next(plan.sayings));
            } else if (deed == 3) {
                scrapeIfSoft(m, draws.next(PLACES));
            }
        }

        void scrapeIfSoft(int m, int place) {
            if (men[m].soft[place] > 0) {
                scrapeOff(m, place, 1);
            }
        }

        int best() {
            int best = NONE;
            int least = 0;
            for (int m = 0; m < plan.men; m++) {
                int pain = plan.wholePain(men[m]);
                if (best == NONE || pain < least) {
                    best = m;
                    least = pain;
                }
            }
            return best;
        }

        int chosen() {
            int chosen = NONE;
            int most = 0;
            for (int m = 0; m < plan.men; m++) {
                int votes = votesFor(m);
                if (votes > most) {
                    chosen = m;
                    most = votes;
                }
            }
            return chosen;
        }

        int votesFor(int m) {
            int votes = 0;
            for (int s = 0; s < plan.sayings; s++) {
                if (leastPainedBy(s) == m) {
                    votes++;
                }
            }
            return votes;
        }

        int leastPainedBy(int s) {
            int least = 0;
            for (int m = 1; m < plan.men; m++) {
                if (plan.pain(men[m], s) < plan.pain(men[least], s)) {
                    least = m;
                }
            }
            return least;
        }

        int tender() {
            int tender = NONE;
            int most = 0;
            for (int m = 0; m < plan.men; m++) {
                for (int p = 0; p < PLACES; p++) {
                    int softness = men[m].soft[p] - men[m].thick[p];
                    if (tender == NONE || softness > most) {
                        tender = 10 * m + p;
                        most = softness;
                    }
                }
            }
            return tender;
        }

        void saveTo(int[] row) {
            row[0] = months;
            row[1] = bark;
            row[2] = glue;
            for (int m = 0; m < plan.men; m++) {
                men[m].saveTo(row, ROW_HEAD + m * ROW_OF_MAN);
            }
        }

        void loadFrom(int[] row) {
            months = row[0];
            bark = row[1];
            glue = row[2];
            for (int m = 0; m < plan.men; m++) {
                men[m].loadFrom(row, ROW_HEAD + m * ROW_OF_MAN);
            }
        }
    }

    /** States to be undone to, in a ring where the newest overwrites the oldest; and images. */
    private static final class Past {
        final int[][] rows = new int[MOST_UNDONE][ROW];
        int next;
        int count;
        final int[][] imageRows = new int[MOST_IMAGES][ROW];
        final int[] imageRoots = new int[MOST_IMAGES];
        int images;

        void push(State state) {
            state.saveTo(rows[next]);
            next = (next + 1) % MOST_UNDONE;
            count = Math.min(MOST_UNDONE, count + 1);
        }

        void pop(State state) {
            next = (next + MOST_UNDONE - 1) % MOST_UNDONE;
            count--;
            state.loadFrom(rows[next]);
        }

        boolean hasImage(int i) {
            return ((images >> i) & 1) == 1;
        }

        void keepImage(int i, State state, Draws draws) {
            state.saveTo(imageRows[i]);
            imageRoots[i] = draws.root;
            images |= 1 << i;
        }

        void loadImage(int i, State state, Draws draws) {
            state.loadFrom(imageRows[i]);
            draws.root = imageRoots[i];
        }
    }

    private static final class Draws {
        int root;

        int next(int n) {
            root = (int) ((root * 1103515245L + 12345L) & 0x7fffffffL);
            return n > 0 ? (root / 65536) % n : 0;
        }
    }

    /** One man, apart from the yard, who is in a pit all the time. */
    private static final class Trial {
        final Man man = new Man();
        int bark;
        int months;
        int many;
        int least;
        int greatest;

        void startNow(State state, int m) {
            man.copySkin(state.men[m]);
            bark = state.bark;
            months = state.months;
            clearNotes();
        }

        void startFirst(Plan plan, int m) {
            man.begin(plan, m);
            bark = plan.bark;
            months = 0;
            clearNotes();
        }

        void clearNotes() {
            many = 0;
            least = NONE;
            greatest = NONE;
        }

        /** Called with rising numbers of months. */
        void note(int n) {
            if (many == 0) {
                least = n;
            }
            greatest = n;
            many++;
        }

        int noted(int what) {
            if (what == 0) {
                return many;
            }
            return what == 1 ? least : greatest;
        }

        void passMonth() {
            man.tan(bark, months);
            months++;
        }

        int firstBearing(Plan plan, int set) {
            for (int n = 0; n <= LONGEST_TRIAL; n++) {
                if (plan.bearsAll(man, set)) {
                    return n;
                }
                passMonth();
            }
            return NONE;
        }

        int lastFeeling(Plan plan, int s) {
            int last = NONE;
            for (int n = 0; n <= LONGEST_TRIAL; n++) {
                if (plan.pain(man, s) >= 1) {
                    last = n;
                }
                passMonth();
            }
            return last;
        }
    }

    /** Men one behind the other in the pits; a set of men is an index, and nobody (0) needs nothing. */
    private static final class PitQueue {
        static final int SETS = 1 << MOST_MEN;
        static final int NEVER = 1000;

        final int[] need = new int[MOST_MEN];
        final int[] months = new int[SETS];
        final int[] pits = new int[SETS];

        /** Finds for every set of men the fewest pits that take it within n months. */
        void fill(int men, int n) {
            for (int m = 0; m < men; m++) {
                addMonths(m);
            }
            for (int set = 1; set < (1 << men); set++) {
                pits[set] = fewestPits(set, n);
            }
        }

        /** Every set with m as its last is one without him, for which months are known, and he. */
        void addMonths(int m) {
            int own = need[m] == NONE ? NEVER : need[m];
            for (int set = 0; set < (1 << m); set++) {
                months[set | (1 << m)] = months[set] + own;
            }
        }

        int fewestPits(int set, int n) {
            int fewest = NEVER;
            for (int part = set; part > 0; part = (part - 1) & set) {
                if (months[part] <= n) {
                    fewest = Math.min(fewest, pits[set ^ part] + 1);
                }
            }
            return fewest;
        }

        int mostWithin(int men, int free) {
            int best = 0;
            for (int set = 1; set < (1 << men); set++) {
                if (pits[set] <= free && Integer.bitCount(set) > Integer.bitCount(best)) {
                    best = set;
                }
            }
            return best;
        }
    }

    /** How much each saying hurt whom, after a stay that nobody counted. */
    private static final class Ears {
        final int[] man = new int[MOST_HEARD];
        final int[] saying = new int[MOST_HEARD];
        final int[] pain = new int[MOST_HEARD];
        int count;
        int stayCount;
        final int[] lastPain = new int[MOST_SAYINGS];
        final int[] lastPart = new int[MOST_SAYINGS];
        final int[] greatestPart = new int[MOST_SAYINGS];

        /** Only called while there is room. */
        int add(int m, int s, int v) {
            if (count < MOST_HEARD) {
                man[count] = m;
                saying[count] = s;
                pain[count] = v;
                count++;
            }
            return count;
        }

        boolean agree(Plan plan, Man tried, int m) {
            for (int i = 0; i < count; i++) {
                if (man[i] == m && plan.pain(tried, saying[i]) != pain[i]) {
                    return false;
                }
            }
            return true;
        }

        void clearParts() {
            stayCount = 0;
            for (int s = 0; s < MOST_SAYINGS; s++) {
                lastPain[s] = NONE;
                greatestPart[s] = 0;
            }
        }

        /**
         * Counts a stay, called with longer and longer ones: no skin gets thinner in
         * a pit, so that stays which a saying hurts alike follow one another.
         */
        void part(Plan plan, Man tried) {
            stayCount++;
            for (int s = 0; s < plan.sayings; s++) {
                int now = plan.pain(tried, s);
                lastPart[s] = now == lastPain[s] ? lastPart[s] + 1 : 1;
                lastPain[s] = now;
                greatestPart[s] = Math.max(greatestPart[s], lastPart[s]);
            }
        }

        /** A saying whose greatest part is all the stays parts nothing. */
        int bestParting(int sayings) {
            int best = NONE;
            int least = stayCount;
            for (int s = 0; s < sayings; s++) {
                if (greatestPart[s] < least) {
                    best = s;
                    least = greatestPart[s];
                }
            }
            return best;
        }
    }

    private static final class Book {
        final int[] man = new int[MOST_ENTRIES];
        final int[] wounds = new int[MOST_ENTRIES];
        int count;

        /** Only called while there is room. */
        int add(int m, int w) {
            if (count < MOST_ENTRIES) {
                man[count] = m;
                wounds[count] = w;
                count++;
            }
            return count;
        }

        int firstWrong(State state) {
            for (int i = 0; i < count; i++) {
                if (state.men[man[i]].wounds != wounds[i]) {
                    return i;
                }
            }
            return NONE;
        }
    }
}
