import java.util.ArrayDeque;
import java.util.ArrayList;
import java.util.Deque;
import java.util.HashMap;
import java.util.List;
import java.util.Map;

/** The document told a second time, with the Java library and without thrift, to compare runs with. */
final class Model {
    private static final int NONE = -1;
    private static final int UNKNOWN = -1000000001;
    private static final int OUTSIDE = -1000000002;
    private static final int NOT = -1000000003;
    private static final int FULL = -1000000004;

    /** All of section 2. */
    private static final class Now {
        int months;
        int bark;
        int glue;
        List<int[]> soft = new ArrayList<>();
        List<int[]> thick = new ArrayList<>();
        List<Integer> wounds = new ArrayList<>();
        List<Boolean> in = new ArrayList<>();

        Now copy() {
            Now other = new Now();
            other.months = months;
            other.bark = bark;
            other.glue = glue;
            for (int[] row : soft) {
                other.soft.add(row.clone());
            }
            for (int[] row : thick) {
                other.thick.add(row.clone());
            }
            other.wounds.addAll(wounds);
            other.in.addAll(in);
            return other;
        }
    }

    private String text = "";
    private int fault = NONE;
    private int pits;
    private int firstBark;
    private List<int[]> men = new ArrayList<>();
    private List<int[]> sayings = new ArrayList<>();
    private Now now = new Now();
    private final Deque<Now> undone = new ArrayDeque<>();
    private final Now[] images = new Now[2];
    private final long[] imageSeeds = new long[2];
    private final List<int[]> heard = new ArrayList<>();
    private final List<int[]> book = new ArrayList<>();
    private long seed;

    // ---- the text

    private static final class Faulty extends Exception {
        private static final long serialVersionUID = 1L;
        final int kind;
        final int at;

        Faulty(int kind, int at) {
            this.kind = kind;
            this.at = at;
        }
    }

    /** What is due behind a word: bounds of numbers and marks. */
    private static final Map<Character, String> DUE = Map.of(
        't', "1-3 1-9 ;",
        'm', "0-3 0-30 , 0-30 , 0-30 , 0-30 , 0-30 ;",
        's', "0-4 1-60 ;");

    /** Each clause as its word and numbers. */
    private static List<int[]> clauses(String text) throws Faulty {
        List<int[]> clauses = new ArrayList<>();
        int[] seen = new int[128];
        int i = 0;
        while (true) {
            while (i < text.length() && text.charAt(i) == ' ') {
                i++;
            }
            if (i == text.length()) {
                return clauses;
            }
            char word = text.charAt(i);
            if (!DUE.containsKey(word) || clauses.isEmpty() && word != 't') {
                throw new Faulty(1, i);
            }
            int most = word == 't' ? 1 : word == 'm' ? 6 : 8;
            if (++seen[word] > most) {
                throw new Faulty(3, i);
            }
            i++;
            List<Integer> numbers = new ArrayList<>();
            numbers.add((int) word);
            for (String due : DUE.get(word).split(" ")) {
                while (i < text.length() && text.charAt(i) == ' ') {
                    i++;
                }
                if (due.length() == 1) {
                    if (!text.startsWith(due, i)) {
                        throw new Faulty(1, i);
                    }
                    i++;
                    continue;
                }
                int end = i;
                while (end < text.length() && "0123456789".indexOf(text.charAt(end)) >= 0) {
                    end++;
                }
                if (end == i) {
                    throw new Faulty(1, i);
                }
                String[] bounds = due.split("-");
                int number = end - i > 3 ? -1 : Integer.parseInt(text.substring(i, end));
                if (number < Integer.parseInt(bounds[0]) || number > Integer.parseInt(bounds[1])) {
                    throw new Faulty(2, i);
                }
                numbers.add(number);
                i = end;
            }
            clauses.add(numbers.stream().mapToInt(Integer::intValue).toArray());
        }
    }

    int feed(int letter) {
        if (letter < 0 || letter > 255) {
            return OUTSIDE;
        }
        if (text.length() == 240) {
            return FULL;
        }
        text += (char) letter;
        return text.length();
    }

    int yard() {
        String whole = text;
        text = "";
        List<int[]> clauses;
        try {
            clauses = clauses(whole);
        } catch (Faulty faulty) {
            fault = faulty.at;
            return -10 - faulty.kind;
        }
        fault = NONE;
        pits = 0;
        firstBark = 0;
        men = new ArrayList<>();
        sayings = new ArrayList<>();
        now = new Now();
        for (int[] clause : clauses) {
            if (clause[0] == 't') {
                pits = clause[1];
                firstBark = clause[2];
            } else if (clause[0] == 'm') {
                men.add(new int[] {clause[1], clause[2], clause[3], clause[4], clause[5], clause[6]});
                now.soft.add(new int[] {clause[2], clause[3], clause[4], clause[5], clause[6]});
                now.thick.add(new int[5]);
                now.wounds.add(0);
                now.in.add(false);
            } else {
                sayings.add(new int[] {clause[1], clause[2]});
            }
        }
        now.bark = firstBark;
        undone.clear();
        images[0] = null;
        images[1] = null;
        heard.clear();
        book.clear();
        return men.size();
    }

    int fault() {
        return fault;
    }

    // ---- what is so

    private boolean noMan(int m) {
        return m < 0 || m >= men.size();
    }

    private boolean noSaying(int s) {
        return s < 0 || s >= sayings.size();
    }

    private boolean noSet(int set) {
        for (int bit = 0; bit < 32; bit++) {
            if ((set & (1 << bit)) != 0 && noSaying(bit)) {
                return true;
            }
        }
        return false;
    }

    private int pain(int[] soft, int[] thick, int s) {
        int place = sayings.get(s)[0];
        int hurt = sayings.get(s)[1] + soft[place] - thick[place];
        return hurt < 0 ? 0 : hurt;
    }

    private int pain(int m, int s) {
        return pain(now.soft.get(m), now.thick.get(m), s);
    }

    private int borne(int m) {
        int set = 0;
        for (int s = 0; s < sayings.size(); s++) {
            set += pain(m, s) <= 5 ? 1 << s : 0;
        }
        return set;
    }

    private int best() {
        int best = NONE;
        int least = Integer.MAX_VALUE;
        for (int m = 0; m < men.size(); m++) {
            int sum = 0;
            for (int s = 0; s < sayings.size(); s++) {
                sum += pain(m, s);
            }
            if (sum < least) {
                least = sum;
                best = m;
            }
        }
        return best;
    }

    private int chosen() {
        if (men.isEmpty() || sayings.isEmpty()) {
            return NONE;
        }
        int[] votes = new int[men.size()];
        for (int s = 0; s < sayings.size(); s++) {
            int least = 0;
            for (int m = 0; m < men.size(); m++) {
                least = pain(m, s) < pain(least, s) ? m : least;
            }
            votes[least]++;
        }
        int most = 0;
        for (int m = 0; m < votes.length; m++) {
            most = votes[m] > votes[most] ? m : most;
        }
        return most;
    }

    private int tender() {
        int at = NONE;
        int most = Integer.MIN_VALUE;
        for (int m = 0; m < men.size(); m++) {
            for (int p = 0; p < 5; p++) {
                int tender = now.soft.get(m)[p] - now.thick.get(m)[p];
                if (tender > most) {
                    most = tender;
                    at = 10 * m + p;
                }
            }
        }
        return at;
    }

    int told(int what) {
        int inside = 0;
        int wounds = 0;
        for (int m = 0; m < men.size(); m++) {
            inside += now.in.get(m) ? 1 << m : 0;
            wounds += now.wounds.get(m);
        }
        int[] all = {
            pits, now.bark, men.size(), sayings.size(), text.length(), now.months, inside, now.glue, wounds,
            best(), chosen(), tender(), heard.size(), book.size(), undone.size()
        };
        return what < 0 || what >= all.length ? OUTSIDE : all[what];
    }

    int man(int m, int what) {
        if (noMan(m)) {
            return UNKNOWN;
        }
        if (what < 0 || what > 4) {
            return OUTSIDE;
        }
        int felt = 0;
        for (int s = 0; s < sayings.size(); s++) {
            felt += pain(m, s) > 0 ? 1 << s : 0;
        }
        return new int[] {men.get(m)[0], now.in.get(m) ? 1 : 0, now.wounds.get(m), borne(m), felt}[what];
    }

    int skin(int m, int place, int what) {
        if (noMan(m)) {
            return UNKNOWN;
        }
        if (place < 0 || place > 4 || what < 0 || what > 1) {
            return OUTSIDE;
        }
        return (what == 0 ? now.soft : now.thick).get(m)[place];
    }

    int saying(int s, int what) {
        if (noSaying(s)) {
            return UNKNOWN;
        }
        return what < 0 || what > 1 ? OUTSIDE : sayings.get(s)[what];
    }

    int hurt(int m, int s) {
        return noMan(m) || noSaying(s) ? UNKNOWN : pain(m, s);
    }

    // ---- what is done

    /** How thick somebody is behind a month in a pit. */
    private static int[] tanned(int kind, int[] thick, int bark, int months) {
        int[] more = new int[5];
        if (kind == 0) {
            more = new int[] {bark, bark, bark, bark, bark};
        } else if (kind == 1) {
            int by = 1 + bark / 2;
            more = new int[] {by, by, 0, by, by};
        } else if (kind == 2) {
            more[months % 5] = 1;
        } else {
            int least = 4;
            for (int p = 3; p >= 0; p--) {
                least = thick[p] <= thick[least] ? p : least;
            }
            more[least] = bark + bark + bark;
        }
        int[] then = new int[5];
        for (int p = 0; p < 5; p++) {
            then[p] = thick[p] + more[p] > 99 ? 99 : thick[p] + more[p];
        }
        return then;
    }

    private void remember() {
        undone.addLast(now.copy());
        if (undone.size() > 16) {
            undone.removeFirst();
        }
    }

    private void monthPasses() {
        for (int m = 0; m < men.size(); m++) {
            if (now.in.get(m)) {
                now.thick.set(m, tanned(men.get(m)[0], now.thick.get(m), now.bark, now.months));
            }
        }
        now.months++;
    }

    private int free() {
        int inside = 0;
        for (boolean in : now.in) {
            inside += in ? 1 : 0;
        }
        return pits - inside;
    }

    private void wound(int m, int s) {
        int wounds = now.wounds.get(m) + pain(m, s);
        now.wounds.set(m, wounds > 99999 ? 99999 : wounds);
    }

    int month(int n) {
        if (n < 1 || n > 60) {
            return OUTSIDE;
        }
        if (pits == 0) {
            return NOT;
        }
        if (now.months > 9000) {
            return FULL;
        }
        remember();
        for (int i = 0; i < n; i++) {
            monthPasses();
        }
        return now.months;
    }

    int in(int m) {
        if (noMan(m)) {
            return UNKNOWN;
        }
        if (now.in.get(m)) {
            return NOT;
        }
        if (free() == 0) {
            return FULL;
        }
        remember();
        now.in.set(m, true);
        return free();
    }

    int out(int m) {
        if (noMan(m)) {
            return UNKNOWN;
        }
        if (!now.in.get(m)) {
            return NOT;
        }
        remember();
        now.in.set(m, false);
        return borne(m);
    }

    int scrape(int m, int place, int n) {
        if (noMan(m)) {
            return UNKNOWN;
        }
        if (place < 0 || place > 4 || n < 1 || n > 30) {
            return OUTSIDE;
        }
        if (now.soft.get(m)[place] < n) {
            return NOT;
        }
        remember();
        now.glue += n;
        return now.soft.get(m)[place] -= n;
    }

    int say(int s, int m) {
        if (noMan(m) || noSaying(s)) {
            return UNKNOWN;
        }
        remember();
        wound(m, s);
        return now.wounds.get(m);
    }

    int bark(int b) {
        if (b < 1 || b > 9) {
            return OUTSIDE;
        }
        if (pits == 0) {
            return NOT;
        }
        remember();
        int was = now.bark;
        now.bark = b;
        return was;
    }

    private int draw(int n) {
        seed = (seed * 1103515245L + 12345L) % 2147483648L;
        return (int) (seed / 65536 % n);
    }

    int drift(int n) {
        if (n < 1 || n > 60) {
            return OUTSIDE;
        }
        if (pits == 0) {
            return NOT;
        }
        if (now.months > 9000) {
            return FULL;
        }
        remember();
        for (int i = 0; i < n; i++) {
            if (!men.isEmpty()) {
                drawnDeed();
            }
            monthPasses();
        }
        return now.months;
    }

    private void drawnDeed() {
        int deed = draw(5);
        int m = draw(men.size());
        switch (deed) {
            case 0 -> {
                if (!now.in.get(m) && free() > 0) {
                    now.in.set(m, true);
                }
            }
            case 1 -> now.in.set(m, false);
            case 2 -> {
                if (!sayings.isEmpty()) {
                    wound(m, draw(sayings.size()));
                }
            }
            case 3 -> {
                int place = draw(5);
                if (now.soft.get(m)[place] > 0) {
                    now.soft.get(m)[place]--;
                    now.glue++;
                }
            }
            default -> { }
        }
    }

    int undo() {
        if (undone.isEmpty()) {
            return NOT;
        }
        now = undone.removeLast();
        return undone.size();
    }

    // ---- tried

    /** How thick somebody is behind 0 to n months in a pit. */
    private static int[][] course(int kind, int[] thick, int bark, int months, int n) {
        int[][] course = new int[n + 1][];
        course[0] = thick;
        for (int i = 1; i <= n; i++) {
            course[i] = tanned(kind, course[i - 1], bark, months + i - 1);
        }
        return course;
    }

    private int[][] courseFromNow(int m) {
        return course(men.get(m)[0], now.thick.get(m), now.bark, now.months, 200);
    }

    private int[] firstSoft(int m) {
        int[] told = men.get(m);
        return new int[] {told[1], told[2], told[3], told[4], told[5]};
    }

    int thick(int m, int place, int n) {
        if (noMan(m)) {
            return UNKNOWN;
        }
        if (place < 0 || place > 4 || n < 0 || n > 200) {
            return OUTSIDE;
        }
        return courseFromNow(m)[n][place];
    }

    private static int oneOf(List<Integer> found, int what) {
        if (what == 0) {
            return found.size();
        }
        if (found.isEmpty()) {
            return NONE;
        }
        return what == 1 ? found.get(0) : found.get(found.size() - 1);
    }

    private List<Integer> edges(int m, int bears, int feels) {
        List<Integer> found = new ArrayList<>();
        int[][] course = courseFromNow(m);
        for (int n = 0; n <= 200; n++) {
            boolean fits = true;
            for (int s = 0; s < sayings.size(); s++) {
                int pain = pain(now.soft.get(m), course[n], s);
                fits &= (bears & 1 << s) == 0 || pain <= 5;
                fits &= (feels & 1 << s) == 0 || pain >= 1;
            }
            if (fits) {
                found.add(n);
            }
        }
        return found;
    }

    int when(int m, int s, int what) {
        if (noMan(m) || noSaying(s)) {
            return UNKNOWN;
        }
        if (what < 0 || what > 1) {
            return OUTSIDE;
        }
        return what == 0 ? oneOf(edges(m, 1 << s, 0), 1) : oneOf(edges(m, 0, 1 << s), 2);
    }

    int edge(int m, int bears, int feels, int what) {
        if (noMan(m) || noSet(bears) || noSet(feels)) {
            return UNKNOWN;
        }
        return what < 0 || what > 2 ? OUTSIDE : oneOf(edges(m, bears, feels), what);
    }

    /** Scrapes a place by 0, 1, .. until all that is said of it is borne. */
    int scraping(int m, int set) {
        if (noMan(m) || noSet(set)) {
            return UNKNOWN;
        }
        int sum = 0;
        for (int p = 0; p < 5; p++) {
            int[] soft = now.soft.get(m).clone();
            while (!bornIn(m, p, set, soft)) {
                if (soft[p] == 0) {
                    return NONE;
                }
                soft[p]--;
                sum++;
            }
        }
        return sum;
    }

    private boolean bornIn(int m, int place, int set, int[] soft) {
        for (int s = 0; s < sayings.size(); s++) {
            if ((set & 1 << s) != 0 && sayings.get(s)[0] == place && pain(soft, now.thick.get(m), s) > 5) {
                return false;
            }
        }
        return true;
    }

    int through(int n, int what) {
        if (n < 0 || n > 200 || what < 0 || what > 1) {
            return OUTSIDE;
        }
        if (pits == 0) {
            return NOT;
        }
        int[] needs = new int[men.size()];
        for (int m = 0; m < needs.length; m++) {
            needs[m] = oneOf(edges(m, (1 << sayings.size()) - 1, 0), 1);
        }
        int best = 0;
        // each man is in pit 0, 1, 2, or (3) in none
        for (long way = 0; way < 1L << 2 * needs.length; way++) {
            int[] months = new int[4];
            int set = 0;
            boolean can = true;
            for (int m = 0; m < needs.length; m++) {
                int pit = (int) (way >> 2 * m & 3);
                if (pit == 3) {
                    continue;
                }
                can &= pit < pits && needs[m] != NONE;
                months[pit] += needs[m];
                set |= 1 << m;
            }
            can &= months[0] <= n && months[1] <= n && months[2] <= n;
            int more = Integer.compare(Integer.bitCount(set), Integer.bitCount(best));
            if (can && (more > 0 || more == 0 && set < best)) {
                best = set;
            }
        }
        return what == 0 ? Integer.bitCount(best) : best;
    }

    int over(int m, int q) {
        if (noMan(m) || noMan(q) || m == q) {
            return UNKNOWN;
        }
        int more = 0;
        int less = 0;
        for (int p = 0; p < 5; p++) {
            more += now.thick.get(m)[p] > now.thick.get(q)[p] ? 1 : 0;
            less += now.thick.get(m)[p] < now.thick.get(q)[p] ? 1 : 0;
        }
        return more > less ? 1 : 0;
    }

    int quiet(int n, int q) {
        if (n < 0 || n > 60 || q < 0 || q > 100) {
            return OUTSIDE;
        }
        return n == 0 ? 1000000000 : (int) ((long) quiet(n - 1, q) * q / 100);
    }

    // ---- what is heard

    int hear(int m, int s, int v) {
        if (noMan(m) || noSaying(s)) {
            return UNKNOWN;
        }
        if (v < 0 || v > 99) {
            return OUTSIDE;
        }
        if (heard.size() == 6) {
            return FULL;
        }
        heard.add(new int[] {m, s, v});
        return heard.size();
    }

    private List<Integer> fitting(int m) {
        List<Integer> found = new ArrayList<>();
        int[][] course = course(men.get(m)[0], new int[5], firstBark, 0, 60);
        for (int n = 0; n <= 60; n++) {
            int[] then = course[n];
            if (heard.stream().allMatch(h -> h[0] != m || pain(firstSoft(m), then, h[1]) == h[2])) {
                found.add(n);
            }
        }
        return found;
    }

    int stays(int m, int what) {
        if (noMan(m)) {
            return UNKNOWN;
        }
        return what < 0 || what > 2 ? OUTSIDE : oneOf(fitting(m), what);
    }

    int ask(int m) {
        if (noMan(m)) {
            return UNKNOWN;
        }
        int[][] course = course(men.get(m)[0], new int[5], firstBark, 0, 60);
        List<Integer> found = fitting(m);
        int best = NONE;
        int least = Integer.MAX_VALUE;
        for (int s = 0; s < sayings.size(); s++) {
            Map<Integer, Integer> parts = new HashMap<>();
            for (int n : found) {
                parts.merge(pain(firstSoft(m), course[n], s), 1, Integer::sum);
            }
            int greatest = parts.values().stream().mapToInt(Integer::intValue).max().orElse(0);
            if (parts.size() > 1 && greatest < least) {
                least = greatest;
                best = s;
            }
        }
        return best;
    }

    int write(int m, int wounds) {
        if (noMan(m)) {
            return UNKNOWN;
        }
        if (wounds < 0 || wounds > 99999) {
            return OUTSIDE;
        }
        if (book.size() == 15) {
            return FULL;
        }
        book.add(new int[] {m, wounds});
        return book.size();
    }

    int tear() {
        int both = heard.size() + book.size();
        heard.clear();
        book.clear();
        return both;
    }

    int judge() {
        for (int i = 0; i < book.size(); i++) {
            if (now.wounds.get(book.get(i)[0]) != book.get(i)[1]) {
                return i;
            }
        }
        return NONE;
    }

    // ---- draws, images

    int seed(int v) {
        if (v < 0) {
            return OUTSIDE;
        }
        int was = (int) seed;
        seed = v;
        return was;
    }

    int keep(int i) {
        if (i != 0 && i != 1) {
            return UNKNOWN;
        }
        images[i] = now.copy();
        imageSeeds[i] = seed;
        undone.clear();
        return 1;
    }

    int goBack(int i) {
        if (i != 0 && i != 1) {
            return UNKNOWN;
        }
        if (images[i] == null) {
            return NOT;
        }
        now = images[i].copy();
        seed = imageSeeds[i];
        undone.clear();
        return 1;
    }
}
