import java.util.Arrays;

public final class YearStretch {
    public static final int NONE = -1, BAD = -2, NO = -3, FULL = -4;

    private static final int SEASONS = 8, PEGS = 7, KINDS = 6, IMAGES = 2;
    private static final int LAST_SEASON = SEASONS - 1, MOST_WEEKS = 99, FIRST_WEEKS = 7;
    private static final int MOST_STRONG = 9, MOST_WORK = 60, MOST_BYTE = 127;
    private static final int FAR = 60, NEAR = 20, CHOICE_TURNS = 6;
    private static final int ALL_SEASONS = 255, MOST_DEBT = 800;
    private static final int TENTHS = 10, HUNDRED = 100, MOST_SEED = 999999;
    private static final long SEED_FACTOR = 1103515245L, SEED_STEP = 12345L;
    private static final long SEED_RANGE = 2147483648L, SEED_CUT = 65536L;
    private static final int EVERYONE = -1;
    private static final int OTHER_BAD = -10;
    private static final long DIGEST_START = 1109L, DIGEST_FACTOR = 31L;

    // columns of the tables of teams, works and what was measured
    private static final int KIND = 0, STRONG = 1, TEAM_SEASON = 2, TEAM_COLUMNS = 3;
    private static final int WORK_SEASON = 0, WORK_WEEKS = 1, WORK_COLUMNS = 2;
    private static final int MEASURED_TURNS = 0, MEASURED_SEASON = 1, MEASURED_WEEKS = 2, MEASURED_COLUMNS = 3;

    private static final int COUNTS = 7;

    private final Valley now;
    // every question about what comes is tried out here, so that nothing is changed by asking
    private final Valley trial;
    private final Valley[] images;
    private final boolean[] kept;
    private final Reader reader;
    private final int[] gains;
    private final int[][] outcomes;
    private long above, below;
    private int refusedBad, refusedNo, refusedFull;

    public YearStretch() {
        Plain[] kinds = new Plain[KINDS];
        kinds[0] = new Plain();
        kinds[1] = new Cooks();
        kinds[2] = new Boys();
        kinds[3] = new Hair();
        kinds[4] = new Tired();
        kinds[5] = new Greased();
        now = new Valley(kinds);
        trial = new Valley(kinds);
        images = new Valley[IMAGES];
        for (int i = 0; i < IMAGES; i++) {
            images[i] = new Valley(kinds);
        }
        kept = new boolean[IMAGES];
        reader = new Reader(new Valley(kinds));
        gains = new int[8];
        outcomes = new int[KINDS][SEASONS];
        below = 1;
    }

    // ---- a valley

    public int valley() {
        int teams = now.teams.size;
        now.begin();
        return teams;
    }

    public int weeks(int s, int n) {
        if (!isSeason(s) || !within(n, 0, MOST_WEEKS)) {
            return refuse(BAD);
        }
        now.past.keep(now.year);
        int before = now.year.weeks[s];
        now.year.weeks[s] = n;
        return before;
    }

    public int peg(int i) {
        if (!within(i, 0, PEGS - 1)) {
            return refuse(BAD);
        }
        now.past.keep(now.year);
        now.year.driveOrDraw(i);
        return now.year.pegAt(i);
    }

    public int team(int kind, int strong, int s) {
        if (!within(kind, 0, KINDS - 1) || !within(strong, 1, MOST_STRONG) || !isSeason(s)) {
            return refuse(BAD);
        }
        if (now.teams.isFull()) {
            return refuse(FULL);
        }
        now.past.empty();
        return now.teams.add(kind, strong, s);
    }

    public int work(int s, int n) {
        if (!isSeason(s) || !within(n, 1, MOST_WORK)) {
            return refuse(BAD);
        }
        if (now.works.isFull()) {
            return refuse(FULL);
        }
        return now.works.add(s, n, 0);
    }

    public int idle() {
        return now.works.empty();
    }

    public int type(int c) {
        if (!within(c, 0, MOST_BYTE)) {
            return refuse(BAD);
        }
        if (reader.isFull()) {
            return refuse(FULL);
        }
        return reader.append(c);
    }

    public int clear() {
        return reader.empty();
    }

    public int read() {
        int items = reader.items();
        if (items == NONE) {
            return OTHER_BAD - reader.start;
        }
        now.take(reader.draft);
        now.past.empty();
        return items;
    }

    // ---- turns

    public int turn(int n) {
        if (!within(n, 1, FAR)) {
            return refuse(BAD);
        }
        for (int i = 0; i < n; i++) {
            now.past.keep(now.year);
            now.pass(EVERYONE);
        }
        return now.year.turn;
    }

    public int undo() {
        if (now.past.size == 0) {
            return refuse(NO);
        }
        now.past.giveBack(now.year);
        return now.year.turn;
    }

    public int of(int s, int what) {
        if (!isSeason(s) || !within(what, 0, 3)) {
            return refuse(BAD);
        }
        switch (what) {
            case 0: return now.year.weeks[s];
            case 1: return now.year.weeks[s] == 0 ? 1 : 0;
            case 2: return now.teams.rowsWith(TEAM_SEASON, s);
            default: return now.works.rowsWith(WORK_SEASON, s);
        }
    }

    public int about(int team, int what) {
        if (!now.teams.has(team) || !within(what, 0, 4)) {
            refuse(BAD);
            return OTHER_BAD;
        }
        if (what < TEAM_COLUMNS) {
            return now.teams.cell(team, what);
        }
        int source = now.sourceFor(team);
        if (what == 3) {
            return source;
        }
        return source == NONE ? 0 : now.pullOf(team, source);
    }

    // ---- what comes

    public int then(int m, int s) {
        if (!within(m, 0, FAR) || !isSeason(s)) {
            return refuse(BAD);
        }
        return ahead(m).year.weeks[s];
    }

    public int folded(int m) {
        if (!within(m, 0, FAR)) {
            return refuse(BAD);
        }
        return ahead(m).year.foldedBits();
    }

    public int done(int m) {
        if (!within(m, 0, FAR)) {
            return refuse(BAD);
        }
        return ahead(m).doneBits();
    }

    public int when(int w) {
        if (w != NONE && !now.works.has(w)) {
            refuse(BAD);
            return OTHER_BAD;
        }
        int wanted = w == NONE ? now.works.allRows() : 1 << w;
        trial.take(now);
        for (int m = 0; m <= FAR; m++) {
            if ((trial.doneBits() & wanted) == wanted) {
                return m;
            }
            trial.pass(EVERYONE);
        }
        return NONE;
    }

    public int hands(int m) {
        if (!within(m, 0, NEAR)) {
            return refuse(BAD);
        }
        int best = NONE;
        int fewest = now.teams.size + 1;
        int wanted = now.works.allRows();
        trial.take(now);
        for (int who = 0; who <= now.teams.allRows(); who++) {
            if (Integer.bitCount(who) >= fewest) {
                continue;
            }
            trial.year.take(now.year);
            trial.passes(who, m);
            if (trial.doneBits() == wanted) {
                best = who;
                fewest = Integer.bitCount(who);
            }
        }
        return best;
    }

    public int pegIt(int s, int m) {
        if (!isSeason(s) || !within(m, 0, NEAR)) {
            return refuse(BAD);
        }
        int best = PEGS;
        int most = NONE;
        trial.take(now);
        for (int i = 0; i <= PEGS; i++) {
            trial.year.take(now.year);
            if (i < PEGS) {
                trial.year.driveOrDraw(i);
            }
            trial.passes(EVERYONE, m);
            if (trial.year.weeks[s] > most) {
                most = trial.year.weeks[s];
                best = i;
            }
        }
        return best;
    }

    public int choose(int a, int b, int n) {
        if (!now.teams.has(a) || !now.teams.has(b) || a == b || !within(n, 1, CHOICE_TURNS)) {
            return refuse(BAD);
        }
        for (int pair = 0; pair < 4; pair++) {
            tryPair(pair, a, b, n);
        }
        int resting = 0;
        for (int pair = 0; pair < 4; pair++) {
            boolean stays = gains[pair] >= gains[pair ^ 1];
            boolean otherStays = gains[4 + pair] >= gains[4 + (pair ^ 2)];
            if (stays && otherStays) {
                resting |= 1 << pair;
            }
        }
        return resting;
    }

    public int due(int w) {
        if (!within(w, 0, MOST_DEBT)) {
            return refuse(BAD);
        }
        int soFar = 0;
        for (int s = 0; s < SEASONS; s++) {
            soFar += now.year.weeks[s];
            if (soFar > w) {
                return s;
            }
        }
        return NONE;
    }

    public int age(int seasons, int m) {
        if (!within(seasons, 0, ALL_SEASONS) || !within(m, 0, FAR)) {
            return refuse(BAD);
        }
        int lived = 0;
        trial.take(now);
        for (int i = 0; i < m; i++) {
            lived += trial.year.weeksOf(seasons);
            trial.pass(EVERYONE);
        }
        return lived;
    }

    public int again() {
        trial.take(now);
        for (int m = 1; m <= FAR; m++) {
            trial.pass(EVERYONE);
            if (trial.year.isAsLongAs(now.year)) {
                return m;
            }
        }
        return NONE;
    }

    // ---- what was measured

    public int measured(int m, int s, int v) {
        if (!within(m, 0, NEAR) || !isSeason(s) || !within(v, 0, MOST_WEEKS)) {
            return refuse(BAD);
        }
        if (now.measured.isFull()) {
            return refuse(FULL);
        }
        now.measured.add(m, s, v);
        return now.measured.size;
    }

    public int forget() {
        return now.measured.empty();
    }

    public int is(int team) {
        if (!now.teams.has(team)) {
            return refuse(BAD);
        }
        return fitting(team, KIND, KINDS);
    }

    public int next(int team, int m) {
        if (!now.teams.has(team) || !within(m, 0, NEAR)) {
            return refuse(BAD);
        }
        int possible = fitting(team, KIND, KINDS);
        if (possible == 0) {
            return NONE;
        }
        foresee(team, possible, m);
        int best = 0;
        int fewest = KINDS + 1;
        for (int s = 0; s < SEASONS; s++) {
            int alike = mostAlike(possible, s);
            if (alike < fewest) {
                fewest = alike;
                best = s;
            }
        }
        return best;
    }

    public int wants(int team) {
        if (!now.teams.has(team)) {
            return refuse(BAD);
        }
        return fitting(team, TEAM_SEASON, SEASONS);
    }

    public int odds(int s, int n, int c) {
        if (!isSeason(s) || !within(n, 0, MOST_WEEKS) || !within(c, 0, TENTHS)) {
            return refuse(BAD);
        }
        long favourable = 0;
        trial.take(now);
        for (int who = 0; who <= now.teams.allRows(); who++) {
            trial.year.take(now.year);
            trial.pass(who);
            if (trial.year.weeks[s] >= n) {
                int pulling = Integer.bitCount(who);
                favourable += power(c, pulling) * power(TENTHS - c, now.teams.size - pulling);
            }
        }
        setFraction(favourable, power(TENTHS, now.teams.size));
        return 1;
    }

    public int years(int seed, int n, int w) {
        if (!within(seed, 0, MOST_SEED) || !within(n, 0, FAR) || !within(w, 0, HUNDRED)) {
            return refuse(BAD);
        }
        long x = seed;
        trial.take(now);
        for (int i = 0; i < n; i++) {
            int who = 0;
            for (int team = 0; team < now.teams.size; team++) {
                x = (x * SEED_FACTOR + SEED_STEP) % SEED_RANGE;
                if (x / SEED_CUT % HUNDRED < w) {
                    who |= 1 << team;
                }
            }
            trial.pass(who);
        }
        return Integer.bitCount(trial.doneBits());
    }

    // ---- what there is

    public long part(int what) {
        if (!within(what, 0, 1)) {
            return refuse(BAD);
        }
        return what == 0 ? above : below;
    }

    public int image(int i) {
        if (!within(i, 0, IMAGES - 1)) {
            return refuse(BAD);
        }
        images[i].take(now);
        images[i].past.take(now.past);
        kept[i] = true;
        return 1;
    }

    public int from(int i) {
        if (!within(i, 0, IMAGES - 1)) {
            return refuse(BAD);
        }
        if (!kept[i]) {
            return refuse(NO);
        }
        now.take(images[i]);
        now.past.take(images[i].past);
        return 1;
    }

    public int status(int what) {
        switch (what) {
            case 0: return refusedBad;
            case 1: return refusedNo;
            case 2: return refusedFull;
            default:
                refuse(BAD);
                return NONE;
        }
    }

    public int count(int what) {
        if (!within(what, 0, COUNTS - 1)) {
            return refuse(BAD);
        }
        return amount(what);
    }

    public long digest() {
        long h = DIGEST_START;
        for (int what = 0; what < COUNTS; what++) {
            h = mix(h, amount(what));
        }
        for (int s = 0; s < SEASONS; s++) {
            h = mix(h, now.year.weeks[s]);
        }
        for (int i = 0; i < PEGS; i++) {
            h = mix(h, now.year.pegAt(i));
        }
        h = now.teams.mixInto(h, TEAM_COLUMNS);
        h = now.works.mixInto(h, WORK_COLUMNS);
        h = now.measured.mixInto(h, MEASURED_COLUMNS);
        return mix(mix(h, above), below);
    }

    // ---- helpers

    private static boolean within(int n, int least, int most) {
        return n >= least && n <= most;
    }

    private static boolean isSeason(int s) {
        return within(s, 0, LAST_SEASON);
    }

    private static long mix(long h, long v) {
        return DIGEST_FACTOR * h + v;
    }

    private int refuse(int answer) {
        if (answer == BAD) {
            refusedBad++;
        } else if (answer == NO) {
            refusedNo++;
        } else {
            refusedFull++;
        }
        return answer;
    }

    private int amount(int what) {
        switch (what) {
            case 0: return now.teams.size;
            case 1: return now.works.size;
            case 2: return now.year.turn;
            case 3: return now.year.weeksOf(ALL_SEASONS);
            case 4: return now.measured.size;
            case 5: return now.past.size;
            default: return reader.size;
        }
    }

    private Valley ahead(int m) {
        trial.take(now);
        trial.passes(EVERYONE, m);
        return trial;
    }

    // pair has bit 1 if a, bit 2 if b pulls for the longest season; a's gain is kept at the pair, b's four on
    private void tryPair(int pair, int a, int b, int n) {
        int longest = now.year.longest();
        trial.take(now);
        if ((pair & 1) != 0) {
            trial.teams.change(a, TEAM_SEASON, longest);
        }
        if ((pair & 2) != 0) {
            trial.teams.change(b, TEAM_SEASON, longest);
        }
        trial.passes(EVERYONE, n);
        gains[pair] = trial.year.weeks[now.teams.cell(a, TEAM_SEASON)];
        gains[4 + pair] = trial.year.weeks[now.teams.cell(b, TEAM_SEASON)];
    }

    // which of the values 0 .. values - 1, put in the team's column, agree with all that was measured
    private int fitting(int team, int column, int values) {
        int fits = 0;
        trial.take(now);
        for (int value = 0; value < values; value++) {
            trial.year.take(now.year);
            trial.teams.change(team, column, value);
            if (trial.passesAsMeasured()) {
                fits |= 1 << value;
            }
        }
        return fits;
    }

    private void foresee(int team, int possible, int m) {
        trial.take(now);
        for (int kind = 0; kind < KINDS; kind++) {
            if ((possible & 1 << kind) == 0) {
                continue;
            }
            trial.year.take(now.year);
            trial.teams.change(team, KIND, kind);
            trial.passes(EVERYONE, m);
            System.arraycopy(trial.year.weeks, 0, outcomes[kind], 0, SEASONS);
        }
    }

    private int mostAlike(int possible, int s) {
        int most = 0;
        for (int kind = 0; kind < KINDS; kind++) {
            if ((possible & 1 << kind) == 0) {
                continue;
            }
            int alike = 0;
            for (int other = 0; other < KINDS; other++) {
                if ((possible & 1 << other) != 0 && outcomes[other][s] == outcomes[kind][s]) {
                    alike++;
                }
            }
            most = Math.max(most, alike);
        }
        return most;
    }

    private static long power(int base, int exponent) {
        long product = 1;
        for (int i = 0; i < exponent; i++) {
            product *= base;
        }
        return product;
    }

    private void setFraction(long top, long bottom) {
        long a = top;
        long b = bottom;
        // no two numbers up to a million need more than thirty steps
        for (int i = 0; i < HUNDRED && b != 0; i++) {
            long rest = a % b;
            a = b;
            b = rest;
        }
        if (a > 0) {
            above = top / a;
            below = bottom / a;
        }
    }

    // ---- the kinds of teams: how many weeks one pulls in turn t, by its own season's weeks and the other's

    private static class Plain {
        int pull(int strong, int t, int own, int other) {
            return strong;
        }
    }

    private static final class Cooks extends Plain {
        int pull(int strong, int t, int own, int other) {
            return other > own ? super.pull(strong, t, own, other) : 0;
        }
    }

    private static class Boys extends Plain {
        int pull(int strong, int t, int own, int other) {
            int plain = super.pull(strong, t, own, other);
            return t % 2 != 0 ? 2 * plain : plain;
        }
    }

    private static class Hair extends Plain {
        int pull(int strong, int t, int own, int other) {
            return super.pull(strong, t, own, other) + 2;
        }
    }

    private static final class Tired extends Boys {
        int pull(int strong, int t, int own, int other) {
            return Math.max(0, super.pull(strong, t, own, other) - t % 4);
        }
    }

    private static final class Greased extends Hair {
        int pull(int strong, int t, int own, int other) {
            return other >= 5 ? super.pull(strong, t, own, other) : 0;
        }
    }

    // what an undo brings back: the weeks, the pegs and the turn
    private static final class Year {
        final int[] weeks = new int[SEASONS];
        int pegs;
        int turn;

        void begin() {
            Arrays.fill(weeks, FIRST_WEEKS);
            pegs = 0;
            turn = 0;
        }

        void take(Year other) {
            System.arraycopy(other.weeks, 0, weeks, 0, SEASONS);
            pegs = other.pegs;
            turn = other.turn;
        }

        int pegAt(int i) {
            return pegs >> i & 1;
        }

        void driveOrDraw(int i) {
            pegs ^= 1 << i;
        }

        int sourceOf(int own) {
            int source = turn % 2 == 0 ? own - 1 : own + 1;
            boolean exists = source >= 0 && source < SEASONS;
            return exists && pegAt(Math.min(own, source)) == 0 ? source : NONE;
        }

        void move(int source, int own, int wanted) {
            int moved = Math.min(wanted, Math.min(weeks[source], MOST_WEEKS - weeks[own]));
            weeks[source] -= moved;
            weeks[own] += moved;
        }

        int weeksOf(int seasons) {
            int sum = 0;
            for (int s = 0; s < SEASONS; s++) {
                if ((seasons & 1 << s) != 0) {
                    sum += weeks[s];
                }
            }
            return sum;
        }

        int foldedBits() {
            int bits = 0;
            for (int s = 0; s < SEASONS; s++) {
                if (weeks[s] == 0) {
                    bits |= 1 << s;
                }
            }
            return bits;
        }

        int longest() {
            int best = 0;
            for (int s = 1; s < SEASONS; s++) {
                if (weeks[s] > weeks[best]) {
                    best = s;
                }
            }
            return best;
        }

        boolean isAsLongAs(Year other) {
            for (int s = 0; s < SEASONS; s++) {
                if (weeks[s] != other.weeks[s]) {
                    return false;
                }
            }
            return true;
        }
    }

    // up to six rows of up to three numbers, as they come: teams, works, what was measured
    private static final class Table {
        private static final int ROWS = 6, COLUMNS = 3;

        final int[] cells = new int[ROWS * COLUMNS];
        int size;

        boolean isFull() {
            return size >= ROWS;
        }

        boolean has(int row) {
            return row >= 0 && row < size;
        }

        int allRows() {
            return (1 << size) - 1;
        }

        int add(int first, int second, int third) {
            if (isFull()) {
                return NONE;
            }
            int at = size * COLUMNS;
            cells[at] = first;
            cells[at + 1] = second;
            cells[at + 2] = third;
            size++;
            return size - 1;
        }

        int empty() {
            int before = size;
            size = 0;
            return before;
        }

        void take(Table other) {
            System.arraycopy(other.cells, 0, cells, 0, ROWS * COLUMNS);
            size = other.size;
        }

        int cell(int row, int column) {
            return cells[row * COLUMNS + column];
        }

        void change(int row, int column, int value) {
            cells[row * COLUMNS + column] = value;
        }

        int rowsWith(int column, int value) {
            int bits = 0;
            for (int row = 0; row < size; row++) {
                if (cell(row, column) == value) {
                    bits |= 1 << row;
                }
            }
            return bits;
        }

        long mixInto(long start, int columns) {
            long h = start;
            for (int row = 0; row < size; row++) {
                for (int column = 0; column < columns; column++) {
                    h = mix(h, cell(row, column));
                }
            }
            return h;
        }
    }

    // the last eight years as they were, in a ring, so that the oldest one falls out by itself
    private static final class Past {
        private static final int MOST = 8;

        final int[] rows = new int[MOST * SEASONS];
        final int[] pegs = new int[MOST];
        final int[] turns = new int[MOST];
        int oldest;
        int size;

        void empty() {
            size = 0;
        }

        void take(Past other) {
            System.arraycopy(other.rows, 0, rows, 0, MOST * SEASONS);
            System.arraycopy(other.pegs, 0, pegs, 0, MOST);
            System.arraycopy(other.turns, 0, turns, 0, MOST);
            oldest = other.oldest;
            size = other.size;
        }

        void keep(Year year) {
            int slot = (oldest + size) % MOST;
            if (size == MOST) {
                oldest = (oldest + 1) % MOST;
            } else {
                size++;
            }
            System.arraycopy(year.weeks, 0, rows, slot * SEASONS, SEASONS);
            pegs[slot] = year.pegs;
            turns[slot] = year.turn;
        }

        void giveBack(Year year) {
            if (size == 0) {
                return;
            }
            size--;
            int slot = (oldest + size) % MOST;
            System.arraycopy(rows, slot * SEASONS, year.weeks, 0, SEASONS);
            year.pegs = pegs[slot];
            year.turn = turns[slot];
        }
    }

    private static final class Valley {
        final Plain[] kinds;
        final Year year = new Year();
        final Table teams = new Table();
        final Table works = new Table();
        final Table measured = new Table();
        final Past past = new Past();

        Valley(Plain[] allKinds) {
            kinds = allKinds;
            year.begin();
        }

        void begin() {
            year.begin();
            teams.empty();
            works.empty();
            measured.empty();
            past.empty();
        }

        // the past is left out, for trials never need it
        void take(Valley other) {
            year.take(other.year);
            teams.take(other.teams);
            works.take(other.works);
            measured.take(other.measured);
        }

        int sourceFor(int team) {
            return year.sourceOf(teams.cell(team, TEAM_SEASON));
        }

        int pullOf(int team, int source) {
            int own = teams.cell(team, TEAM_SEASON);
            Plain kind = kinds[teams.cell(team, KIND)];
            return kind.pull(teams.cell(team, STRONG), year.turn, year.weeks[own], year.weeks[source]);
        }

        void pass(int who) {
            for (int team = 0; team < teams.size; team++) {
                if ((who & 1 << team) == 0) {
                    continue;
                }
                int source = sourceFor(team);
                if (source != NONE) {
                    year.move(source, teams.cell(team, TEAM_SEASON), pullOf(team, source));
                }
            }
            year.turn++;
        }

        void passes(int who, int m) {
            for (int i = 0; i < m; i++) {
                pass(who);
            }
        }

        int doneBits() {
            int bits = 0;
            for (int w = 0; w < works.size; w++) {
                if (year.weeks[works.cell(w, WORK_SEASON)] >= works.cell(w, WORK_WEEKS)) {
                    bits |= 1 << w;
                }
            }
            return bits;
        }

        boolean passesAsMeasured() {
            int last = lastMeasured();
            for (int m = 0; m <= last; m++) {
                if (!isAsMeasured(m)) {
                    return false;
                }
                pass(EVERYONE);
            }
            return true;
        }

        private int lastMeasured() {
            int last = NONE;
            for (int row = 0; row < measured.size; row++) {
                last = Math.max(last, measured.cell(row, MEASURED_TURNS));
            }
            return last;
        }

        private boolean isAsMeasured(int m) {
            for (int row = 0; row < measured.size; row++) {
                boolean told = measured.cell(row, MEASURED_TURNS) == m;
                int s = measured.cell(row, MEASURED_SEASON);
                if (told && year.weeks[s] != measured.cell(row, MEASURED_WEEKS)) {
                    return false;
                }
            }
            return true;
        }
    }

    // keeps the text and reads it, token by token, into a draft, so that a fault leaves the valley as it is
    private static final class Reader {
        private static final int MOST_BYTES = 150, BLANK = 32;
        private static final int END = 0, WORD = 1, NUMBER = 2, STOP = 3, STRANGE = 4;
        private static final int MOST_FIGURES = 2;
        private static final int VALLEY = 0, WEEKS = 1, PEG = 2, TEAM = 3, WORK = 4;
        private static final int NUMBERS = 3;
        // by item, and by the place of a number in it: how many there are, the least and the most each may be
        private static final int[] AMOUNT = {0, 2, 1, 3, 2};
        private static final int[] LEAST = {0, 0, 0, 0, 0, 0, 0, 0, 0, 0, 1, 0, 0, 1, 0};
        private static final int[] MOST = {0, 0, 0, 7, 99, 0, 6, 0, 0, 5, 9, 7, 7, 60, 0};

        final Valley draft;
        final byte[] text = new byte[MOST_BYTES];
        final int[] numbers = new int[NUMBERS];
        int size;
        int start;
        int end;
        int sort;

        Reader(Valley emptyDraft) {
            draft = emptyDraft;
        }

        boolean isFull() {
            return size >= MOST_BYTES;
        }

        int append(int c) {
            if (!isFull()) {
                text[size] = (byte) c;
                size++;
            }
            return size;
        }

        int empty() {
            int before = size;
            size = 0;
            return before;
        }

        // NONE: a fault, at the start of the token that was looked at last (the end starts at the text's length)
        int items() {
            draft.begin();
            end = 0;
            int found = 0;
            // an item has a byte at least, so there are no more of them than bytes
            for (int i = 0; i <= size; i++) {
                scan();
                if (sort == END) {
                    break;
                }
                if (!readItem(found == 0)) {
                    return NONE;
                }
                found++;
            }
            return found == 0 ? NONE : found;
        }

        private boolean readItem(boolean first) {
            int item = sort == WORD ? itemNamed() : NONE;
            if (item == NONE || first != (item == VALLEY) || isTooMany(item)) {
                return false;
            }
            for (int i = 0; i < AMOUNT[item]; i++) {
                scan();
                int n = sort == NUMBER ? number() : NONE;
                if (n < LEAST[item * NUMBERS + i] || n > MOST[item * NUMBERS + i]) {
                    return false;
                }
                numbers[i] = n;
            }
            scan();
            if (sort != STOP) {
                return false;
            }
            put(item);
            return true;
        }

        private boolean isTooMany(int item) {
            return item == TEAM && draft.teams.isFull() || item == WORK && draft.works.isFull();
        }

        private void put(int item) {
            switch (item) {
                case WEEKS:
                    draft.year.weeks[numbers[0]] = numbers[1];
                    break;
                case PEG:
                    // told twice, a peg is still there
                    draft.year.pegs |= 1 << numbers[0];
                    break;
                case TEAM:
                    draft.teams.add(numbers[0], numbers[1], numbers[2]);
                    break;
                case WORK:
                    draft.works.add(numbers[0], numbers[1], 0);
                    break;
                default:
                    break;
            }
        }

        private void scan() {
            start = end;
            while (start < size && text[start] == BLANK) {
                start++;
            }
            end = start;
            if (start >= size) {
                sort = END;
                return;
            }
            sort = sortOf(text[start]);
            end = start + 1;
            // a stop, or a strange byte, is a token for itself
            while (end < size && (sort == WORD || sort == NUMBER) && sortOf(text[end]) == sort) {
                end++;
            }
        }

        private static int sortOf(int c) {
            if (c >= 'a' && c <= 'z') {
                return WORD;
            }
            if (c >= '0' && c <= '9') {
                return NUMBER;
            }
            return c == ';' ? STOP : STRANGE;
        }

        private int number() {
            if (end - start > MOST_FIGURES) {
                return NONE;
            }
            int n = 0;
            for (int i = start; i < end; i++) {
                n = n * 10 + (text[i] - '0');
            }
            return n;
        }

        private int itemNamed() {
            if (isNamed("valley")) {
                return VALLEY;
            }
            if (isNamed("weeks")) {
                return WEEKS;
            }
            if (isNamed("peg")) {
                return PEG;
            }
            if (isNamed("team")) {
                return TEAM;
            }
            return isNamed("work") ? WORK : NONE;
        }

        private boolean isNamed(String name) {
            if (name.length() != end - start) {
                return false;
            }
            for (int i = 0; i < name.length(); i++) {
                if (text[start + i] != name.charAt(i)) {
                    return false;
                }
            }
            return true;
        }
    }
}
