import java.util.ArrayDeque;
import java.util.ArrayList;
import java.util.Arrays;
import java.util.Deque;
import java.util.HashMap;
import java.util.List;
import java.util.Map;
import java.util.Random;
import java.util.regex.Matcher;
import java.util.regex.Pattern;

// Random runs of calls, by fixed seeds, on the class and on a second writing of the document that
// shares nothing with it: every answer and every digest must be the same.
public final class ModelTest {
    private static final int RUNS = 900, CALLS = 512, MOST_TO_TYPE = 200, MOST_TO_MEASURE = 8;
    private static final int NONE = -1, BAD = -2, NO = -3, FULL = -4;

    // a valley that is never changed: each step makes another one
    private record Snapshot(int[] weeks, boolean[] pegs, int turn) {
        static Snapshot first() {
            int[] weeks = new int[8];
            Arrays.fill(weeks, 7);
            return new Snapshot(weeks, new boolean[7], 0);
        }

        Snapshot withWeeks(int s, int n) {
            int[] w = weeks.clone();
            w[s] = n;
            return new Snapshot(w, pegs, turn);
        }

        Snapshot withPeg(int i, boolean there) {
            boolean[] p = pegs.clone();
            p[i] = there;
            return new Snapshot(weeks, p, turn);
        }
    }

    private record Team(int kind, int strong, int season) {
    }

    private record Work(int season, int weeks) {
    }

    private record Measure(int m, int s, int v) {
    }

    private record State(Snapshot year, List<Team> teams, List<Work> works, List<Measure> measures, List<Snapshot> past) {
        static State first() {
            return new State(Snapshot.first(), List.of(), List.of(), List.of(), List.of());
        }

        State changed(Snapshot next) {
            List<Snapshot> p = plus(past, year);
            return new State(next, teams, works, measures, p.size() > 8 ? p.subList(1, 9) : p);
        }
    }

    private static <T> List<T> plus(List<T> list, T item) {
        List<T> longer = new ArrayList<>(list);
        longer.add(item);
        return longer;
    }

    private static final class Model {
        State st = State.first();
        final Map<Integer, State> images = new HashMap<>();
        String text = "";
        long above = 0, below = 1;
        int bad, no, full;

        static int strength(Team team, int kind, int t, int o, int d) {
            switch (kind) {
                case 0: return team.strong;
                case 1: return d > o ? strength(team, 0, t, o, d) : 0;
                case 2: return strength(team, 0, t, o, d) * (t % 2 == 1 ? 2 : 1);
                case 3: return strength(team, 0, t, o, d) + 2;
                case 4: return Math.max(0, strength(team, 2, t, o, d) - t % 4);
                default: return d >= 5 ? strength(team, 3, t, o, d) : 0;
            }
        }

        static int source(Team team, Snapshot year) {
            if (year.turn % 2 == 0) {
                return team.season > 0 && !year.pegs[team.season - 1] ? team.season - 1 : NONE;
            }
            return team.season < 7 && !year.pegs[team.season] ? team.season + 1 : NONE;
        }

        static Snapshot step(Snapshot year, List<Team> teams, int who) {
            int[] w = year.weeks.clone();
            for (int i = 0; i < teams.size(); i++) {
                Team team = teams.get(i);
                int from = source(team, year);
                if ((who >> i & 1) == 0 || from == NONE) {
                    continue;
                }
                int want = strength(team, team.kind, year.turn, w[team.season], w[from]);
                while (want > 0 && w[from] > 0 && w[team.season] < 99) {
                    want--;
                    w[from]--;
                    w[team.season]++;
                }
            }
            return new Snapshot(w, year.pegs, year.turn + 1);
        }

        static Snapshot steps(Snapshot year, List<Team> teams, int who, int m) {
            return m == 0 ? year : steps(step(year, teams, who), teams, who, m - 1);
        }

        Snapshot later(int m) {
            return steps(st.year, st.teams, 63, m);
        }

        int doneIn(Snapshot year) {
            int bits = 0;
            for (int w = 0; w < st.works.size(); w++) {
                bits += year.weeks[st.works.get(w).season] >= st.works.get(w).weeks ? 1 << w : 0;
            }
            return bits;
        }

        int allWorks() {
            return (1 << st.works.size()) - 1;
        }

        List<Team> teamsWith(int i, Team team) {
            List<Team> teams = new ArrayList<>(st.teams);
            teams.set(i, team);
            return teams;
        }

        boolean agrees(List<Team> teams) {
            return st.measures.stream().allMatch(x -> steps(st.year, teams, 63, x.m).weeks[x.s] == x.v);
        }

        static boolean in(int n, int least, int most) {
            return least <= n && n <= most;
        }

        boolean isTeam(int i) {
            return in(i, 0, st.teams.size() - 1);
        }

        long answer(String name, int... a) {
            long got = call(name, a);
            if (got == BAD || name.equals("about") && got == -10 || name.equals("when") && got == -10
                    || name.equals("status") && got == -1) {
                bad++;
            }
            if (!name.equals("read") && !name.equals("digest")) {
                no += got == NO ? 1 : 0;
                full += got == FULL ? 1 : 0;
            }
            return got;
        }

        private long call(String name, int... a) {
            switch (name) {
                case "valley": {
                    int n = st.teams.size();
                    st = State.first();
                    return n;
                }
                case "weeks": {
                    if (!in(a[0], 0, 7) || !in(a[1], 0, 99)) return BAD;
                    int was = st.year.weeks[a[0]];
                    st = st.changed(st.year.withWeeks(a[0], a[1]));
                    return was;
                }
                case "peg": {
                    if (!in(a[0], 0, 6)) return BAD;
                    boolean there = !st.year.pegs[a[0]];
                    st = st.changed(st.year.withPeg(a[0], there));
                    return there ? 1 : 0;
                }
                case "team":
                    if (!in(a[0], 0, 5) || !in(a[1], 1, 9) || !in(a[2], 0, 7)) return BAD;
                    if (st.teams.size() == 6) return FULL;
                    st = new State(st.year, plus(st.teams, new Team(a[0], a[1], a[2])), st.works, st.measures, List.of());
                    return st.teams.size() - 1;
                case "work":
                    if (!in(a[0], 0, 7) || !in(a[1], 1, 60)) return BAD;
                    if (st.works.size() == 6) return FULL;
                    st = new State(st.year, st.teams, plus(st.works, new Work(a[0], a[1])), st.measures, st.past);
                    return st.works.size() - 1;
                case "idle": {
                    int n = st.works.size();
                    st = new State(st.year, st.teams, List.of(), st.measures, st.past);
                    return n;
                }
                case "type":
                    if (!in(a[0], 0, 127)) return BAD;
                    if (text.length() == 150) return FULL;
                    text += (char) a[0];
                    return text.length();
                case "clear": {
                    int n = text.length();
                    text = "";
                    return n;
                }
                case "read": return readText();
                case "turn":
                    if (!in(a[0], 1, 60)) return BAD;
                    for (int i = 0; i < a[0]; i++) {
                        st = st.changed(later(1));
                    }
                    return st.year.turn;
                case "undo": {
                    if (st.past.isEmpty()) return NO;
                    int last = st.past.size() - 1;
                    st = new State(st.past.get(last), st.teams, st.works, st.measures, st.past.subList(0, last));
                    return st.year.turn;
                }
                default: return whatComes(name, a);
            }
        }

        private long whatComes(String name, int... a) {
            switch (name) {
                case "of": return ofSeason(a[0], a[1]);
                case "about": return aboutTeam(a[0], a[1]);
                case "then": return in(a[0], 0, 60) && in(a[1], 0, 7) ? later(a[0]).weeks[a[1]] : BAD;
                case "folded": {
                    if (!in(a[0], 0, 60)) return BAD;
                    int bits = 0;
                    for (int s = 0; s < 8; s++) {
                        bits += later(a[0]).weeks[s] == 0 ? 1 << s : 0;
                    }
                    return bits;
                }
                case "done": return in(a[0], 0, 60) ? doneIn(later(a[0])) : BAD;
                case "when": {
                    if (!in(a[0], -1, st.works.size() - 1)) return -10;
                    for (int m = 0; m <= 60; m++) {
                        int bits = doneIn(later(m));
                        if (a[0] == NONE ? bits == allWorks() : (bits >> a[0] & 1) == 1) return m;
                    }
                    return NONE;
                }
                case "hands": {
                    if (!in(a[0], 0, 20)) return BAD;
                    for (int many = 0; many <= st.teams.size(); many++) {
                        for (int who = 0; who < 1 << st.teams.size(); who++) {
                            if (Integer.bitCount(who) == many
                                    && doneIn(steps(st.year, st.teams, who, a[0])) == allWorks()) return who;
                        }
                    }
                    return NONE;
                }
                case "pegIt": {
                    if (!in(a[0], 0, 7) || !in(a[1], 0, 20)) return BAD;
                    int[] has = new int[8];
                    for (int i = 0; i < 8; i++) {
                        Snapshot y = i == 7 ? st.year : st.year.withPeg(i, !st.year.pegs[i]);
                        has[i] = steps(y, st.teams, 63, a[1]).weeks[a[0]];
                    }
                    int most = Arrays.stream(has).max().getAsInt();
                    for (int i = 0; i < 8; i++) {
                        if (has[i] == most) return i;
                    }
                    return -99;
                }
                case "choose": return chosen(a[0], a[1], a[2]);
                case "due": {
                    if (!in(a[0], 0, 800)) return BAD;
                    for (int s = 0; s < 8; s++) {
                        if (Arrays.stream(st.year.weeks, 0, s + 1).sum() > a[0]) return s;
                    }
                    return NONE;
                }
                case "age": {
                    if (!in(a[0], 0, 255) || !in(a[1], 0, 60)) return BAD;
                    int sum = 0;
                    for (int m = 0; m < a[1]; m++) {
                        for (int s = 0; s < 8; s++) {
                            sum += (a[0] >> s & 1) * later(m).weeks[s];
                        }
                    }
                    return sum;
                }
                case "again":
                    for (int m = 1; m <= 60; m++) {
                        if (Arrays.equals(later(m).weeks, st.year.weeks)) return m;
                    }
                    return NONE;
                default: return whatWasMeasured(name, a);
            }
        }

        private long whatWasMeasured(String name, int... a) {
            switch (name) {
                case "measured":
                    if (!in(a[0], 0, 20) || !in(a[1], 0, 7) || !in(a[2], 0, 99)) return BAD;
                    if (st.measures.size() == 6) return FULL;
                    st = new State(st.year, st.teams, st.works, plus(st.measures, new Measure(a[0], a[1], a[2])), st.past);
                    return st.measures.size();
                case "forget": {
                    int n = st.measures.size();
                    st = new State(st.year, st.teams, st.works, List.of(), st.past);
                    return n;
                }
                case "is": return isTeam(a[0]) ? possible(a[0]) : BAD;
                case "next": return isTeam(a[0]) && in(a[1], 0, 20) ? measureNext(a[0], a[1]) : BAD;
                case "wants": {
                    if (!isTeam(a[0])) return BAD;
                    Team team = st.teams.get(a[0]);
                    int bits = 0;
                    for (int s = 0; s < 8; s++) {
                        bits += agrees(teamsWith(a[0], new Team(team.kind, team.strong, s))) ? 1 << s : 0;
                    }
                    return bits;
                }
                case "odds": {
                    if (!in(a[0], 0, 7) || !in(a[1], 0, 99) || !in(a[2], 0, 10)) return BAD;
                    long sum = 0;
                    long whole = 1;
                    for (int i = 0; i < st.teams.size(); i++) {
                        whole *= 10;
                    }
                    for (int who = 0; who < 1 << st.teams.size(); who++) {
                        long chance = 1;
                        for (int i = 0; i < st.teams.size(); i++) {
                            chance *= (who >> i & 1) == 1 ? a[2] : 10 - a[2];
                        }
                        sum += step(st.year, st.teams, who).weeks[a[0]] >= a[1] ? chance : 0;
                    }
                    above = sum;
                    below = whole;
                    for (int prime : new int[] {2, 5}) {
                        while (above % prime == 0 && below % prime == 0) {
                            above /= prime;
                            below /= prime;
                        }
                    }
                    return 1;
                }
                case "years": {
                    if (!in(a[0], 0, 999999) || !in(a[1], 0, 60) || !in(a[2], 0, 100)) return BAD;
                    long x = a[0];
                    Snapshot y = st.year;
                    for (int i = 0; i < a[1]; i++) {
                        int who = 0;
                        for (int team = 0; team < st.teams.size(); team++) {
                            x = x * 1103515245L + 12345L & 0x7fffffffL;
                            who += (x >> 16) % 100 < a[2] ? 1 << team : 0;
                        }
                        y = step(y, st.teams, who);
                    }
                    return Integer.bitCount(doneIn(y));
                }
                default: return whatThereIs(name, a);
            }
        }

        private long whatThereIs(String name, int... a) {
            switch (name) {
                case "part": return a[0] == 0 ? above : a[0] == 1 ? below : BAD;
                case "image":
                    if (!in(a[0], 0, 1)) return BAD;
                    images.put(a[0], st);
                    return 1;
                case "from":
                    if (!in(a[0], 0, 1)) return BAD;
                    if (!images.containsKey(a[0])) return NO;
                    st = images.get(a[0]);
                    return 1;
                case "status": return a[0] == 0 ? bad : a[0] == 1 ? no : a[0] == 2 ? full : -1;
                case "count": return in(a[0], 0, 6) ? counts()[a[0]] : BAD;
                case "digest": return digest();
                default: throw new IllegalStateException(name);
            }
        }

        private int[] counts() {
            return new int[] {st.teams.size(), st.works.size(), st.year.turn, Arrays.stream(st.year.weeks).sum(),
                st.measures.size(), st.past.size(), text.length()};
        }

        long digest() {
            List<Long> all = new ArrayList<>();
            for (int n : counts()) all.add((long) n);
            for (int n : st.year.weeks) all.add((long) n);
            for (boolean p : st.year.pegs) all.add(p ? 1L : 0L);
            for (Team t : st.teams) all.addAll(List.of((long) t.kind, (long) t.strong, (long) t.season));
            for (Work w : st.works) all.addAll(List.of((long) w.season, (long) w.weeks));
            for (Measure x : st.measures) all.addAll(List.of((long) x.m, (long) x.s, (long) x.v));
            all.addAll(List.of(above, below));
            long h = 1109;
            for (long v : all) h = 31 * h + v;
            return h;
        }

        private int ofSeason(int s, int what) {
            if (!in(s, 0, 7) || !in(what, 0, 3)) return BAD;
            if (what == 0) return st.year.weeks[s];
            if (what == 1) return st.year.weeks[s] == 0 ? 1 : 0;
            int bits = 0;
            for (int i = 0; i < 6; i++) {
                boolean team = what == 2 && i < st.teams.size() && st.teams.get(i).season == s;
                boolean work = what == 3 && i < st.works.size() && st.works.get(i).season == s;
                bits += team || work ? 1 << i : 0;
            }
            return bits;
        }

        private int aboutTeam(int i, int what) {
            if (!isTeam(i) || !in(what, 0, 4)) return -10;
            Team t = st.teams.get(i);
            int from = source(t, st.year);
            int pull = from == NONE ? 0 : strength(t, t.kind, st.year.turn, st.year.weeks[t.season], st.year.weeks[from]);
            return new int[] {t.kind, t.strong, t.season, from, pull}[what];
        }

        private int chosen(int a, int b, int n) {
            if (!isTeam(a) || !isTeam(b) || a == b || !in(n, 1, 6)) return BAD;
            int longest = 0;
            for (int s = 7; s >= 0; s--) {
                longest = st.year.weeks[s] >= st.year.weeks[longest] ? s : longest;
            }
            int bits = 0;
            for (int i = 0; i < 2; i++) {
                for (int j = 0; j < 2; j++) {
                    boolean aMore = gain(a, b, 1 - i, j, n, longest)[0] > gain(a, b, i, j, n, longest)[0];
                    boolean bMore = gain(a, b, i, 1 - j, n, longest)[1] > gain(a, b, i, j, n, longest)[1];
                    bits += aMore || bMore ? 0 : 1 << i + 2 * j;
                }
            }
            return bits;
        }

        private int[] gain(int a, int b, int aNot, int bNot, int n, int longest) {
            Team ta = st.teams.get(a);
            Team tb = st.teams.get(b);
            List<Team> teams = new ArrayList<>(st.teams);
            if (aNot == 1) teams.set(a, new Team(ta.kind, ta.strong, longest));
            if (bNot == 1) teams.set(b, new Team(tb.kind, tb.strong, longest));
            Snapshot y = steps(st.year, teams, 63, n);
            return new int[] {y.weeks[ta.season], y.weeks[tb.season]};
        }

        private List<Team> ofKind(int i, int kind) {
            return teamsWith(i, new Team(kind, st.teams.get(i).strong, st.teams.get(i).season));
        }

        private int possible(int i) {
            int bits = 0;
            for (int kind = 0; kind < 6; kind++) {
                bits += agrees(ofKind(i, kind)) ? 1 << kind : 0;
            }
            return bits;
        }

        private int measureNext(int i, int m) {
            int kinds = possible(i);
            int best = NONE;
            int fewest = 7;
            for (int s = 0; s < 8 && kinds != 0; s++) {
                Map<Integer, Integer> groups = new HashMap<>();
                for (int kind = 0; kind < 6; kind++) {
                    if ((kinds >> kind & 1) == 1) {
                        groups.merge(steps(st.year, ofKind(i, kind), 63, m).weeks[s], 1, Integer::sum);
                    }
                }
                int most = groups.values().stream().max(Integer::compare).get();
                if (most < fewest) {
                    fewest = most;
                    best = s;
                }
            }
            return best;
        }

        // the text as a list of tokens, cut out by a pattern and taken off one by one
        private static final Pattern TOKEN = Pattern.compile("[a-z]+|[0-9]+|[^ ]", Pattern.DOTALL);

        private int readText() {
            Deque<String> tokens = new ArrayDeque<>();
            Deque<Integer> places = new ArrayDeque<>();
            Matcher matcher = TOKEN.matcher(text);
            while (matcher.find()) {
                tokens.add(matcher.group());
                places.add(matcher.start());
            }
            places.add(text.length());
            State draft = State.first();
            int items = 0;
            while (!tokens.isEmpty() || items == 0) {
                String word = tokens.isEmpty() ? "" : tokens.peek();
                int[][] ranges = rangesOf(word);
                boolean wrongPlace = word.equals("valley") != (items == 0);
                boolean tooMany = word.equals("team") && draft.teams.size() == 6 || word.equals("work") && draft.works.size() == 6;
                if (ranges == null || wrongPlace || tooMany) return -10 - places.peek();
                tokens.poll();
                places.poll();
                List<Integer> n = new ArrayList<>();
                for (int[] range : ranges) {
                    String token = tokens.isEmpty() ? "" : tokens.peek();
                    if (!token.matches("[0-9]{1,2}") || !in(Integer.parseInt(token), range[0], range[1])) return -10 - places.peek();
                    n.add(Integer.parseInt(token));
                    tokens.poll();
                    places.poll();
                }
                if (tokens.isEmpty() || !tokens.peek().equals(";")) return -10 - places.peek();
                tokens.poll();
                places.poll();
                draft = told(draft, word, n);
                items++;
            }
            st = draft;
            return items;
        }

        private static int[][] rangesOf(String word) {
            switch (word) {
                case "valley": return new int[][] {};
                case "weeks": return new int[][] {{0, 7}, {0, 99}};
                case "peg": return new int[][] {{0, 6}};
                case "team": return new int[][] {{0, 5}, {1, 9}, {0, 7}};
                case "work": return new int[][] {{0, 7}, {1, 60}};
                default: return null;
            }
        }

        private static State told(State d, String word, List<Integer> n) {
            switch (word) {
                case "weeks": return new State(d.year.withWeeks(n.get(0), n.get(1)), d.teams, d.works, d.measures, d.past);
                case "peg": return new State(d.year.withPeg(n.get(0), true), d.teams, d.works, d.measures, d.past);
                case "team": return new State(d.year, plus(d.teams, new Team(n.get(0), n.get(1), n.get(2))), d.works, d.measures, d.past);
                case "work": return new State(d.year, d.teams, plus(d.works, new Work(n.get(0), n.get(1))), d.measures, d.past);
                default: return d;
            }
        }
    }

    private static long real(YearStretch x, String name, int... a) {
        switch (name) {
            case "valley": return x.valley();
            case "weeks": return x.weeks(a[0], a[1]);
            case "peg": return x.peg(a[0]);
            case "team": return x.team(a[0], a[1], a[2]);
            case "work": return x.work(a[0], a[1]);
            case "idle": return x.idle();
            case "type": return x.type(a[0]);
            case "clear": return x.clear();
            case "read": return x.read();
            case "turn": return x.turn(a[0]);
            case "undo": return x.undo();
            case "of": return x.of(a[0], a[1]);
            case "about": return x.about(a[0], a[1]);
            case "then": return x.then(a[0], a[1]);
            case "folded": return x.folded(a[0]);
            case "done": return x.done(a[0]);
            case "when": return x.when(a[0]);
            case "hands": return x.hands(a[0]);
            case "pegIt": return x.pegIt(a[0], a[1]);
            case "choose": return x.choose(a[0], a[1], a[2]);
            case "due": return x.due(a[0]);
            case "age": return x.age(a[0], a[1]);
            case "again": return x.again();
            case "measured": return x.measured(a[0], a[1], a[2]);
            case "forget": return x.forget();
            case "is": return x.is(a[0]);
            case "next": return x.next(a[0], a[1]);
            case "wants": return x.wants(a[0]);
            case "odds": return x.odds(a[0], a[1], a[2]);
            case "years": return x.years(a[0], a[1], a[2]);
            case "part": return x.part(a[0]);
            case "image": return x.image(a[0]);
            case "from": return x.from(a[0]);
            case "status": return x.status(a[0]);
            case "count": return x.count(a[0]);
            case "digest": return x.digest();
            default: throw new IllegalStateException(name);
        }
    }

    // a call's name, how often it comes, and least and most of each number
    private static final Object[][] CALLS_TOLD = {
        {"valley", 1}, {"weeks", 14, 0, 7, 0, 99}, {"peg", 6, 0, 6}, {"team", 10, 0, 5, 1, 9, 0, 7},
        {"work", 10, 0, 7, 1, 60}, {"idle", 2}, {"turn", 8, 1, 60}, {"undo", 8}, {"of", 4, 0, 7, 0, 3},
        {"about", 6, 0, 5, 0, 4}, {"then", 4, 0, 60, 0, 7}, {"folded", 3, 0, 60}, {"done", 4, 0, 60},
        {"when", 4, -1, 5}, {"hands", 4, 0, 20}, {"pegIt", 4, 0, 7, 0, 20}, {"choose", 8, 0, 5, 0, 5, 1, 6},
        {"due", 3, 0, 800}, {"age", 2, 0, 255, 0, 60}, {"again", 3}, {"measured", 6, 0, 20, 0, 7, 0, 99},
        {"forget", 3}, {"is", 5, 0, 5}, {"next", 5, 0, 5, 0, 20}, {"wants", 5, 0, 5},
        {"odds", 4, 0, 7, 0, 99, 0, 10}, {"years", 4, 0, 999999, 0, 60, 0, 100}, {"part", 3, 0, 1},
        {"image", 2, 0, 1}, {"from", 1, 0, 1}, {"status", 3, 0, 2}, {"count", 3, 0, 6}, {"digest", 1},
        {"type", 2, 0, 127}, {"clear", 1}, {"read", 1},
    };

    private static int wrong = 0;
    // calls of the object that is tried, for nothing is promised of it behind the 512th
    private static int used = 0;

    private static void answers(int run, Model model, YearStretch x, String name, int... a) {
        long want = model.answer(name, a);
        long got = real(x, name, a);
        used++;
        if (got != want) {
            tellWrong("run " + run + ": " + name + Arrays.toString(a) + " answered " + got + ", due is " + want);
        }
    }

    private static void compare(int run, Model model, YearStretch x, String name, int... a) {
        answers(run, model, x, name, a);
        used++;
        if (x.digest() != model.digest()) {
            tellWrong("run " + run + ": behind " + name + Arrays.toString(a) + " the digest is another one");
        }
    }

    private static void tellWrong(String what) {
        wrong++;
        if (wrong <= 20) {
            System.out.println(what);
        }
    }

    private static int number(Random random, int least, int most) {
        switch (random.nextInt(24)) {
            case 0: return least - 1;
            case 1: return most + 1;
            case 2: return least;
            case 3: return most;
            case 4: return random.nextInt(200) == 0 ? random.nextInt() : least;
            default: return least + random.nextInt(most - least + 1);
        }
    }

    private static void callAny(Random random, int run, Model model, YearStretch x) {
        int weight = 0;
        for (Object[] told : CALLS_TOLD) {
            weight += (Integer) told[1];
        }
        int at = random.nextInt(weight);
        for (Object[] told : CALLS_TOLD) {
            at -= (Integer) told[1];
            if (at < 0) {
                int[] a = new int[(told.length - 2) / 2];
                for (int i = 0; i < a.length; i++) {
                    a[i] = number(random, (Integer) told[2 + 2 * i], (Integer) told[3 + 2 * i]);
                }
                compare(run, model, x, (String) told[0], a);
                return;
            }
        }
    }

    // what is measured at random almost never fits, so some of it is made to fit one kind and one season
    private static void measureTruly(Random random, int run, Model model, YearStretch x) {
        if (model.st.teams.isEmpty()) {
            return;
        }
        int i = random.nextInt(model.st.teams.size());
        Team team = model.st.teams.get(i);
        Team other = random.nextBoolean() ? new Team(random.nextInt(6), team.strong, team.season)
                : new Team(team.kind, team.strong, random.nextInt(8));
        int m = random.nextInt(6);
        int s = Math.max(0, Math.min(7, team.season + random.nextInt(3) - 1));
        int v = Model.steps(model.st.year, model.teamsWith(i, other), 63, m).weeks[s];
        compare(run, model, x, "measured", m, s, v);
        compare(run, model, x, "is", i);
        compare(run, model, x, "wants", i);
        compare(run, model, x, "next", i, random.nextInt(21));
    }

    private static String randomText(Random random) {
        StringBuilder text = new StringBuilder(random.nextInt(12) == 0 ? "" : "valley;");
        int items = random.nextInt(14);
        for (int i = 0; i < items && text.length() < 140; i++) {
            String blank = " ".repeat(random.nextInt(6) == 0 ? 2 : 1);
            int s = random.nextInt(8);
            switch (random.nextInt(4)) {
                case 0: text.append("weeks").append(blank).append(s).append(blank).append(random.nextInt(100)); break;
                case 1: text.append("peg").append(blank).append(random.nextInt(7)); break;
                case 2: text.append("team ").append(random.nextInt(6)).append(blank).append(1 + random.nextInt(9)).append(' ').append(s); break;
                default: text.append("work ").append(s).append(blank).append(1 + random.nextInt(60)); break;
            }
            text.append(random.nextInt(8) == 0 ? " ; " : ";");
        }
        if (random.nextInt(3) == 0 && text.length() > 0) {
            spoil(random, text);
        }
        return text.toString();
    }

    private static void spoil(Random random, StringBuilder text) {
        int at = random.nextInt(text.length());
        char c = "; 019aZ-\t:`{/\n".charAt(random.nextInt(14));
        switch (random.nextInt(4)) {
            case 0: text.setCharAt(at, c); break;
            case 1: text.insert(at, c); break;
            case 2: text.deleteCharAt(at); break;
            default: text.setLength(at); break;
        }
    }

    private static void typeAndRead(Random random, int run, Model model, YearStretch x) {
        String text = randomText(random);
        compare(run, model, x, "clear");
        for (int i = 0; i < text.length(); i++) {
            answers(run, model, x, "type", text.charAt(i));
        }
        compare(run, model, x, "read");
    }

    // valleys that chance almost never makes: where leaving all pegs is best, where 60 turns bring the year back
    private static final String[] RARE = {
        "valley;weeks 0 1;weeks 1 6;weeks 2 10;weeks 3 11;weeks 4 6;weeks 6 10;weeks 7 6;team 3 5 3;team 4 7 2;team 2 2 1;team 2 3 6;team 3 3 4;team 3 6 5;",
        "valley;weeks 1 11;weeks 2 3;weeks 3 2;weeks 6 1;weeks 7 5;peg 1;peg 4;team 1 9 5;team 4 2 6;team 5 3 7;",
    };

    private static void rareValleys() {
        for (String text : RARE) {
            Model model = new Model();
            YearStretch x = new YearStretch();
            for (int i = 0; i < text.length(); i++) {
                answers(-1, model, x, "type", text.charAt(i));
            }
            compare(-1, model, x, "read");
            compare(-1, model, x, "again");
            for (int s = 0; s < 8; s++) {
                for (int m = 0; m <= 20; m++) {
                    answers(-1, model, x, "pegIt", s, m);
                }
            }
        }
    }

    public static void main(String[] args) {
        rareValleys();
        for (int run = 0; run < RUNS; run++) {
            Random random = new Random(run);
            Model model = new Model();
            YearStretch x = new YearStretch();
            used = 0;
            while (used + MOST_TO_MEASURE <= CALLS) {
                int what = random.nextInt(run % 3 == 0 ? 40 : 400);
                if (what == 0 && used + MOST_TO_TYPE <= CALLS) {
                    typeAndRead(random, run, model, x);
                } else if (what % 20 == 1) {
                    measureTruly(random, run, model, x);
                } else {
                    callAny(random, run, model, x);
                }
            }
        }
        System.out.println(wrong == 0 ? "the model answers the same" : wrong + " answers are not the model's");
        if (wrong != 0) {
            System.exit(1);
        }
    }
}
