import java.nio.charset.StandardCharsets;
import java.util.ArrayList;
import java.util.Arrays;
import java.util.HashMap;
import java.util.List;
import java.util.Map;
import java.util.TreeMap;

/**
 * A second MondayMaps, written straight from the document with no thought of speed, to set the program against:
 * hours are tried one by one, ways of streets all of them, RULES are trees.
 */
final class Oracle {
    static final int NONE = -1;

    static final class Fault extends RuntimeException {
        final int value;

        Fault(int place, int kind) {
            super(null, null, false, false);
            value = 1 + 8 * place + kind;
        }
    }

    record Street(int a, int b, int hours, String signs) {
        int sign(int day) {
            return ".><=".indexOf(signs.charAt(day));
        }

        boolean touches(int corner) {
            return corner == a || corner == b;
        }

        int other(int corner) {
            return corner == a ? b : a;
        }
    }

    record Pair(int a, int b) { }

    record Lift(int street, int from, int to) { }

    static final class Town {
        int corners;
        List<Street> streets = new ArrayList<>();
        List<Pair> saints = new ArrayList<>();
        List<Lift> lifts = new ArrayList<>();

        boolean open(int street, int corner, long hour, boolean saintsCount) {
            Street s = streets.get(street);
            long day = hour / 24;
            int sign = s.sign((int) (day % 7));
            boolean from = corner == s.a ? sign == 1 || sign == 3 : sign == 2 || sign == 3;
            if (!from) {
                return false;
            }
            for (Pair p : saints) {
                if (saintsCount && s.touches(p.a) && p.b == day % 360) {
                    return false;
                }
            }
            for (Lift l : lifts) {
                if (l.street == street && hour % 24 >= l.from && hour % 24 < l.to) {
                    return false;
                }
            }
            return true;
        }
    }

    static final class Walker implements Cloneable {
        int corner, goal, map, rule, steps, asked, came = -1;
        long hour, askedDay = -1;

        Walker copy() {
            try {
                return (Walker) clone();
            } catch (CloneNotSupportedException e) {
                throw new AssertionError(e);
            }
        }
    }

    static final class State {
        Town town;
        List<int[]> maps = new ArrayList<>();
        List<Walker> walkers = new ArrayList<>();
        List<Pair> errands = new ArrayList<>();
        List<Pair> sights = new ArrayList<>();
        List<Integer> came = new ArrayList<>();
        int x;

        State copy() {
            State s = new State();
            s.town = town;
            for (int[] m : maps) {
                s.maps.add(m.clone());
            }
            for (Walker w : walkers) {
                s.walkers.add(w.copy());
            }
            s.errands.addAll(errands);
            s.sights.addAll(sights);
            s.came.addAll(came);
            s.x = x;
            return s;
        }
    }

    interface Node {
        long value(Map<String, Long> words);
    }

    record Clause(String deed, Node test) { }

    private byte[] tape = new byte[0];
    private final List<List<Clause>> rules = new ArrayList<>();
    private State st = new State();
    private final State[] images = new State[4];

    // ---- texts

    /** A text with a place on it. */
    private static final class Text {
        final String s;
        int p;
        int items;

        Text(byte[] tape) {
            s = new String(tape, StandardCharsets.ISO_8859_1);
        }

        void blanks() {
            while (p < s.length() && s.charAt(p) == ' ') {
                p++;
            }
        }

        boolean atEnd() {
            blanks();
            return p == s.length();
        }

        String letters() {
            blanks();
            int e = p;
            while (e < s.length() && s.charAt(e) >= 'a' && s.charAt(e) <= 'z') {
                e++;
            }
            return s.substring(p, e);
        }

        String digits() {
            blanks();
            int e = p;
            while (e < s.length() && s.charAt(e) >= '0' && s.charAt(e) <= '9') {
                e++;
            }
            return s.substring(p, e);
        }

        String word(String... allowed) {
            String w = letters();
            if (!Arrays.asList(allowed).contains(w)) {
                throw new Fault(p, 0);
            }
            return w;
        }

        int number(int least, int most) {
            String d = digits();
            if (d.isEmpty()) {
                throw new Fault(p, 0);
            }
            if (d.length() > 5 || Integer.parseInt(d) < least || Integer.parseInt(d) > most) {
                throw new Fault(p, 1);
            }
            p += d.length();
            return Integer.parseInt(d);
        }

        boolean next(char c) {
            blanks();
            return p < s.length() && s.charAt(p) == c;
        }

        boolean more() {
            if (atEnd()) {
                return false;
            }
            if (!next(';')) {
                throw new Fault(p, 0);
            }
            p++;
            return true;
        }
    }

    private static Town parseTown(byte[] tape) {
        Text t = new Text(tape);
        Town town = new Town();
        int clauses = 0;
        do {
            String w = t.word("corners", "street", "saint", "lift");
            clauses++;
            boolean tooMany = clauses > 32 || w.equals("corners") != (clauses == 1)
                || w.equals("street") && town.streets.size() == 12
                || w.equals("saint") && town.saints.size() == 8
                || w.equals("lift") && town.lifts.size() == 4;
            if (tooMany) {
                throw new Fault(t.p, 4);
            }
            t.p += w.length();
            if (w.equals("corners")) {
                town.corners = t.number(2, 10);
            } else if (w.equals("street")) {
                int a = t.number(0, town.corners - 1);
                t.blanks();
                int place = t.p;
                int b = t.number(0, town.corners - 1);
                if (a == b) {
                    throw new Fault(place, 1);
                }
                int h = t.number(1, 9);
                t.blanks();
                StringBuilder signs = new StringBuilder();
                while (signs.length() < 7) {
                    if (t.p == t.s.length() || ".><=".indexOf(t.s.charAt(t.p)) < 0) {
                        throw new Fault(t.p, 0);
                    }
                    signs.append(t.s.charAt(t.p++));
                }
                town.streets.add(new Street(a, b, h, signs.toString()));
            } else if (w.equals("saint")) {
                int c = t.number(0, town.corners - 1);
                town.saints.add(new Pair(c, t.number(0, 359)));
            } else {
                int s = t.number(0, town.streets.size() - 1);
                int f = t.number(0, 23);
                town.lifts.add(new Lift(s, f, t.number(f + 1, 24)));
            }
        } while (t.more());
        return town;
    }

    private static List<Clause> parseRule(byte[] tape) {
        Text t = new Text(tape);
        List<Clause> rule = new ArrayList<>();
        do {
            String w = t.word("go", "aside", "ask", "wait");
            if (rule.size() == 12) {
                throw new Fault(t.p, 4);
            }
            t.p += w.length();
            Node test = null;
            if (t.letters().equals("if")) {
                t.p += 2;
                test = parseTest(t, 0);
            }
            rule.add(new Clause(w, test));
        } while (t.more());
        return rule;
    }

    private static Node parseTest(Text t, int deep) {
        List<Node> parts = new ArrayList<>(List.of(parsePart(t, deep)));
        while (t.letters().equals("or")) {
            t.p += 2;
            parts.add(parsePart(t, deep));
        }
        return w -> parts.stream().anyMatch(n -> n.value(w) != 0) ? 1 : 0;
    }

    private static Node parsePart(Text t, int deep) {
        List<Node> facts = new ArrayList<>(List.of(parseFact(t, deep)));
        while (t.letters().equals("and")) {
            t.p += 3;
            facts.add(parseFact(t, deep));
        }
        return w -> facts.stream().allMatch(n -> n.value(w) != 0) ? 1 : 0;
    }

    private static Node parseFact(Text t, int deep) {
        if (t.letters().equals("not") || t.next('[')) {
            if (deep == 10) {
                throw new Fault(t.p, 2);
            }
            if (t.next('[')) {
                t.p++;
                Node inner = parseTest(t, deep + 1);
                if (!t.next(']')) {
                    throw new Fault(t.p, 0);
                }
                t.p++;
                return inner;
            }
            t.p += 3;
            Node inner = parseFact(t, deep + 1);
            return w -> inner.value(w) != 0 ? 0 : 1;
        }
        Node a = parseSum(t);
        t.blanks();
        String sign = null;
        for (String s : new String[] {"<=", ">=", "<", "=", ">"}) {
            if (sign == null && t.s.startsWith(s, t.p)) {
                sign = s;
            }
        }
        if (sign == null) {
            throw new Fault(t.p, 0);
        }
        if (++t.items > 60) {
            throw new Fault(t.p, 3);
        }
        t.p += sign.length();
        Node b = parseSum(t);
        String how = sign;
        return w -> {
            int c = Long.compare(a.value(w), b.value(w));
            return (c < 0 && how.indexOf('<') >= 0) || (c == 0 && how.indexOf('=') >= 0)
                || (c > 0 && how.indexOf('>') >= 0) ? 1 : 0;
        };
    }

    private static Node parseSum(Text t) {
        Node left = parseTerm(t);
        while (t.next('+') || t.next('-')) {
            boolean plus = t.s.charAt(t.p++) == '+';
            Node a = left;
            Node b = parseTerm(t);
            left = w -> plus ? a.value(w) + b.value(w) : a.value(w) - b.value(w);
        }
        return left;
    }

    private static Node parseTerm(Text t) {
        Node left = parseValue(t);
        while (t.next('*') || t.next('/')) {
            boolean times = t.s.charAt(t.p++) == '*';
            Node a = left;
            Node b = parseValue(t);
            left = w -> times ? a.value(w) * b.value(w) : b.value(w) == 0 ? 0 : a.value(w) / b.value(w);
        }
        return left;
    }

    private static Node parseValue(Text t) {
        String d = t.digits();
        String word = d.isEmpty()
            ? t.word("hour", "day", "date", "corner", "goal", "shut", "left", "steps", "asked", "came") : "";
        if (d.length() > 5) {
            throw new Fault(t.p, 1);
        }
        if (++t.items > 60) {
            throw new Fault(t.p, 3);
        }
        t.p += d.length() + word.length();
        if (d.isEmpty()) {
            return w -> w.get(word);
        }
        long n = Long.parseLong(d);
        return w -> n;
    }

    // ---- the face

    int feed(int a, int b, int c, int d, int e) {
        if (tape.length + 20 > 400) {
            return NONE;
        }
        int at = tape.length;
        tape = Arrays.copyOf(tape, at + 20);
        for (int n : new int[] {a, b, c, d, e}) {
            tape[at++] = (byte) (n >>> 24);
            tape[at++] = (byte) (n >>> 16);
            tape[at++] = (byte) (n >>> 8);
            tape[at++] = (byte) n;
        }
        return at;
    }

    int end(int n) {
        if (n < 0 || n > tape.length) {
            return NONE;
        }
        tape = Arrays.copyOf(tape, n);
        return n;
    }

    int town() {
        byte[] text = tape;
        tape = new byte[0];
        try {
            Town t = parseTown(text);
            int x = st.x;
            st = new State();
            st.town = t;
            st.x = x;
            return t.streets.size();
        } catch (Fault f) {
            return -2 - f.value;
        }
    }

    int rule() {
        if (rules.size() == 6) {
            return NONE;
        }
        byte[] text = tape;
        tape = new byte[0];
        try {
            rules.add(parseRule(text));
            return rules.size() - 1;
        } catch (Fault f) {
            return -2 - f.value;
        }
    }

    private int corners() {
        return st.town == null ? 0 : st.town.corners;
    }

    private int streets() {
        return st.town == null ? 0 : st.town.streets.size();
    }

    private static boolean in(int n, int size) {
        return n >= 0 && n < size;
    }

    private Street str(int i) {
        return st.town.streets.get(i);
    }

    int street(int s, int what) {
        if (!in(s, streets()) || !in(what, 10)) {
            return NONE;
        }
        return what == 0 ? str(s).a : what == 1 ? str(s).b : what == 2 ? str(s).hours : str(s).sign(what - 3);
    }

    int open(int s, int corner, int hour) {
        if (!in(s, streets()) || !str(s).touches(corner) || hour < 0) {
            return NONE;
        }
        return st.town.open(s, corner, hour, true) ? 1 : 0;
    }

    int print(int day) {
        if (!in(day, 7) || st.town == null || st.maps.size() == 4) {
            return -2;
        }
        st.maps.add(signsOf(day));
        return st.maps.size() - 1;
    }

    private int[] signsOf(int day) {
        return st.town.streets.stream().mapToInt(s -> s.sign(day)).toArray();
    }

    int misprint(int map, int s, int sign) {
        if (!in(map, st.maps.size()) || !in(s, streets()) || !in(sign, 4)) {
            return NONE;
        }
        int was = st.maps.get(map)[s];
        st.maps.get(map)[s] = sign;
        return was;
    }

    int shown(int map, int s) {
        return in(map, st.maps.size()) && in(s, streets()) ? st.maps.get(map)[s] : NONE;
    }

    /** Bellman and Ford: the HOURS to a goal, by signs; -1 for no way. */
    private int hoursBy(int[] signs, int from, int to) {
        int[] d = new int[corners()];
        Arrays.fill(d, 1 << 20);
        d[to] = 0;
        for (int round = 0; round < corners(); round++) {
            for (int i = 0; i < signs.length; i++) {
                Street s = str(i);
                if ((signs[i] & 1) != 0) {
                    d[s.a] = Math.min(d[s.a], d[s.b] + s.hours);
                }
                if ((signs[i] & 2) != 0) {
                    d[s.b] = Math.min(d[s.b], d[s.a] + s.hours);
                }
            }
        }
        return d[from] >= 1 << 20 ? -1 : d[from];
    }

    private int streetBy(int[] signs, int from, int to) {
        int all = hoursBy(signs, from, to);
        if (from == to || all < 0) {
            return -1;
        }
        for (int i = 0; i < signs.length; i++) {
            Street s = str(i);
            boolean can = s.a == from && (signs[i] & 1) != 0 || s.b == from && (signs[i] & 2) != 0;
            if (can) {
                int rest = hoursBy(signs, s.other(from), to);
                if (rest >= 0 && rest + s.hours == all) {
                    return i;
                }
            }
        }
        throw new AssertionError();
    }

    int by(int map, int from, int to, int what) {
        if (!in(map, st.maps.size()) || !in(from, corners()) || !in(to, corners()) || !in(what, 2)) {
            return NONE;
        }
        int[] m = st.maps.get(map);
        int r = what == 0 ? hoursBy(m, from, to) : streetBy(m, from, to);
        return r < 0 ? -2 : r;
    }

    int walker(int corner, int goal, int map, int rule, int hour) {
        boolean ok = in(corner, corners()) && in(goal, corners()) && in(map, st.maps.size())
            && (rule == NONE || in(rule, rules.size())) && hour >= 0 && st.walkers.size() < 4;
        if (!ok) {
            return -2;
        }
        st.walkers.add(made(corner, goal, map, rule, hour));
        return st.walkers.size() - 1;
    }

    private static Walker made(int corner, int goal, int map, int rule, int hour) {
        Walker w = new Walker();
        w.corner = corner;
        w.goal = goal;
        w.map = map;
        w.rule = rule;
        w.hour = hour;
        return w;
    }

    int about(int walker, int what) {
        if (!in(walker, st.walkers.size()) || !in(what, 8)) {
            return NONE;
        }
        Walker w = st.walkers.get(walker);
        return new int[] {w.corner, w.goal, w.map, w.rule, (int) w.hour, w.steps, w.asked, w.came}[what];
    }

    /** What he did: g, s (aside), a, w, or . for nothing. */
    private char doStep(Walker w, boolean round) {
        if (w.corner == w.goal) {
            return '.';
        }
        long day = w.hour / 24;
        int[] map = !round && w.askedDay == day ? signsOf((int) (day % 7)) : st.maps.get(w.map);
        int ahead = streetBy(map, w.corner, w.goal);
        boolean mayGo = ahead >= 0 && st.town.open(ahead, w.corner, w.hour, !round);
        int aside = -1;
        for (int i = streets() - 1; i >= 0; i--) {
            if (str(i).touches(w.corner) && st.town.open(i, w.corner, w.hour, !round)) {
                aside = i;
            }
        }
        Map<String, Long> words = new HashMap<>();
        words.put("hour", w.hour % 24);
        words.put("day", day % 7);
        words.put("date", round ? 0 : day % 360);
        words.put("corner", (long) w.corner);
        words.put("goal", (long) w.goal);
        words.put("shut", mayGo ? 0L : 1L);
        words.put("left", (long) Math.max(0, hoursBy(map, w.corner, w.goal)));
        words.put("steps", round ? 0L : w.steps);
        words.put("asked", (long) w.asked);
        words.put("came", w.came == NONE ? 99L : w.came);
        List<Clause> rule = w.rule == NONE ? List.of(new Clause("go", null)) : rules.get(w.rule);
        String deed = "wait";
        for (Clause c : rule) {
            boolean may = switch (c.deed) {
                case "go" -> mayGo;
                case "aside" -> aside >= 0;
                case "ask" -> !round && w.askedDay != day;
                default -> true;
            };
            if (may && (c.test == null || c.test.value(words) != 0)) {
                deed = c.deed;
                break;
            }
        }
        w.steps++;
        if (deed.equals("go") || deed.equals("aside")) {
            int s = deed.equals("go") ? ahead : aside;
            w.came = w.corner;
            w.corner = str(s).other(w.corner);
            w.hour += str(s).hours;
            return deed.equals("go") ? 'g' : 's';
        }
        if (deed.equals("ask")) {
            w.asked++;
            w.askedDay = day;
        }
        w.hour++;
        return deed.charAt(0);
    }

    int step(int walker, int n) {
        if (!in(walker, st.walkers.size()) || n < 1 || n > 200) {
            return NONE;
        }
        Walker w = st.walkers.get(walker);
        for (int i = 0; i < n; i++) {
            doStep(w, false);
        }
        return w.corner;
    }

    /** can[t][c]: from a corner c, t hours behind the first one, one can be at a goal by the last hour. */
    private static boolean[][] canBe(Town town, int to, int hour, int last) {
        boolean[][] can = new boolean[last - hour + 1][town.corners];
        for (int t = last - hour; t >= 0; t--) {
            for (int c = 0; c < town.corners; c++) {
                can[t][c] = c == to || t < last - hour && can[t + 1][c];
                for (int i = 0; i < town.streets.size() && !can[t][c]; i++) {
                    Street s = town.streets.get(i);
                    can[t][c] = s.touches(c) && t + s.hours <= last - hour && can[t + s.hours][s.other(c)]
                        && town.open(i, c, hour + t, true);
                }
            }
        }
        return can;
    }

    private static int arrival(Town town, int from, int to, int hour) {
        boolean[][] at = new boolean[2010][town.corners];
        at[0][from] = true;
        for (int t = 0; t <= 2000; t++) {
            if (at[t][to]) {
                return hour + t;
            }
            for (int c = 0; c < town.corners; c++) {
                if (at[t][c]) {
                    at[t + 1][c] = true;
                    for (int i = 0; i < town.streets.size(); i++) {
                        Street s = town.streets.get(i);
                        if (s.touches(c) && town.open(i, c, hour + t, true)) {
                            at[t + s.hours][s.other(c)] = true;
                        }
                    }
                }
            }
        }
        return -2;
    }

    int soonest(int from, int to, int hour) {
        if (!in(from, corners()) || !in(to, corners()) || !in(hour, 100000)) {
            return NONE;
        }
        return arrival(st.town, from, to, hour);
    }

    int way(int from, int to, int hour, int k) {
        if (!in(from, corners()) || !in(to, corners()) || !in(hour, 100000) || k < 0) {
            return NONE;
        }
        int last = arrival(st.town, from, to, hour);
        if (last < 0) {
            return -2;
        }
        boolean[][] can = canBe(st.town, to, hour, last);
        List<Integer> way = new ArrayList<>();
        int c = from;
        int t = hour;
        next:
        while (c != to) {
            for (int i = 0; i < streets(); i++) {
                Street s = str(i);
                if (!s.touches(c)) {
                    continue;
                }
                int begun = t;
                while (begun <= last && !st.town.open(i, c, begun, true)) {
                    begun++;
                }
                int there = begun + s.hours;
                if (there <= last && can[there - hour][s.other(c)]) {
                    way.add(i);
                    c = s.other(c);
                    t = there;
                    continue next;
                }
            }
            throw new AssertionError();
        }
        return k < way.size() ? way.get(k) : -2;
    }

    int comes(int walker, int n, int what) {
        if (!in(walker, st.walkers.size()) || !in(n, 401) || !in(what, 3)) {
            return NONE;
        }
        Walker w = st.walkers.get(walker).copy();
        int steps = 0;
        int asked = 0;
        for (int i = 0; i < n; i++) {
            char deed = doStep(w, false);
            steps += deed != '.' ? 1 : 0;
            asked += deed == 'a' ? 1 : 0;
        }
        return what == 0 ? w.corner == w.goal ? (int) w.hour : -2 : what == 1 ? steps : asked;
    }

    int round(int walker, int what) {
        if (!in(walker, st.walkers.size()) || !in(what, 2)) {
            return NONE;
        }
        Walker w = st.walkers.get(walker).copy();
        List<List<Long>> past = new ArrayList<>();
        for (int i = 0; i <= 300; i++) {
            if (w.corner == w.goal) {
                return -2;
            }
            List<Long> key = List.of((long) w.corner, w.hour % 168, (long) w.came);
            int before = past.indexOf(key);
            if (before >= 0) {
                return what == 0 ? before : i - before;
            }
            past.add(key);
            doStep(w, true);
        }
        return -2;
    }

    int questions(int walker, int n) {
        if (!in(walker, st.walkers.size()) || !in(n, 121)) {
            return NONE;
        }
        Walker w = st.walkers.get(walker);
        TreeMap<Long, Map<Pair, Integer>> open = new TreeMap<>();
        Integer best = null;
        long last = w.hour + n;
        add(open, w.hour, w.corner, w.askedDay == w.hour / 24, 0);
        while (!open.isEmpty() && open.firstKey() <= last) {
            var e = open.pollFirstEntry();
            long hour = e.getKey();
            long day = hour / 24;
            for (var f : e.getValue().entrySet()) {
                int c = f.getKey().a;
                boolean asked = f.getKey().b == 1;
                int sum = f.getValue();
                if (c == w.goal) {
                    best = best == null ? sum : Math.min(best, sum);
                    continue;
                }
                boolean same = (hour + 1) / 24 == day;
                add(open, hour + 1, c, asked && same, sum);
                if (!asked) {
                    add(open, hour + 1, c, same, sum + 1);
                }
                int[] map = asked ? signsOf((int) (day % 7)) : st.maps.get(w.map);
                int s = streetBy(map, c, w.goal);
                if (s >= 0 && st.town.open(s, c, hour, true)) {
                    long then = hour + str(s).hours;
                    add(open, then, str(s).other(c), asked && then / 24 == day, sum);
                }
            }
        }
        return best == null ? -2 : best;
    }

    private static void add(TreeMap<Long, Map<Pair, Integer>> open, long hour, int c, boolean asked, int sum) {
        open.computeIfAbsent(hour, h -> new HashMap<>()).merge(new Pair(c, asked ? 1 : 0), sum, Math::min);
    }

    int cheap(int s) {
        if (!in(s, streets())) {
            return NONE;
        }
        int[] n = new int[4];
        for (int day = 0; day < 7; day++) {
            n[str(s).sign(day)]++;
        }
        int most = Arrays.stream(n).max().getAsInt();
        for (int sign = 0; ; sign++) {
            if (n[sign] == most) {
                return sign;
            }
        }
    }

    int wrong(int day) {
        if (st.town == null || !in(day, 8)) {
            return NONE;
        }
        int n = 0;
        for (int s = 0; s < streets(); s++) {
            for (int d = 0; d < 7; d++) {
                n += (day == 7 || day == d) && str(s).sign(d) != cheap(s) ? 1 : 0;
            }
        }
        return n;
    }

    int errand(int from, int to) {
        if (from == NONE) {
            st.errands.clear();
            return 0;
        }
        if (!in(from, corners()) || !in(to, corners()) || from == to || st.errands.size() == 6) {
            return -2;
        }
        st.errands.add(new Pair(from, to));
        return st.errands.size();
    }

    int ways(int day, int what) {
        if (st.town == null || !in(day, 7) || !in(what, 2)) {
            return NONE;
        }
        List<Street> roads = st.town.streets.stream().filter(s -> s.sign(day) != 0).toList();
        int all = (1 << st.errands.size()) - 1;
        int least = -2;
        boolean[] can = new boolean[all + 1];
        for (int bits = 0; bits < 1 << roads.size() && least < 0; bits++) {
            int done = 0;
            for (int e = 0; e < st.errands.size(); e++) {
                done |= done(roads, bits, st.errands.get(e)) ? 1 << e : 0;
            }
            can[done] = true;
            if (done == all) {
                least = bits;
            }
        }
        if (what == 0 || least >= 0) {
            return what == 0 ? least : 0;
        }
        int best = all;
        for (int set = 1; set <= all; set++) {
            boolean together = false;
            for (int done = 0; done <= all; done++) {
                together |= can[done] && (done & set) == set;
            }
            if (!together && Integer.bitCount(set) < Integer.bitCount(best)) {
                best = set;
            }
        }
        return best;
    }

    private static boolean done(List<Street> roads, int bits, Pair errand) {
        boolean[] at = new boolean[10];
        at[errand.a] = true;
        for (int round = 0; round < 10; round++) {
            for (int i = 0; i < roads.size(); i++) {
                boolean back = (bits >> i & 1) == 1;
                int from = back ? roads.get(i).b : roads.get(i).a;
                at[roads.get(i).other(from)] |= at[from];
            }
        }
        return at[errand.b];
    }

    int sight(int s, int sign) {
        if (s == NONE) {
            st.sights.clear();
            return 0;
        }
        if (!in(s, streets()) || !in(sign, 4) || st.sights.size() == 12) {
            return -2;
        }
        st.sights.add(new Pair(s, sign));
        return st.sights.size();
    }

    int weekdays(int what) {
        if (st.town == null || !in(what, 2)) {
            return NONE;
        }
        List<Integer> days = new ArrayList<>();
        int bits = 0;
        for (int day = 0; day < 7; day++) {
            int d = day;
            if (st.sights.stream().allMatch(p -> str(p.a).sign(d) == p.b)) {
                days.add(day);
                bits |= 1 << day;
            }
        }
        if (what == 0) {
            return bits;
        }
        int best = -2;
        int fewest = 99;
        for (int s = 0; s < streets() && bits != 0; s++) {
            int[] n = new int[4];
            for (int day : days) {
                n[str(s).sign(day)]++;
            }
            int most = Arrays.stream(n).max().getAsInt();
            if (most < fewest) {
                fewest = most;
                best = s;
            }
        }
        return best;
    }

    int came(int corner) {
        if (corner == NONE) {
            st.came.clear();
            return 0;
        }
        if (!in(corner, corners()) || st.came.size() == 8) {
            return -2;
        }
        st.came.add(corner);
        return st.came.size();
    }

    int had(int walker) {
        if (!in(walker, st.walkers.size())) {
            return NONE;
        }
        int bits = 0;
        for (int m = 0; m < st.maps.size(); m++) {
            Walker w = st.walkers.get(walker).copy();
            w.map = m;
            List<Integer> met = new ArrayList<>();
            for (int i = 0; i < 100; i++) {
                char deed = doStep(w, false);
                if (deed == 'g' || deed == 's') {
                    met.add(w.corner);
                }
            }
            int n = st.came.size();
            if (met.size() >= n && met.subList(0, n).equals(st.came)) {
                bits |= 1 << m;
            }
        }
        return bits;
    }

    int built(int hours, int hour, int what) {
        if (st.town == null || hours < 1 || hours > 9 || !in(hour, 100000) || !in(what, 3)) {
            return NONE;
        }
        int[] best = null;
        for (int a = 0; a < corners(); a++) {
            for (int b = a + 1; b < corners(); b++) {
                Town t = new Town();
                t.corners = corners();
                t.streets.addAll(st.town.streets);
                t.streets.add(new Street(a, b, hours, "======="));
                t.saints = st.town.saints;
                t.lifts = st.town.lifts;
                int sum = 0;
                for (Pair e : st.errands) {
                    int there = arrival(t, e.a, e.b, hour);
                    sum += there < 0 ? 2001 : there - hour;
                }
                if (best == null || sum < best[2]) {
                    best = new int[] {a, b, sum};
                }
            }
        }
        return best[what];
    }

    int seed(int x) {
        if (x < 0) {
            return NONE;
        }
        int was = st.x;
        st.x = x;
        return was;
    }

    int strangers(int rule, int m, int n, int what) {
        boolean ok = (rule == NONE || in(rule, rules.size())) && !st.maps.isEmpty()
            && m >= 1 && m <= 30 && n >= 1 && n <= 200 && in(what, 2);
        if (!ok) {
            return NONE;
        }
        long[] x = {st.x};
        int there = 0;
        long hours = 0;
        for (int i = 0; i < m; i++) {
            int corner = (int) (draw(x) % corners());
            int goal = (int) (draw(x) % corners());
            int map = (int) (draw(x) % st.maps.size());
            int hour = (int) (draw(x) % 168);
            Walker w = made(corner, goal, map, rule, hour);
            for (int j = 0; j < n; j++) {
                doStep(w, false);
            }
            if (w.corner == w.goal) {
                there++;
                hours += w.hour - hour;
            }
        }
        return what == 0 ? there : (int) hours;
    }

    private static long draw(long[] x) {
        x[0] = (x[0] * 1103515245L + 12345L) % 2147483648L;
        return x[0] / 65536;
    }

    int count(int what) {
        int[] n = {corners(), streets(), st.town == null ? 0 : st.town.saints.size(),
            st.town == null ? 0 : st.town.lifts.size(), rules.size(), st.maps.size(), st.walkers.size(),
            st.errands.size(), st.sights.size(), st.came.size(), st.x, tape.length};
        return in(what, n.length) ? n[what] : NONE;
    }

    int image(int k) {
        if (!in(k, 4)) {
            return NONE;
        }
        images[k] = st.copy();
        return st.walkers.size();
    }

    int back(int k) {
        if (!in(k, 4) || images[k] == null) {
            return NONE;
        }
        st = images[k].copy();
        return st.walkers.size();
    }
}
