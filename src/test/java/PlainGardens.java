import java.util.ArrayDeque;
import java.util.ArrayList;
import java.util.Arrays;
import java.util.Collections;
import java.util.Deque;
import java.util.HashMap;
import java.util.HashSet;
import java.util.List;
import java.util.Map;
import java.util.NoSuchElementException;
import java.util.Set;
import java.util.TreeMap;

/** The same face as PramGardens, written anew from the document, with other means, and slow: TwinTest compares the two. */
public final class PlainGardens {
    private record Pram(int field, int way, int views, boolean loose) {
    }

    private record Held(List<Pram> prams, int minute) {
    }

    private static final class Fault extends RuntimeException {
        private static final long serialVersionUID = 1L;
        private final int place;

        Fault(int place) {
            this.place = place;
        }
    }

    private String text = "";
    private int rows = 2;
    private int columns = 2;
    private String cells = "....";
    private List<Pram> prams = List.of();
    private int minute = 0;
    private String rule = "";
    private List<Long> row = List.of();
    private final Deque<Held> past = new ArrayDeque<>();
    private final Map<Integer, Held> kept = new HashMap<>();
    private final List<int[]> seen = new ArrayList<>();
    private final List<int[]> heardOf = new ArrayList<>();

    private void tell(long... numbers) {
        row = Arrays.stream(numbers).boxed().toList();
    }

    private String read() {
        String whole = text;
        text = "";
        return whole;
    }

    private boolean isPram(int pram) {
        return 0 <= pram && pram < prams.size();
    }

    private boolean isField(int field) {
        return 0 <= field && field < rows * columns;
    }

    private boolean isOpen(int field) {
        return cells.charAt(field) != '#';
    }

    private int step(int field, int way) {
        int r = field / columns + (way == 2 ? 1 : way == 0 ? -1 : 0);
        int c = field % columns + (way == 1 ? 1 : way == 3 ? -1 : 0);
        boolean in = 0 <= r && r < rows && 0 <= c && c < columns;
        return in && isOpen(r * columns + c) ? r * columns + c : -1;
    }

    private static int inside(int v, int least, int highest) {
        return v < least || v > highest ? 0 : 1;
    }

    // ---- gardens, prams

    public int sign(int v) {
        if (text.length() > 76) {
            return -1;
        }
        for (int i = 3; i >= 0; i--) {
            text += (char) (v >> 8 * i & 0xff);
        }
        return text.length();
    }

    public boolean end(int n) {
        if (n < 0 || n > text.length()) {
            return false;
        }
        text = text.substring(0, n);
        return true;
    }

    public int gardens() {
        String t = read();
        for (int i = 0; i < 2; i++) {
            if (i >= t.length() || "23456".indexOf(t.charAt(i)) < 0) {
                return -1 - i;
            }
        }
        int whole = 2 + (t.charAt(0) - '0') * (t.charAt(1) - '0');
        for (int i = 2; i < whole; i++) {
            if (i >= t.length() || ".#abcdef0123".indexOf(t.charAt(i)) < 0) {
                return -1 - i;
            }
        }
        if (t.length() > whole) {
            return -1 - whole;
        }
        rows = t.charAt(0) - '0';
        columns = t.charAt(1) - '0';
        cells = t.substring(2);
        prams = List.of();
        minute = 0;
        past.clear();
        kept.clear();
        return cells.length();
    }

    public int prams() {
        String t = read();
        if (t.isEmpty()) {
            return 0;
        }
        List<Pram> more = new ArrayList<>(prams);
        int p = 0;
        while (true) {
            if (more.size() == 4) {
                return -1 - p;
            }
            String digits = "0123456789";
            int r = p < t.length() ? digits.indexOf(t.charAt(p)) : -1;
            if (r < 0 || r >= rows) {
                return -1 - p;
            }
            int c = p + 1 < t.length() ? digits.indexOf(t.charAt(p + 1)) : -1;
            if (c < 0 || c >= columns || !isOpen(r * columns + c)) {
                return -2 - p;
            }
            int w = p + 2 < t.length() ? digits.indexOf(t.charAt(p + 2)) : -1;
            if (w < 0 || w > 3) {
                return -3 - p;
            }
            more.add(new Pram(r * columns + c, w, 0, false));
            p += 3;
            if (p == t.length()) {
                break;
            }
            if (p == 15 || t.charAt(p) != ';') {
                return -1 - p;
            }
            p++;
        }
        int lines = more.size() - prams.size();
        prams = List.copyOf(more);
        past.clear();
        kept.clear();
        return lines;
    }

    /** Reads an EXPRESSION and reckons it at once. */
    private static final class Reckoner {
        private final String t;
        private final Map<Character, Integer> things;
        private int p = 0;

        Reckoner(String t, Map<Character, Integer> things) {
            this.t = t;
            this.things = things;
        }

        private char peek() {
            return p < t.length() ? t.charAt(p) : '\uffff';
        }

        int whole() {
            int value = expression(0);
            if (p < t.length()) {
                throw new Fault(p);
            }
            return value;
        }

        private int expression(int depth) {
            int left = sum(depth);
            char c = peek();
            if (c == '<' || c == '>' || c == '=') {
                p++;
                int right = sum(depth);
                return (c == '<' ? left < right : c == '>' ? left > right : left == right) ? 1 : 0;
            }
            return left;
        }

        private int sum(int depth) {
            int value = product(depth);
            while (peek() == '+' || peek() == '-') {
                boolean plus = t.charAt(p++) == '+';
                int right = product(depth);
                value = plus ? value + right : value - right;
            }
            return value;
        }

        private int product(int depth) {
            int value = signed(depth);
            while (peek() == '*' || peek() == '/') {
                boolean times = t.charAt(p++) == '*';
                int right = signed(depth);
                value = times ? value * right : right == 0 ? 0 : value / right;
            }
            return value;
        }

        private int signed(int depth) {
            if (peek() == '-') {
                p++;
                return -signed(depth);
            }
            if (peek() == '(' && depth < 4) {
                p++;
                int value = expression(depth + 1);
                if (peek() != ')') {
                    throw new Fault(p);
                }
                p++;
                return value;
            }
            if (things.containsKey(peek())) {
                return things.get(t.charAt(p++));
            }
            int from = p;
            while (p < from + 3 && peek() >= '0' && peek() <= '9') {
                p++;
            }
            if (p == from) {
                throw new Fault(p);
            }
            return Integer.parseInt(t.substring(from, p));
        }
    }

    private static int ruleFault(String t) {
        if (t.isEmpty()) {
            return -1;
        }
        Map<Character, Integer> any = new HashMap<>();
        for (char c : "dsvhkin".toCharArray()) {
            any.put(c, 1);
        }
        try {
            new Reckoner(t.substring(0, Math.min(40, t.length())), any).whole();
        } catch (Fault fault) {
            return fault.place;
        }
        return t.length() > 40 ? 40 : -1;
    }

    public int rule() {
        String t = read();
        int fault = ruleFault(t);
        if (fault >= 0) {
            return -1 - fault;
        }
        rule = t;
        return 0;
    }

    public int field(int field) throws NoSuchElementException {
        if (!isField(field)) {
            throw new NoSuchElementException();
        }
        int i = ".#abcdef0123".indexOf(cells.charAt(field));
        return i < 2 ? i : i < 8 ? i + 8 : i + 12;
    }

    public int pram(int pram, int what) throws NoSuchElementException {
        if (!isPram(pram) || what < 0 || what > 4) {
            throw new NoSuchElementException();
        }
        Pram it = prams.get(pram);
        return new int[] {it.field, it.way, it.views, it.loose ? 1 : 0, step(it.field, it.way)}[what];
    }

    private void put(int pram, Pram it) {
        List<Pram> changed = new ArrayList<>(prams);
        changed.set(pram, it);
        prams = List.copyOf(changed);
    }

    public int sheet(int kind, int n, int f, int step) {
        if (inside(kind, 0, 3) == 0 || n > 4) {
            return -1;
        }
        if (kind < 3 && n < 0) {
            return -2;
        }
        int sum = 0;
        for (int pram = 0; pram < prams.size(); pram++) {
            int entry = f + pram * step;
            int told = kind == 0 ? (byte) entry : kind == 1 ? (short) entry : entry;
            int views = kind == 3 || pram >= n ? 0 : told & 63;
            Pram it = prams.get(pram);
            put(pram, new Pram(it.field, it.way, views, it.loose));
            sum += views;
        }
        return kind == 3 ? -3 : sum;
    }

    // ---- looking

    private int formable(String by, int pram, int field, int way, int views, int others) {
        Map<Character, Integer> things = new HashMap<>();
        int formed = 0;
        Set<Character> met = new HashSet<>();
        int distance = 0;
        for (int place = step(field, way); place >= 0; place = step(place, way)) {
            distance++;
            char cell = cells.charAt(place);
            if (cell < 'a' || !met.add(cell)) {
                continue;
            }
            things.put('d', distance);
            things.put('s', cell - 'a');
            things.put('v', Integer.bitCount(views));
            things.put('h', way);
            things.put('k', others);
            things.put('i', pram);
            things.put('n', minute % 7);
            if ((views & 1 << cell - 'a') == 0 && new Reckoner(by.isEmpty() ? "4-d" : by, things).whole() > 0) {
                formed |= 1 << cell - 'a';
            }
        }
        return formed;
    }

    private int othersOn(int pram, int field) {
        int others = 0;
        for (int other = 0; other < prams.size(); other++) {
            if (other != pram && prams.get(other).field == field) {
                others++;
            }
        }
        return others;
    }

    private int formable(String by, int pram, int field, int way) {
        return formable(by, pram, field, way, prams.get(pram).views, othersOn(pram, field));
    }

    private int moveAndLook(int pram, int field, int way) {
        int formed = formable(rule, pram, field, way);
        Pram it = prams.get(pram);
        put(pram, new Pram(field, way, it.views | formed, it.loose));
        return formed;
    }

    // ---- pushing, letting go

    private interface Act {
        int done();
    }

    private int undoable(Act act) {
        Held before = new Held(prams, minute);
        int answer = act.done();
        if (answer >= 0) {
            past.addLast(before);
            if (past.size() > 15) {
                past.removeFirst();
            }
        }
        return answer;
    }

    private int push(int pram, int way) {
        if (!isPram(pram) || inside(way, 0, 3) == 0) {
            return -1;
        }
        Pram it = prams.get(pram);
        if (it.loose) {
            return -2;
        }
        int to = step(it.field, way);
        if (to < 0) {
            return -3;
        }
        int formed = moveAndLook(pram, to, way);
        tell(to, Integer.bitCount(prams.get(pram).views));
        return formed;
    }

    private int face(int pram, int way) {
        if (!isPram(pram) || inside(way, 0, 3) == 0) {
            return -1;
        }
        Pram it = prams.get(pram);
        if (it.loose || it.way == way) {
            return it.loose ? -2 : -3;
        }
        int formed = moveAndLook(pram, it.field, way);
        tell(it.field, Integer.bitCount(prams.get(pram).views));
        return formed;
    }

    private int setLoose(int pram, boolean loose) {
        if (!isPram(pram)) {
            return -1;
        }
        Pram it = prams.get(pram);
        if (it.loose == loose) {
            return -2;
        }
        put(pram, new Pram(it.field, it.way, it.views, loose));
        return Integer.bitCount(count(6));
    }

    private int pass(int n) {
        if (inside(n, 0, 60) == 0) {
            return -1;
        }
        int went = 0;
        int formed = 0;
        for (int i = 0; i < n; i++) {
            for (int pram = 0; pram < prams.size(); pram++) {
                Pram it = prams.get(pram);
                int slope = cells.charAt(it.field) - '0';
                int to = inside(slope, 0, 3) == 1 ? step(it.field, slope) : -1;
                if (it.loose && to >= 0) {
                    went++;
                    formed += Integer.bitCount(moveAndLook(pram, to, slope));
                } else if (it.loose) {
                    put(pram, new Pram(it.field, it.way, it.views, false));
                }
            }
            minute++;
        }
        tell(went, formed);
        return Integer.bitCount(count(6));
    }

    private int lose(int pram, int sight) {
        if (!isPram(pram) || inside(sight, 0, 5) == 0) {
            return -1;
        }
        Pram it = prams.get(pram);
        if ((it.views & 1 << sight) == 0) {
            return -2;
        }
        put(pram, new Pram(it.field, it.way, it.views ^ 1 << sight, it.loose));
        return prams.get(pram).views;
    }

    public int pushes(int pram, int way) {
        return undoable(() -> push(pram, way));
    }

    public int faces(int pram, int way) {
        return undoable(() -> face(pram, way));
    }

    public int looses(int pram) {
        return undoable(() -> setLoose(pram, true));
    }

    public int catches(int pram) {
        return undoable(() -> setLoose(pram, false));
    }

    public int minutes(int n) {
        return undoable(() -> pass(n));
    }

    public int forgets(int pram, int sight) {
        return undoable(() -> lose(pram, sight));
    }

    private static int walkFault(String t) {
        String shape = "";
        for (int p = 0; p < Math.min(60, t.length()); p++) {
            char c = t.charAt(p);
            boolean digit = c >= '0' && c <= '9';
            if (shape.isEmpty()) {
                shape = "nlc".indexOf(c) >= 0 ? "9" : "pt".indexOf(c) >= 0 ? "93" : c == 'f' ? "95" : "x";
                if (shape.equals("x")) {
                    return p;
                }
            } else if (digit && c <= shape.charAt(0)) {
                shape = shape.substring(1);
            } else {
                return p;
            }
        }
        return t.length() > 60 ? 60 : shape.isEmpty() ? -1 : t.length();
    }

    public int walk() {
        String t = read();
        int fault = walkFault(t);
        if (fault >= 0) {
            return -1 - fault;
        }
        Held before = new Held(prams, minute);
        int done = 0;
        boolean refused = false;
        for (int p = 0; p < t.length() && !refused;) {
            int one = t.charAt(p + 1) - '0';
            int two = p + 2 < t.length() ? t.charAt(p + 2) - '0' : 0;
            char kind = t.charAt(p);
            p += "ptf".indexOf(kind) >= 0 ? 3 : 2;
            int answer = kind == 'n' ? pass(one) : kind == 'p' ? push(one, two) : kind == 't' ? face(one, two)
                : kind == 'f' ? lose(one, two) : setLoose(one, kind == 'l');
            refused = answer < 0;
            done += refused ? 0 : 1;
        }
        if (done > 0) {
            Held now = new Held(prams, minute);
            prams = before.prams;
            minute = before.minute;
            undoable(() -> {
                prams = now.prams;
                minute = now.minute;
                return 0;
            });
        }
        tell(refused ? 1 : 0, count(7));
        return done;
    }

    public int undo() {
        if (past.isEmpty()) {
            return -1;
        }
        Held held = past.removeLast();
        prams = held.prams;
        minute = held.minute;
        return past.size();
    }

    // ---- what is seen

    public int sees(int pram) {
        if (!isPram(pram)) {
            return -1;
        }
        Pram it = prams.get(pram);
        int sights = formable(rule, pram, it.field, it.way);
        int fields = 0;
        int nearest = 0;
        for (int place = step(it.field, it.way); place >= 0; place = step(place, it.way)) {
            fields++;
            char cell = cells.charAt(place);
            if (nearest == 0 && cell >= 'a' && (sights & 1 << cell - 'a') != 0) {
                nearest = fields;
            }
        }
        tell(fields, nearest);
        return sights;
    }

    public int would(int pram, int field, int way) {
        if (!isPram(pram) || !isField(field) || inside(way, 0, 3) == 0) {
            return -1;
        }
        if (!isOpen(field)) {
            return -2;
        }
        int sights = formable(rule, pram, field, way);
        tell(Integer.bitCount(sights));
        return sights;
    }

    public int stands(int pram) {
        if (!isPram(pram)) {
            return -1;
        }
        int stands = 4 * rows * columns;
        int[] sets = new int[stands];
        int all = 0;
        for (int stand = 0; stand < stands; stand++) {
            sets[stand] = isOpen(stand / 4) ? formable(rule, pram, stand / 4, stand % 4) : 0;
            all |= sets[stand];
        }
        // fewest[i][set]: how many of the stands from i on it takes to see a set
        int[][] fewest = new int[stands + 1][64];
        Arrays.fill(fewest[stands], 99);
        fewest[stands][0] = 0;
        for (int i = stands - 1; i >= 0; i--) {
            for (int set = 0; set < 64; set++) {
                fewest[i][set] = Math.min(fewest[i + 1][set], 1 + fewest[i + 1][set & ~sets[i]]);
            }
            fewest[i][0] = 0;
        }
        List<Long> told = new ArrayList<>(List.of((long) all));
        int left = all;
        for (int i = 0; i < stands; i++) {
            if (left != 0 && 1 + fewest[i + 1][left & ~sets[i]] == fewest[i][left]) {
                told.add((long) i);
                left &= ~sets[i];
            }
        }
        row = told;
        return told.size() - 1;
    }

    // ---- ways

    /** For each FIELD that can be reached the least of the shortest rows of WAYS, as a text. */
    private Map<Integer, String> waysFrom(int field, int closed) {
        Map<Integer, String> found = new HashMap<>();
        TreeMap<String, Integer> level = new TreeMap<>();
        if (isOpen(field) && field != closed) {
            level.put("", field);
            found.put(field, "");
        }
        while (!level.isEmpty()) {
            TreeMap<String, Integer> next = new TreeMap<>();
            for (Map.Entry<String, Integer> entry : level.entrySet()) {
                for (int way = 0; way < 4; way++) {
                    int to = step(entry.getValue(), way);
                    if (to >= 0 && to != closed && !found.containsKey(to)) {
                        found.put(to, entry.getKey() + way);
                        next.put(entry.getKey() + way, to);
                    }
                }
            }
            level = next;
        }
        return found;
    }

    private void tellWays(String ways) {
        row = ways.chars().limit(12).mapToObj(c -> (long) (c - '0')).toList();
    }

    public int way(int from, int to) {
        if (!isField(from) || !isField(to)) {
            return -1;
        }
        String ways = waysFrom(from, -1).get(to);
        if (ways == null) {
            return -2;
        }
        tellWays(ways);
        return ways.length();
    }

    public int reach(int field) {
        if (!isField(field)) {
            return -1;
        }
        if (!isOpen(field)) {
            return -2;
        }
        Map<Integer, String> found = waysFrom(field, -1);
        int farthest = found.values().stream().mapToInt(String::length).max().getAsInt();
        int which = found.entrySet().stream().filter(e -> e.getValue().length() == farthest).mapToInt(Map.Entry::getKey).min().getAsInt();
        tell(farthest, which);
        return found.size();
    }

    /** The parts, each as its FIELDS, by their first ones. */
    private List<Set<Integer>> partsWithout(int closed) {
        List<Set<Integer>> parts = new ArrayList<>();
        for (int field = 0; field < rows * columns; field++) {
            int one = field;
            if (isOpen(field) && field != closed && parts.stream().noneMatch(part -> part.contains(one))) {
                parts.add(waysFrom(field, closed).keySet());
            }
        }
        return parts;
    }

    public int parts() {
        List<Set<Integer>> parts = partsWithout(-1);
        tell();
        for (Set<Integer> part : parts) {
            if (row.isEmpty() || part.size() > row.get(0)) {
                tell(part.size(), Collections.min(part));
            }
        }
        return parts.size();
    }

    public int gates() {
        int gates = 0;
        tell();
        for (int field = rows * columns - 1; field >= 0; field--) {
            if (isOpen(field) && partsWithout(field).size() > partsWithout(-1).size()) {
                gates++;
                tell(field);
            }
        }
        return gates;
    }

    public int nearest() {
        int best = Integer.MAX_VALUE;
        for (int one = 0; one < prams.size(); one++) {
            for (int other = one + 1; other < prams.size(); other++) {
                String ways = waysFrom(prams.get(one).field, -1).get(prams.get(other).field);
                if (ways != null && ways.length() < best) {
                    best = ways.length();
                    tell(one, other);
                }
            }
        }
        return best == Integer.MAX_VALUE ? -2 : best;
    }

    // ---- views to be formed

    private record State(int field, int views) {
    }

    private State pushed(int pram, State from, int way) {
        int to = step(from.field, way);
        return to < 0 ? null : new State(to, from.views | formable(rule, pram, to, way, from.views, othersOn(pram, to)));
    }

    private Map<State, String> statesOf(int pram) {
        Map<State, String> found = new HashMap<>();
        TreeMap<String, State> level = new TreeMap<>();
        State start = new State(prams.get(pram).field, prams.get(pram).views);
        level.put("", start);
        found.put(start, "");
        while (!level.isEmpty()) {
            TreeMap<String, State> next = new TreeMap<>();
            for (Map.Entry<String, State> entry : level.entrySet()) {
                for (int way = 0; way < 4; way++) {
                    State to = pushed(pram, entry.getValue(), way);
                    if (to != null && found.putIfAbsent(to, entry.getKey() + way) == null) {
                        next.put(entry.getKey() + way, to);
                    }
                }
            }
            level = next;
        }
        return found;
    }

    public int forms(int pram, int sights) {
        if (!isPram(pram) || inside(sights, 0, 63) == 0) {
            return -1;
        }
        if (prams.get(pram).loose) {
            return -3;
        }
        String best = null;
        for (Map.Entry<State, String> entry : statesOf(pram).entrySet()) {
            String ways = entry.getValue();
            if ((entry.getKey().views & sights) == sights && (best == null || ways.length() < best.length()
                || ways.length() == best.length() && ways.compareTo(best) < 0)) {
                best = ways;
            }
        }
        if (best == null) {
            return -2;
        }
        tellWays(best);
        return best.length();
    }

    public int most(int pram) {
        if (!isPram(pram)) {
            return -1;
        }
        if (prams.get(pram).loose) {
            return -3;
        }
        Map<State, String> states = statesOf(pram);
        int most = states.keySet().stream().mapToInt(s -> Integer.bitCount(s.views)).max().getAsInt();
        tell(states.entrySet().stream().filter(e -> Integer.bitCount(e.getKey().views) == most).mapToInt(e -> e.getValue().length()).min().getAsInt());
        return most;
    }

    private void follow(int pram, State from, int views, String ways, int n, List<String> found) {
        if (n == 0) {
            if (from.views == views) {
                found.add(ways);
            }
            return;
        }
        for (int way = 0; way < 4; way++) {
            State to = pushed(pram, from, way);
            if (to != null) {
                follow(pram, to, views, ways + way, n - 1, found);
            }
        }
    }

    public int ways(int pram, int views, int n) {
        if (!isPram(pram) || inside(views, 0, 63) == 0 || inside(n, 0, 5) == 0) {
            return -1;
        }
        if (prams.get(pram).loose) {
            return -3;
        }
        List<String> found = new ArrayList<>();
        follow(pram, new State(prams.get(pram).field, prams.get(pram).views), views, "", n, found);
        tellWays(found.isEmpty() ? "" : Collections.min(found));
        return found.size();
    }

    private long straysTo(int from, int n, int field) {
        if (n == 0) {
            return from == field ? 1 : 0;
        }
        long sum = 0;
        for (int way = 0; way < 4; way++) {
            int to = step(from, way);
            sum += straysTo(to < 0 ? from : to, n - 1, field);
        }
        return sum;
    }

    public int strays(int pram, int n, int field) {
        if (!isPram(pram) || inside(n, 0, 8) == 0 || !isField(field)) {
            return -1;
        }
        java.math.BigInteger upper = java.math.BigInteger.valueOf(straysTo(prams.get(pram).field, n, field));
        java.math.BigInteger lower = java.math.BigInteger.valueOf(4).pow(n);
        java.math.BigInteger by = upper.gcd(lower);
        tell(upper.divide(by).longValue(), lower.divide(by).longValue());
        return 0;
    }

    // ---- running loose

    /** The FIELDS one comes to that is let go, the last one where it stops; empty if it never does. */
    private List<Integer> run(int field) {
        List<Integer> places = new ArrayList<>(List.of(field));
        while (true) {
            int at = places.get(places.size() - 1);
            int slope = cells.charAt(at) - '0';
            int to = inside(slope, 0, 3) == 1 ? step(at, slope) : -1;
            if (to < 0) {
                return places;
            }
            if (places.contains(to)) {
                return List.of();
            }
            places.add(to);
        }
    }

    public int stops(int pram) {
        if (!isPram(pram)) {
            return -1;
        }
        List<Integer> places = run(prams.get(pram).field);
        if (places.isEmpty()) {
            return -2;
        }
        tell(places.size(), places.size() - 1);
        return places.get(places.size() - 1);
    }

    public int rounds() {
        int rounds = 0;
        tell();
        for (int field = rows * columns - 1; field >= 0; field--) {
            if (isOpen(field) && run(field).isEmpty()) {
                rounds++;
                tell(field);
            }
        }
        return rounds;
    }

    public int basin(int field) {
        if (!isField(field)) {
            return -1;
        }
        if (!isOpen(field)) {
            return -2;
        }
        int fields = 0;
        long longest = 0;
        tell();
        for (int from = rows * columns - 1; from >= 0; from--) {
            List<Integer> places = isOpen(from) ? run(from) : List.of();
            if (!places.isEmpty() && places.get(places.size() - 1) == field) {
                fields++;
                longest = Math.max(longest, places.size() - 1);
                tell(from, longest);
            }
        }
        return fields;
    }

    // ---- laws of views

    public int saw(int d, int v, int is) {
        if (seen.size() == 10 || inside(d, 1, 5) * inside(v, 0, 6) * inside(is, 0, 1) == 0) {
            return -1;
        }
        seen.add(new int[] {d, v, is});
        return seen.size();
    }

    public int denies() {
        int were = seen.size();
        seen.clear();
        return were;
    }

    private List<int[]> fittingLaws() {
        List<int[]> fitting = new ArrayList<>();
        for (int a = 1; a <= 5; a++) {
            for (int b = 0; b <= 6; b++) {
                int[] law = {a, b};
                if (seen.stream().allMatch(s -> (s[0] <= law[0] && s[1] <= law[1] ? 1 : 0) == s[2])) {
                    fitting.add(law);
                }
            }
        }
        return fitting;
    }

    public int laws() {
        List<int[]> fitting = fittingLaws();
        tell();
        if (!fitting.isEmpty()) {
            tell(fitting.get(0)[0], fitting.get(0)[1]);
        }
        return fitting.size();
    }

    public int looks() {
        List<int[]> fitting = fittingLaws();
        if (fitting.isEmpty()) {
            return -2;
        }
        int best = -1;
        long least = Long.MAX_VALUE;
        for (int look = 10; look <= 56; look++) {
            int d = look / 10;
            int v = look % 10;
            long formed = fitting.stream().filter(law -> d <= law[0] && v <= law[1]).count();
            long most = Math.max(formed, fitting.size() - formed);
            if (v <= 6 && most < least) {
                least = most;
                best = look;
            }
        }
        tell(least);
        return best;
    }

    // ---- which one it was

    private static int mayBeHeard(int what, int v) {
        return inside(what, 0, 4) == 0 ? 0 : inside(v, 0, what == 2 ? 3 : what == 4 ? 1 : 5);
    }

    public int heard(int what, int v) {
        if (heardOf.size() == 12 || mayBeHeard(what, v) == 0) {
            return -1;
        }
        heardOf.add(new int[] {what, v});
        return heardOf.size();
    }

    public int forget() {
        int were = heardOf.size();
        heardOf.clear();
        return were;
    }

    private boolean isSo(Pram it, int what, int v) {
        return switch (what) {
            case 0 -> it.field / columns == v;
            case 1 -> it.field % columns == v;
            case 2 -> it.way == v;
            case 3 -> (it.views & 1 << v) != 0;
            default -> it.loose == (v == 1);
        };
    }

    public int fits() {
        int bits = 0;
        for (int pram = 0; pram < prams.size(); pram++) {
            Pram it = prams.get(pram);
            if (heardOf.stream().allMatch(h -> isSo(it, h[0], h[1]))) {
                bits |= 1 << pram;
            }
        }
        tell(Integer.bitCount(bits));
        return bits;
    }

    public int asks() {
        List<Long> before = row;
        int bits = fits();
        row = before;
        if (bits == 0) {
            return -2;
        }
        int best = -1;
        int least = 99;
        for (int ask = 0; ask < 50; ask++) {
            int so = 0;
            for (int pram = 0; pram < prams.size(); pram++) {
                so += (bits >> pram & 1) == 1 && isSo(prams.get(pram), ask / 10, ask % 10) ? 1 : 0;
            }
            int most = Math.max(so, Integer.bitCount(bits) - so);
            if (mayBeHeard(ask / 10, ask % 10) == 1 && most < least) {
                best = ask;
                least = most;
            }
        }
        tell(least);
        return best;
    }

    // ---- a game, laws, shoulders, years

    private static int[] winningMove(int[] heaps, Map<List<Integer>, int[]> known) {
        List<Integer> key = List.of(heaps[0], heaps[1], heaps[2]);
        if (known.containsKey(key)) {
            return known.get(key);
        }
        int[] move = null;
        for (int heap = 0; heap < 3 && move == null; heap++) {
            for (int take = 1; take <= Math.min(3, heaps[heap]) && move == null; take++) {
                int[] left = heaps.clone();
                left[heap] -= take;
                if (winningMove(left, known) == null) {
                    move = new int[] {heap, take};
                }
            }
        }
        known.put(key, move);
        return move;
    }

    public int pond(int a, int b, int c) {
        if (inside(a, 0, 9) * inside(b, 0, 9) * inside(c, 0, 9) == 0) {
            return -1;
        }
        int[] move = winningMove(new int[] {a, b, c}, new HashMap<>());
        tell();
        if (move != null) {
            tell(move[0], move[1]);
        }
        return move == null ? 0 : 1;
    }

    private int sumBy(String by) {
        int sum = 0;
        for (int field = 0; field < rows * columns; field++) {
            for (int way = 0; way < 4; way++) {
                sum += isOpen(field) ? Integer.bitCount(formable(by, 0, field, way)) : 0;
            }
        }
        return sum;
    }

    public int law() {
        String t = read();
        int fault = ruleFault(t);
        if (fault >= 0) {
            return -10000 - fault;
        }
        if (prams.isEmpty()) {
            return -2;
        }
        tell(sumBy(t), sumBy(rule));
        return (int) (row.get(0) - row.get(1));
    }

    private static int has(int v, int x, int y) {
        return (x + y >= 9 ? v : 0) - x + (x < y ? y - x : 0);
    }

    public int shoulders(int v) {
        if (inside(v, 0, 20) == 0) {
            return -1;
        }
        int pairs = 0;
        tell();
        for (int pair = 99; pair >= 0; pair--) {
            int x = pair / 10;
            int y = pair % 10;
            boolean holds = true;
            for (int z = 0; z < 10; z++) {
                holds &= has(v, z, y) <= has(v, x, y) && has(v, z, x) <= has(v, y, x);
            }
            if (holds) {
                pairs++;
                tell(x, y);
            }
        }
        return pairs;
    }

    private long chance;

    private int draw(int n) {
        chance = (chance * 1103515245L + 12345L) & 0xffffffffL;
        return (int) ((chance >> 16) % n);
    }

    public int years(int seed, int n) {
        if (inside(n, 1, 60) == 0) {
            return -1;
        }
        Held now = new Held(prams, minute);
        chance = seed & 0xffffffffL;
        int formed = 0;
        for (int i = 0; i < n; i++) {
            int what = draw(4);
            if (what == 3) {
                pass(1);
                formed += row.get(1).intValue();
            } else if (!prams.isEmpty()) {
                int pram = draw(prams.size());
                int answer = what == 2 ? setLoose(pram, true) : push(pram, draw(4));
                formed += what == 2 || answer < 0 ? 0 : Integer.bitCount(answer);
            }
        }
        int views = 0;
        for (Pram it : prams) {
            views |= it.views;
        }
        tell(Integer.bitCount(count(6)), views);
        prams = now.prams;
        minute = now.minute;
        return formed;
    }

    // ---- kept

    public boolean keep(int i) {
        if (inside(i, 0, 2) == 0) {
            return false;
        }
        kept.put(i, new Held(prams, minute));
        return true;
    }

    public boolean again(int i) {
        Held held = kept.get(i);
        if (held == null) {
            return false;
        }
        prams = held.prams;
        minute = held.minute;
        past.clear();
        return true;
    }

    public int count(int what) {
        int sum = 0;
        switch (what) {
            case 0:
                return rows;
            case 1:
                return columns;
            case 2:
                return prams.size();
            case 3:
                return (int) cells.chars().filter(c -> c != '#').count();
            case 4:
                for (char c = 'a'; c <= 'f'; c++) {
                    sum |= cells.indexOf(c) >= 0 ? 1 << c - 'a' : 0;
                }
                return sum;
            case 5:
                return minute;
            case 6:
                for (int pram = 0; pram < prams.size(); pram++) {
                    sum |= prams.get(pram).loose ? 1 << pram : 0;
                }
                return sum;
            case 7:
                return prams.stream().mapToInt(it -> Integer.bitCount(it.views)).sum();
            case 8:
                return seen.size();
            case 9:
                return heardOf.size();
            case 10:
                return past.size();
            case 11:
                return row.size();
            case 12:
                return text.length();
            default:
                return -100;
        }
    }

    public long row(int i) throws NoSuchElementException {
        if (i < 0 || i >= row.size()) {
            throw new NoSuchElementException();
        }
        return row.get(i);
    }
}
