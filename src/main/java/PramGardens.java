import java.util.Arrays;
import java.util.NoSuchElementException;

/** Gardens, and prams in which children look ahead and form views: ../shared/DOC.md tells what each call promises. */
public final class PramGardens {
    public static final int NONE = -1;

    private static final int MOST_PRAMS = 4;
    private static final int MOST_FIELDS = 36;
    private static final int WAYS = 4;
    private static final int SIGHTS = 6;
    private static final int ALL_SIGHTS = 63;
    private static final int WAYS_TOLD = 12;
    private static final int MOST_PRAM_SIGNS = 15;
    private static final int MOST_WALK_SIGNS = 60;
    private static final int FARTHEST = 5;
    private static final int LAWS = 35;
    /** The highest v that may be heard, for each what. */
    private static final int[] HIGHEST_HEARD = {5, 5, 3, 5, 1};

    private final Text text = new Text();
    private final Garden garden = new Garden();
    private final Outing now = new Outing();
    /** Years are drawn on this one, so that what is now stays. */
    private final Outing drawn = new Outing();
    private final Memory memory = new Memory();
    private final Rule theRule = new Rule();
    /** A rule is read into this one, so that a refused text leaves THE RULE alone. */
    private final Rule otherRule = new Rule();
    private final Eye eye = new Eye(garden);
    private final Deeds deeds = new Deeds(garden, eye, theRule);
    private final Paths paths = new Paths(garden);
    private final Search search = new Search(garden, eye, theRule, now);
    private final Numbers numbers = new Numbers();
    private final Notes seen = new Notes(10);
    private final Notes told = new Notes(12);

    public PramGardens() {
    }

    // ---- gardens, prams

    public int sign(int v) {
        return text.append(v) ? text.length : NONE;
    }

    public boolean end(int n) {
        return text.cut(n);
    }

    public int gardens() {
        boolean stands = garden.reads(text);
        int place = text.close();
        if (!stands) {
            return -1 - place;
        }
        now.clear();
        memory.clear();
        return garden.size;
    }

    public int prams() {
        int lines = countLines();
        if (lines == NONE) {
            return -1 - text.close();
        }
        for (int line = 0; line < lines; line++) {
            int place = 4 * line;
            int field = garden.at(text.digitAt(place), text.digitAt(place + 1));
            now.add(field, text.digitAt(place + 2));
        }
        text.close();
        if (lines > 0) {
            memory.clear();
        }
        return lines;
    }

    /** How many LINES THE TEXT tells; NONE if it can't be read on at its place. */
    private int countLines() {
        text.open(MOST_PRAM_SIGNS);
        if (text.length == 0) {
            return 0;
        }
        int lines = 0;
        for (int room = now.size; room < MOST_PRAMS && readsLine(); room++) {
            lines++;
            if (text.isRead()) {
                return lines;
            }
            if (text.here() != ';') {
                return NONE;
            }
            text.step();
        }
        return NONE;
    }

    private boolean readsLine() {
        int row = text.takeDigit(0, garden.rows - 1);
        if (row == NONE) {
            return false;
        }
        int column = text.digitHere(0, garden.columns - 1);
        if (column == NONE || garden.isWall(garden.at(row, column))) {
            return false;
        }
        text.step();
        return text.takeDigit(0, WAYS - 1) != NONE;
    }

    public int rule() {
        boolean stands = otherRule.reads(text);
        int place = text.close();
        if (!stands) {
            return -1 - place;
        }
        theRule.take(otherRule);
        return 0;
    }

    public int field(int field) throws NoSuchElementException {
        if (!garden.has(field)) {
            throw new NoSuchElementException("no such field");
        }
        return garden.kindOf(field);
    }

    public int pram(int pram, int what) throws NoSuchElementException {
        if (!now.has(pram) || what < 0 || what > 4) {
            throw new NoSuchElementException("no such pram, or nothing such of it");
        }
        switch (what) {
            case 0:
                return now.fieldOf(pram);
            case 1:
                return now.wayOf(pram);
            case 2:
                return now.viewsOf(pram);
            case 3:
                return now.isLoose(pram) ? 1 : 0;
            default:
                return garden.next(now.fieldOf(pram), now.wayOf(pram));
        }
    }

    public int sheet(int kind, int n, int f, int step) {
        if (kind < 0 || kind > 3 || n > MOST_PRAMS) {
            return NONE;
        }
        boolean missing = kind == 3;
        if (!missing && n < 0) {
            return -2;
        }
        int sum = 0;
        for (int pram = 0; pram < now.size; pram++) {
            // a byte, a short and an int have the same lowest six bits: the kinds do not differ here
            int views = missing || pram >= n ? 0 : (f + pram * step) & ALL_SIGHTS;
            now.setViews(pram, views);
            sum += views;
        }
        return missing ? -3 : sum;
    }

    // ---- pushing, letting go

    public int pushes(int pram, int way) {
        memory.mark(now);
        return looked(pram, deeds.shove(now, pram, way));
    }

    public int faces(int pram, int way) {
        memory.mark(now);
        return looked(pram, deeds.turn(now, pram, way));
    }

    /** What a call answers by which a pram was to look, told in the ROW if it did. */
    private int looked(int pram, int answer) {
        if (answer >= 0) {
            memory.addMarked();
            numbers.tellTwo(now.fieldOf(pram), Integer.bitCount(now.viewsOf(pram)));
        }
        return answer;
    }

    public int looses(int pram) {
        memory.mark(now);
        return remembered(deeds.letGo(now, pram));
    }

    public int catches(int pram) {
        memory.mark(now);
        return remembered(deeds.grasp(now, pram));
    }

    public int minutes(int n) {
        memory.mark(now);
        int loose = remembered(deeds.pass(now, n));
        if (loose >= 0) {
            numbers.tellTwo(deeds.went, deeds.formed);
        }
        return loose;
    }

    public int forgets(int pram, int sight) {
        memory.mark(now);
        return remembered(deeds.lose(now, pram, sight));
    }

    private int remembered(int answer) {
        if (answer >= 0) {
            memory.addMarked();
        }
        return answer;
    }

    public int walk() {
        if (!readsWalk()) {
            return -1 - text.close();
        }
        memory.mark(now);
        int done = 0;
        boolean refused = false;
        text.open(MOST_WALK_SIGNS);
        for (int acts = 0; acts < MOST_WALK_SIGNS && !refused && !text.isRead(); acts++) {
            int kind = text.here();
            text.step();
            int first = text.takeDigit(0, 9);
            int second = text.takeDigit(0, Deeds.highestSecond(kind));
            refused = deeds.act(now, kind, first, second) < 0;
            done += refused ? 0 : 1;
        }
        text.close();
        if (done > 0) {
            memory.addMarked();
        }
        numbers.tellTwo(refused ? 1 : 0, now.countViews());
        return done;
    }

    private boolean readsWalk() {
        text.open(MOST_WALK_SIGNS);
        for (int acts = 0; acts < MOST_WALK_SIGNS && !text.isRead(); acts++) {
            if (!readsAct()) {
                return false;
            }
        }
        return text.isRead();
    }

    private boolean readsAct() {
        int kind = text.here();
        if (!Deeds.isKind(kind)) {
            return false;
        }
        text.step();
        if (text.takeDigit(0, 9) == NONE) {
            return false;
        }
        int highest = Deeds.highestSecond(kind);
        return highest == NONE || text.takeDigit(0, highest) != NONE;
    }

    public int undo() {
        return memory.undoInto(now);
    }

    // ---- what is seen

    public int sees(int pram) {
        if (!now.has(pram)) {
            return NONE;
        }
        int stand = WAYS * now.fieldOf(pram) + now.wayOf(pram);
        int sights = eye.wouldForm(theRule, now, pram, stand);
        numbers.tellTwo(eye.fieldsSeen(stand), eye.nearestOf(stand, sights));
        return sights;
    }

    public int would(int pram, int field, int way) {
        if (!now.has(pram) || !garden.has(field) || !isWay(way)) {
            return NONE;
        }
        if (garden.isWall(field)) {
            return -2;
        }
        int sights = eye.wouldForm(theRule, now, pram, WAYS * field + way);
        numbers.tellOne(Integer.bitCount(sights));
        return sights;
    }

    public int stands(int pram) {
        if (!now.has(pram)) {
            return NONE;
        }
        int all = eye.gatherStands(theRule, now, pram);
        int fewest = eye.chooseStands(all);
        numbers.tellOne(all);
        for (int i = 0; i < fewest; i++) {
            numbers.add(eye.chosenStand(i));
        }
        return fewest;
    }

    // ---- ways

    public int way(int from, int to) {
        if (!garden.has(from) || !garden.has(to)) {
            return NONE;
        }
        paths.spread(to, NONE);
        int fewest = paths.distanceTo(from);
        if (fewest == NONE) {
            return -2;
        }
        numbers.clear();
        int place = from;
        for (int i = 0; i < fewest && i < WAYS_TOLD; i++) {
            int way = paths.wayNearer(place);
            numbers.add(way);
            place = garden.next(place, way);
        }
        return fewest;
    }

    public int reach(int field) {
        if (!garden.has(field)) {
            return NONE;
        }
        if (garden.isWall(field)) {
            return -2;
        }
        int reached = paths.spread(field, NONE);
        int farthest = field;
        for (int other = 0; other < garden.size; other++) {
            if (paths.distanceTo(other) > paths.distanceTo(farthest)) {
                farthest = other;
            }
        }
        numbers.tellTwo(paths.distanceTo(farthest), farthest);
        return reached;
    }

    public int parts() {
        int parts = paths.countParts(NONE);
        numbers.clear();
        if (parts > 0) {
            numbers.tellTwo(paths.largest, paths.largestFirst);
        }
        return parts;
    }

    public int gates() {
        int parts = paths.countParts(NONE);
        int gates = 0;
        numbers.clear();
        for (int field = 0; field < garden.size; field++) {
            if (!garden.isWall(field) && paths.countParts(field) > parts) {
                numbers.addFirst(field);
                gates++;
            }
        }
        return gates;
    }

    public int nearest() {
        int fewest = NONE;
        int first = NONE;
        int second = NONE;
        for (int one = 0; one < now.size; one++) {
            paths.spread(now.fieldOf(one), NONE);
            for (int other = one + 1; other < now.size; other++) {
                int distance = paths.distanceTo(now.fieldOf(other));
                if (distance != NONE && (fewest == NONE || distance < fewest)) {
                    fewest = distance;
                    first = one;
                    second = other;
                }
            }
        }
        if (fewest == NONE) {
            return -2;
        }
        numbers.tellTwo(first, second);
        return fewest;
    }

    // ---- views to be formed

    public int forms(int pram, int sights) {
        if (!now.has(pram) || sights < 0 || sights > ALL_SIGHTS) {
            return NONE;
        }
        if (now.isLoose(pram)) {
            return -3;
        }
        search.begin(pram);
        search.spread();
        int state = search.firstWith(sights);
        if (state == NONE) {
            return -2;
        }
        int fewest = search.stepsTo(state);
        numbers.clear();
        for (int i = 0; i < fewest && i < WAYS_TOLD; i++) {
            numbers.add(search.wayTo(state, fewest - 1 - i));
        }
        return fewest;
    }

    public int most(int pram) {
        if (!now.has(pram)) {
            return NONE;
        }
        if (now.isLoose(pram)) {
            return -3;
        }
        search.begin(pram);
        search.spread();
        int state = search.firstWithMost();
        numbers.tellOne(search.stepsTo(state));
        return Integer.bitCount(Search.viewsIn(state));
    }

    public int ways(int pram, int views, int n) {
        if (!now.has(pram) || views < 0 || views > ALL_SIGHTS || n < 0 || n > 5) {
            return NONE;
        }
        if (now.isLoose(pram)) {
            return -3;
        }
        search.begin(pram);
        int rows = 0;
        int least = NONE;
        for (int code = 0; code < 1 << 2 * n; code++) {
            int state = search.follow(code, n);
            if (state != NONE && Search.viewsIn(state) == views) {
                least = rows == 0 ? code : least;
                rows++;
            }
        }
        numbers.clear();
        for (int i = 0; rows > 0 && i < n; i++) {
            numbers.add(Search.wayInCode(least, n, i));
        }
        return rows;
    }

    public int strays(int pram, int n, int field) {
        if (!now.has(pram) || n < 0 || n > 8 || !garden.has(field)) {
            return NONE;
        }
        tellFraction(paths.countStrays(now.fieldOf(pram), n, field), 1L << 2 * n);
        return 0;
    }

    /** The lower number is a power of two: halving is all the shortening there can be. */
    private void tellFraction(long upper, long lower) {
        long top = upper;
        long bottom = upper == 0 ? 1 : lower;
        for (int i = 0; i < 64 && bottom > 1 && top % 2 == 0; i++) {
            top /= 2;
            bottom /= 2;
        }
        numbers.tellTwo(top, bottom);
    }

    // ---- running loose

    public int stops(int pram) {
        if (!now.has(pram)) {
            return NONE;
        }
        int run = garden.runFrom(now.fieldOf(pram));
        if (run == NONE) {
            return -2;
        }
        numbers.tellTwo(run + 1, run);
        return garden.runEnd(now.fieldOf(pram), run);
    }

    public int rounds() {
        int rounds = 0;
        numbers.clear();
        for (int field = 0; field < garden.size; field++) {
            if (!garden.isWall(field) && garden.runFrom(field) == NONE) {
                numbers.addFirst(field);
                rounds++;
            }
        }
        return rounds;
    }

    public int basin(int field) {
        if (!garden.has(field)) {
            return NONE;
        }
        if (garden.isWall(field)) {
            return -2;
        }
        int fields = 0;
        int longest = 0;
        numbers.clear();
        for (int other = 0; other < garden.size; other++) {
            int run = garden.runFrom(other);
            if (!garden.isWall(other) && run != NONE && garden.runEnd(other, run) == field) {
                numbers.addFirst(other);
                longest = Math.max(longest, run);
                fields++;
            }
        }
        if (fields > 0) {
            numbers.add(longest);
        }
        return fields;
    }

    // ---- laws of views

    public int saw(int d, int v, int is) {
        if (d < 1 || d > FARTHEST || v < 0 || v > SIGHTS || is < 0 || is > 1) {
            return NONE;
        }
        return seen.add(100 * is + 10 * d + v) ? seen.size : NONE;
    }

    public int denies() {
        return seen.clear();
    }

    public int laws() {
        long fitting = fittingLaws();
        numbers.clear();
        for (int law = 0; law < LAWS && numbers.size == 0; law++) {
            if ((fitting >> law & 1) == 1) {
                numbers.tellTwo(lawsA(law), lawsB(law));
            }
        }
        return Long.bitCount(fitting);
    }

    /** Bits of laws, which are numbered by rising a, then b. */
    private long fittingLaws() {
        long fitting = 0;
        for (int law = 0; law < LAWS; law++) {
            fitting |= fitsSeen(lawsA(law), lawsB(law)) ? 1L << law : 0;
        }
        return fitting;
    }

    private static int lawsA(int law) {
        return 1 + law / (SIGHTS + 1);
    }

    private static int lawsB(int law) {
        return law % (SIGHTS + 1);
    }

    private boolean fitsSeen(int a, int b) {
        for (int i = 0; i < seen.size; i++) {
            int note = seen.get(i);
            if (isFormed(a, b, note % 100) != (note >= 100)) {
                return false;
            }
        }
        return true;
    }

    /** Whether a law of a, b forms a VIEW, of a look that is 10 times how far and by how many VIEWS. */
    private static boolean isFormed(int a, int b, int look) {
        return look / 10 <= a && look % 10 <= b;
    }

    public int looks() {
        long fitting = fittingLaws();
        if (fitting == 0) {
            return -2;
        }
        int best = NONE;
        int fewest = 0;
        for (int d = 1; d <= FARTHEST; d++) {
            for (int v = 0; v <= SIGHTS; v++) {
                int left = lawsLeftAtMost(fitting, 10 * d + v);
                if (best == NONE || left < fewest) {
                    best = 10 * d + v;
                    fewest = left;
                }
            }
        }
        numbers.tellOne(fewest);
        return best;
    }

    private static int lawsLeftAtMost(long fitting, int look) {
        int formed = 0;
        for (int law = 0; law < LAWS; law++) {
            if ((fitting >> law & 1) == 1 && isFormed(lawsA(law), lawsB(law), look)) {
                formed++;
            }
        }
        return Math.max(formed, Long.bitCount(fitting) - formed);
    }

    // ---- which one it was

    public int heard(int what, int v) {
        if (what < 0 || what >= HIGHEST_HEARD.length || v < 0 || v > HIGHEST_HEARD[what]) {
            return NONE;
        }
        return told.add(10 * what + v) ? told.size : NONE;
    }

    public int forget() {
        return told.clear();
    }

    public int fits() {
        int fitting = fittingPrams();
        numbers.tellOne(Integer.bitCount(fitting));
        return fitting;
    }

    private int fittingPrams() {
        int fitting = 0;
        for (int pram = 0; pram < now.size; pram++) {
            boolean fits = true;
            for (int i = 0; i < told.size; i++) {
                fits = fits && isSo(pram, told.get(i));
            }
            fitting |= fits ? 1 << pram : 0;
        }
        return fitting;
    }

    /** Whether it is so of a PRAM, what can be heard being told as 10 times what and v. */
    private boolean isSo(int pram, int what) {
        int v = what % 10;
        switch (what / 10) {
            case 0:
                return garden.rowOf(now.fieldOf(pram)) == v;
            case 1:
                return garden.columnOf(now.fieldOf(pram)) == v;
            case 2:
                return now.wayOf(pram) == v;
            case 3:
                return (now.viewsOf(pram) >> v & 1) == 1;
            default:
                return now.isLoose(pram) == (v == 1);
        }
    }

    public int asks() {
        int fitting = fittingPrams();
        if (fitting == 0) {
            return -2;
        }
        int best = NONE;
        int fewest = 0;
        for (int what = 0; what < HIGHEST_HEARD.length; what++) {
            for (int v = 0; v <= HIGHEST_HEARD[what]; v++) {
                int left = pramsLeftAtMost(fitting, 10 * what + v);
                if (best == NONE || left < fewest) {
                    best = 10 * what + v;
                    fewest = left;
                }
            }
        }
        numbers.tellOne(fewest);
        return best;
    }

    private int pramsLeftAtMost(int fitting, int what) {
        int so = 0;
        for (int pram = 0; pram < now.size; pram++) {
            if ((fitting >> pram & 1) == 1 && isSo(pram, what)) {
                so++;
            }
        }
        return Math.max(so, Integer.bitCount(fitting) - so);
    }

    // ---- a game, laws, shoulders, years

    public int pond(int a, int b, int c) {
        if (a < 0 || a > 9 || b < 0 || b > 9 || c < 0 || c > 9) {
            return NONE;
        }
        numbers.clear();
        for (int heap = 0; heap < 3; heap++) {
            int toys = heap == 0 ? a : heap == 1 ? b : c;
            for (int take = 1; take <= 3 && take <= toys; take++) {
                if (isLost(heap == 0 ? a - take : a, heap == 1 ? b - take : b, heap == 2 ? c - take : c)) {
                    numbers.tellTwo(heap, take);
                    return 1;
                }
            }
        }
        return 0;
    }

    /** Of 1 .. 3 out of a heap only the rest by 4 counts, and heaps weigh together as in nim. */
    private static boolean isLost(int a, int b, int c) {
        return ((a ^ b ^ c) & 3) == 0;
    }

    public int law() {
        boolean stands = otherRule.reads(text);
        int place = text.close();
        if (!stands) {
            return -10000 - place;
        }
        if (now.size == 0) {
            return -2;
        }
        int byOther = eye.countFromAll(otherRule, now, 0);
        int byRule = eye.countFromAll(theRule, now, 0);
        numbers.tellTwo(byOther, byRule);
        return byOther - byRule;
    }

    public int shoulders(int v) {
        if (v < 0 || v > 20) {
            return NONE;
        }
        int pairs = 0;
        numbers.clear();
        for (int x = 0; x <= 9; x++) {
            for (int y = 0; y <= 9; y++) {
                if (isBestTurn(v, x, y) && isBestTurn(v, y, x)) {
                    if (pairs == 0) {
                        numbers.tellTwo(x, y);
                    }
                    pairs++;
                }
            }
        }
        return pairs;
    }

    private static boolean isBestTurn(int v, int own, int others) {
        for (int another = 0; another <= 9; another++) {
            if (gain(v, another, others) > gain(v, own, others)) {
                return false;
            }
        }
        return true;
    }

    private static int gain(int v, int own, int others) {
        int both = own + others >= 9 ? v : 0;
        return both - own + Math.max(0, others - own);
    }

    public int years(int seed, int n) {
        if (n < 1 || n > 60) {
            return NONE;
        }
        drawn.take(now);
        deeds.seed(seed);
        int formed = 0;
        for (int i = 0; i < n; i++) {
            formed += deeds.drawnAct(drawn);
        }
        numbers.tellTwo(drawn.countLoose(), drawn.allViews());
        return formed;
    }

    // ---- kept

    public boolean keep(int i) {
        return memory.store(i, now);
    }

    public boolean again(int i) {
        return memory.fetch(i, now);
    }

    public int count(int what) {
        switch (what) {
            case 0:
                return garden.rows;
            case 1:
                return garden.columns;
            case 2:
                return now.size;
            case 3:
                return garden.countOpen();
            case 4:
                return garden.sights();
            case 5:
                return now.minute;
            case 6:
                return now.loose;
            case 7:
                return now.countViews();
            case 8:
                return seen.size;
            case 9:
                return told.size;
            case 10:
                return memory.size;
            case 11:
                return numbers.size;
            case 12:
                return text.length;
            default:
                return -100;
        }
    }

    public long row(int i) throws NoSuchElementException {
        if (!numbers.has(i)) {
            throw new NoSuchElementException("no such number");
        }
        return numbers.get(i);
    }

    private static boolean isWay(int way) {
        return way >= 0 && way < WAYS;
    }

    /** THE TEXT, and the place up to which a call has read it. */
    private static final class Text {
        static final int ROOM = 80;
        /** Stands for a sign behind the last one that may be read. */
        static final int OVER = -1;

        private final int[] signs = new int[ROOM];
        private int length;
        private int bound;
        private int place;

        boolean append(int v) {
            if (length + 4 > ROOM) {
                return false;
            }
            for (int shift = 24; shift >= 0; shift -= 8) {
                signs[length] = v >>> shift & 255;
                length++;
            }
            return true;
        }

        boolean cut(int n) {
            if (n < 0 || n > length) {
                return false;
            }
            length = n;
            return true;
        }

        /** Reading starts, of as many signs as there may be. */
        void open(int most) {
            place = 0;
            bound = Math.min(length, most);
        }

        /** Reading ends: the place to which it came. */
        int close() {
            length = 0;
            return place;
        }

        int here() {
            return place < bound ? signs[place] : OVER;
        }

        void step() {
            if (place < bound) {
                place++;
            }
        }

        /** Whether all was read: false, too, at the bound, if there are more signs than there may be. */
        boolean isRead() {
            return place == length;
        }

        int digitHere(int least, int highest) {
            int digit = here() - '0';
            return digit >= least && digit <= highest ? digit : NONE;
        }

        int takeDigit(int least, int highest) {
            int digit = digitHere(least, highest);
            if (digit != NONE) {
                step();
            }
            return digit;
        }

        int digitAt(int i) {
            return i >= 0 && i < length ? signs[i] - '0' : NONE;
        }
    }

    /** GARDENS: each FIELD is held as field() tells it. */
    private static final class Garden {
        private static final int PATH = 0;
        private static final int WALL = 1;
        private static final int SIGHT = 10;
        private static final int SLOPE = 20;

        private final int[] kinds = new int[MOST_FIELDS];
        /** For each FIELD and WAY the FIELD there; NONE if a WALL or the edge is there. */
        private final int[] nexts = new int[MOST_FIELDS * WAYS];
        private int rows = 2;
        private int columns = 2;
        private int size = 4;

        Garden() {
            link();
        }

        boolean reads(Text text) {
            text.open(Text.ROOM);
            int newRows = text.takeDigit(2, 6);
            if (newRows == NONE) {
                return false;
            }
            int newColumns = text.takeDigit(2, 6);
            if (newColumns == NONE) {
                return false;
            }
            for (int i = 0; i < newRows * newColumns; i++) {
                if (kindBySign(text.here()) == NONE) {
                    return false;
                }
                text.step();
            }
            if (!text.isRead()) {
                return false;
            }
            fill(text, newRows, newColumns);
            return true;
        }

        private void fill(Text text, int newRows, int newColumns) {
            rows = newRows;
            columns = newColumns;
            size = rows * columns;
            text.open(Text.ROOM);
            text.step();
            text.step();
            for (int field = 0; field < size; field++) {
                kinds[field] = kindBySign(text.here());
                text.step();
            }
            link();
        }

        private void link() {
            for (int row = 0; row < rows; row++) {
                for (int column = 0; column < columns; column++) {
                    int stand = WAYS * at(row, column);
                    nexts[stand] = openAt(row - 1, column);
                    nexts[stand + 1] = openAt(row, column + 1);
                    nexts[stand + 2] = openAt(row + 1, column);
                    nexts[stand + 3] = openAt(row, column - 1);
                }
            }
        }

        private int openAt(int row, int column) {
            if (row < 0 || row >= rows || column < 0 || column >= columns || isWall(at(row, column))) {
                return NONE;
            }
            return at(row, column);
        }

        private static int kindBySign(int sign) {
            if (sign == '.') {
                return PATH;
            }
            if (sign == '#') {
                return WALL;
            }
            if (sign >= 'a' && sign <= 'f') {
                return SIGHT + sign - 'a';
            }
            return sign >= '0' && sign <= '3' ? SLOPE + sign - '0' : NONE;
        }

        boolean has(int field) {
            return field >= 0 && field < size;
        }

        int at(int row, int column) {
            return row * columns + column;
        }

        int rowOf(int field) {
            return columns > 0 ? field / columns : NONE;
        }

        int columnOf(int field) {
            return columns > 0 ? field % columns : NONE;
        }

        /** What is not there is as good as a WALL: nothing goes there. */
        int kindOf(int field) {
            return field >= 0 && field < size ? kinds[field] : WALL;
        }

        boolean isWall(int field) {
            return kindOf(field) == WALL;
        }

        int sightOn(int field) {
            int kind = kindOf(field);
            return kind >= SIGHT && kind < SLOPE ? kind - SIGHT : NONE;
        }

        /** The FIELD next to one; NONE if a WALL or the edge is there. */
        int next(int field, int way) {
            return field >= 0 && field < size && way >= 0 && way < WAYS ? nexts[WAYS * field + way] : NONE;
        }

        int slopeOn(int field) {
            int kind = kindOf(field);
            return kind >= SLOPE ? kind - SLOPE : NONE;
        }

        /** How many FIELDS one goes that is let go on a FIELD; NONE if it never stops. */
        int runFrom(int field) {
            int place = field;
            for (int went = 0; went < size; went++) {
                place = next(place, slopeOn(place));
                if (place == NONE) {
                    return went;
                }
            }
            // it went as many FIELDS as there are, so it was on one twice
            return NONE;
        }

        int runEnd(int field, int run) {
            int place = field;
            for (int went = 0; went < run && went < MOST_FIELDS; went++) {
                place = next(place, slopeOn(place));
            }
            return place;
        }

        int countOpen() {
            int open = 0;
            for (int field = 0; field < size; field++) {
                open += isWall(field) ? 0 : 1;
            }
            return open;
        }

        int sights() {
            int sights = 0;
            for (int field = 0; field < size; field++) {
                int sight = sightOn(field);
                sights |= sight == NONE ? 0 : 1 << sight;
            }
            return sights;
        }
    }

    /** PRAMS and MINUTE: all that undo() brings back. */
    private static final class Outing {
        private static final int PRAM_BITS = 15;

        private final int[] fields = new int[MOST_PRAMS];
        private final int[] ways = new int[MOST_PRAMS];
        private final int[] views = new int[MOST_PRAMS];
        private int size;
        private int loose;
        private int minute;

        void clear() {
            size = 0;
            loose = 0;
            minute = 0;
        }

        void add(int field, int way) {
            if (size < MOST_PRAMS) {
                fields[size] = field;
                ways[size] = way;
                views[size] = 0;
                size++;
            }
        }

        void take(Outing other) {
            size = other.size;
            unpack(other.packed(), other.minute);
        }

        /** PRAMS but their number (which only a new text changes) in one long. */
        long packed() {
            long bits = 0;
            for (int pram = size - 1; pram >= 0; pram--) {
                int one = fieldOf(pram) << 9 | wayOf(pram) << 7 | viewsOf(pram) << 1 | loose >> pram & 1;
                bits = bits << PRAM_BITS | one;
            }
            return bits;
        }

        void unpack(long bits, int itsMinute) {
            minute = itsMinute;
            loose = 0;
            long rest = bits;
            for (int pram = 0; pram < size; pram++) {
                int one = (int) (rest & (1 << PRAM_BITS) - 1);
                place(pram, one >> 9, one >> 7 & 3);
                setViews(pram, one >> 1 & ALL_SIGHTS);
                setLoose(pram, (one & 1) == 1);
                rest >>= PRAM_BITS;
            }
        }

        boolean has(int pram) {
            return pram >= 0 && pram < size;
        }

        int fieldOf(int pram) {
            return has(pram) ? fields[pram] : NONE;
        }

        int wayOf(int pram) {
            return has(pram) ? ways[pram] : NONE;
        }

        int viewsOf(int pram) {
            return has(pram) ? views[pram] : 0;
        }

        boolean isLoose(int pram) {
            return has(pram) && (loose >> pram & 1) == 1;
        }

        void place(int pram, int field, int way) {
            if (has(pram)) {
                fields[pram] = field;
                ways[pram] = way;
            }
        }

        void setViews(int pram, int bits) {
            if (has(pram)) {
                views[pram] = bits;
            }
        }

        void setLoose(int pram, boolean is) {
            if (has(pram)) {
                loose = is ? loose | 1 << pram : loose & ~(1 << pram);
            }
        }

        int countLoose() {
            return Integer.bitCount(loose);
        }

        int countViews() {
            int sum = 0;
            for (int pram = 0; pram < size; pram++) {
                sum += Integer.bitCount(viewsOf(pram));
            }
            return sum;
        }

        int allViews() {
            int all = 0;
            for (int pram = 0; pram < size; pram++) {
                all |= viewsOf(pram);
            }
            return all;
        }

        int countOthersOn(int field, int pram) {
            int others = 0;
            for (int other = 0; other < size && other < MOST_PRAMS; other++) {
                others += other != pram && fields[other] == field ? 1 : 0;
            }
            return others;
        }
    }

    /** Outings that can be undone, the latest last, and those kept under a number. */
    private static final class Memory {
        private static final int MOST_UNDONE = 15;
        private static final int MOST_KEPT = 3;

        private final long[] pastPrams = new long[MOST_UNDONE];
        private final int[] pastMinutes = new int[MOST_UNDONE];
        private final long[] keptPrams = new long[MOST_KEPT];
        private final int[] keptMinutes = new int[MOST_KEPT];
        private int size;
        private int keptNumbers;
        private long markedPrams;
        private int markedMinute;

        void clear() {
            size = 0;
            keptNumbers = 0;
        }

        /** Before it is known whether an act can be done at all. */
        void mark(Outing outing) {
            markedPrams = outing.packed();
            markedMinute = outing.minute;
        }

        void addMarked() {
            if (size == MOST_UNDONE) {
                System.arraycopy(pastPrams, 1, pastPrams, 0, MOST_UNDONE - 1);
                System.arraycopy(pastMinutes, 1, pastMinutes, 0, MOST_UNDONE - 1);
                size--;
            }
            pastPrams[size] = markedPrams;
            pastMinutes[size] = markedMinute;
            size++;
        }

        int undoInto(Outing outing) {
            if (size == 0) {
                return NONE;
            }
            size--;
            outing.unpack(pastPrams[size], pastMinutes[size]);
            return size;
        }

        boolean store(int i, Outing outing) {
            if (i < 0 || i >= MOST_KEPT) {
                return false;
            }
            keptPrams[i] = outing.packed();
            keptMinutes[i] = outing.minute;
            keptNumbers |= 1 << i;
            return true;
        }

        boolean fetch(int i, Outing outing) {
            if (i < 0 || i >= MOST_KEPT || (keptNumbers >> i & 1) == 0) {
                return false;
            }
            outing.unpack(keptPrams[i], keptMinutes[i]);
            size = 0;
            return true;
        }
    }

    /** A rule of views, with each sign of reckoning behind what it joins, so that it is reckoned from the left. */
    private static final class Rule {
        private static final int MOST_SIGNS = 40;
        private static final int DEEPEST = 4;
        /** Below THING stand numbers, from it on things, from SIGN on signs of reckoning. */
        private static final int THING = 1000;
        private static final int SIGN = 2000;
        /** A - ahead of a thing: above all signs that a text can have. */
        private static final int NEGATED = 256;
        private static final int COMPARES = 1;

        private final int[] codes = new int[MOST_SIGNS];
        /** Signs that wait for what they join, while a text is read; numbers, while it is reckoned. */
        private final int[] stack = new int[MOST_SIGNS];
        private int size;
        private int top;
        private int depth;
        /** For each depth of brackets a bit: whether two were compared in the one that is open there. */
        private int compared;
        private boolean wantsThing;

        Rule() {
            setUsual();
        }

        private void setUsual() {
            codes[0] = 4;
            codes[1] = THING + Eye.DISTANCE;
            codes[2] = SIGN + '-';
            size = 3;
        }

        void take(Rule other) {
            size = other.size;
            System.arraycopy(other.codes, 0, codes, 0, MOST_SIGNS);
        }

        /** Whether THE TEXT is a rule; if not, its place tells where it can't go on. */
        boolean reads(Text text) {
            text.open(MOST_SIGNS);
            if (text.isRead()) {
                setUsual();
                return true;
            }
            size = 0;
            top = 0;
            depth = 0;
            compared = 0;
            wantsThing = true;
            for (int i = 0; i < MOST_SIGNS && text.here() != Text.OVER; i++) {
                if (wantsThing ? !readsThing(text) : !readsSign(text)) {
                    return false;
                }
            }
            settle(COMPARES);
            return !wantsThing && depth == 0 && text.isRead();
        }

        private boolean readsThing(Text text) {
            int sign = text.here();
            if (sign == '-') {
                hold(NEGATED);
                text.step();
                return true;
            }
            if (sign == '(') {
                return opensBracket(text);
            }
            if (text.digitHere(0, 9) != NONE) {
                readNumber(text);
                return true;
            }
            int thing = thingBySign(sign);
            if (thing == NONE) {
                return false;
            }
            add(THING + thing);
            wantsThing = false;
            text.step();
            return true;
        }

        private boolean opensBracket(Text text) {
            if (depth >= DEEPEST) {
                return false;
            }
            depth++;
            compared &= ~(1 << depth);
            hold('(');
            text.step();
            return true;
        }

        private void readNumber(Text text) {
            int number = 0;
            for (int digits = 0; digits < 3 && text.digitHere(0, 9) != NONE; digits++) {
                number = 10 * number + text.takeDigit(0, 9);
            }
            add(number);
            wantsThing = false;
        }

        private boolean readsSign(Text text) {
            int sign = text.here();
            if (sign == ')') {
                return closesBracket(text);
            }
            int strength = strengthOf(sign);
            if (strength == 0 || strength == COMPARES && (compared >> depth & 1) == 1) {
                return false;
            }
            if (strength == COMPARES) {
                compared |= 1 << depth;
            }
            settle(strength);
            hold(sign);
            wantsThing = true;
            text.step();
            return true;
        }

        private boolean closesBracket(Text text) {
            if (depth == 0) {
                return false;
            }
            settle(COMPARES);
            top = Math.max(0, top - 1);
            depth--;
            text.step();
            return true;
        }

        /** How tightly a sign binds; 0 if it joins nothing. */
        private static int strengthOf(int sign) {
            switch (sign) {
                case '<':
                case '>':
                case '=':
                    return COMPARES;
                case '+':
                case '-':
                    return 2;
                case '*':
                case '/':
                    return 3;
                case NEGATED:
                    return 4;
                default:
                    return 0;
            }
        }

        private static int thingBySign(int sign) {
            switch (sign) {
                case 'd':
                    return Eye.DISTANCE;
                case 's':
                    return Eye.SIGHT;
                case 'v':
                    return Eye.VIEWS;
                case 'h':
                    return Eye.WAY;
                case 'k':
                    return Eye.OTHERS;
                case 'i':
                    return Eye.PRAM;
                case 'n':
                    return Eye.MINUTE;
                default:
                    return NONE;
            }
        }

        /** Waiting signs that bind as tightly as the next one, or more so, are reckoned ahead of it. */
        private void settle(int strength) {
            for (; top > 0 && strengthOf(stack[top - 1]) >= strength; top--) {
                add(SIGN + stack[top - 1]);
            }
        }

        private void hold(int value) {
            if (top < MOST_SIGNS) {
                stack[top] = value;
                top++;
            }
        }

        private void add(int code) {
            if (size < MOST_SIGNS) {
                codes[size] = code;
                size++;
            }
        }

        int reckon(int[] things) {
            top = 0;
            for (int i = 0; i < size; i++) {
                int code = codes[i];
                if (code < THING) {
                    hold(code);
                } else if (code < SIGN) {
                    hold(code - THING < things.length ? things[code - THING] : 0);
                } else if (code == SIGN + NEGATED) {
                    hold(-release());
                } else {
                    int right = release();
                    hold(join(code - SIGN, release(), right));
                }
            }
            return release();
        }

        private int release() {
            if (top == 0) {
                return 0;
            }
            top--;
            return stack[top];
        }

        private static int join(int sign, int left, int right) {
            switch (sign) {
                case '<':
                    return left < right ? 1 : 0;
                case '>':
                    return left > right ? 1 : 0;
                case '=':
                    return left == right ? 1 : 0;
                case '+':
                    return left + right;
                case '-':
                    return left - right;
                case '*':
                    return left * right;
                default:
                    return right == 0 ? 0 : left / right;
            }
        }
    }

    /** What is seen from stands; a stand is 4 times FIELD and WAY. */
    private static final class Eye {
        private static final int DISTANCE = 0;
        private static final int SIGHT = 1;
        private static final int VIEWS = 2;
        private static final int WAY = 3;
        private static final int OTHERS = 4;
        private static final int PRAM = 5;
        private static final int MINUTE = 6;
        private static final int SETS = ALL_SIGHTS + 1;

        private final Garden garden;
        private final int[] things = new int[7];
        /** Stands from which differing sets of SIGHTS are formed: of each set the first, rising. */
        private final int[] stands = new int[SETS];
        private final int[] sets = new int[SETS];
        private final int[] chosen = new int[SIGHTS];
        private int size;

        Eye(Garden garden) {
            this.garden = garden;
        }

        /** SIGHTS of which a VIEW can be formed from a stand by so many VIEWS, whichever these are. */
        int canForm(Rule rule, Outing outing, int pram, int stand, int views) {
            int place = stand / WAYS;
            int way = stand % WAYS;
            things[VIEWS] = views;
            things[WAY] = way;
            things[OTHERS] = outing.countOthersOn(place, pram);
            things[PRAM] = pram;
            things[MINUTE] = outing.minute % 7;
            int passed = 0;
            int formed = 0;
            for (int distance = 1; distance <= FARTHEST; distance++) {
                place = garden.next(place, way);
                if (place == NONE) {
                    break;
                }
                int sight = garden.sightOn(place);
                if (sight == NONE || (passed >> sight & 1) == 1) {
                    continue;
                }
                passed |= 1 << sight;
                things[DISTANCE] = distance;
                things[SIGHT] = sight;
                formed |= rule.reckon(things) > 0 ? 1 << sight : 0;
            }
            return formed;
        }

        int wouldForm(Rule rule, Outing outing, int pram, int stand) {
            int views = outing.viewsOf(pram);
            return canForm(rule, outing, pram, stand, Integer.bitCount(views)) & ~views;
        }

        int fieldsSeen(int stand) {
            int place = stand / WAYS;
            for (int passed = 0; passed < FARTHEST; passed++) {
                place = garden.next(place, stand % WAYS);
                if (place == NONE) {
                    return passed;
                }
            }
            return FARTHEST;
        }

        /** How many FIELDS off the nearest of some SIGHTS is; 0 if none is ahead. */
        int nearestOf(int stand, int sights) {
            int place = stand / WAYS;
            for (int distance = 1; distance <= FARTHEST; distance++) {
                place = garden.next(place, stand % WAYS);
                int sight = garden.sightOn(place);
                if (sight != NONE && (sights >> sight & 1) == 1) {
                    return distance;
                }
            }
            return 0;
        }

        int countFromAll(Rule rule, Outing outing, int pram) {
            int sum = 0;
            for (int stand = 0; stand < WAYS * garden.size; stand++) {
                if (!garden.isWall(stand / WAYS)) {
                    sum += Integer.bitCount(wouldForm(rule, outing, pram, stand));
                }
            }
            return sum;
        }

        /** All SIGHTS that can be formed from any stand; the stands are held for chooseStands(). */
        int gatherStands(Rule rule, Outing outing, int pram) {
            int all = 0;
            size = 0;
            for (int stand = 0; stand < WAYS * garden.size; stand++) {
                int set = garden.isWall(stand / WAYS) ? 0 : wouldForm(rule, outing, pram, stand);
                if (set != 0 && size < SETS && !isGathered(set)) {
                    stands[size] = stand;
                    sets[size] = set;
                    size++;
                    all |= set;
                }
            }
            return all;
        }

        private boolean isGathered(int set) {
            for (int i = 0; i < size; i++) {
                if (sets[i] == set) {
                    return true;
                }
            }
            return false;
        }

        int chooseStands(int all) {
            for (int fewest = 0; fewest <= SIGHTS; fewest++) {
                if (isChosen(all, 0, 0, fewest)) {
                    return fewest;
                }
            }
            return NONE;
        }

        /** Tries the stands in rising order, so that the first choice that does is the least row. */
        private boolean isChosen(int wanted, int from, int depth, int fewest) {
            if (wanted == 0) {
                return true;
            }
            if (depth >= fewest || depth >= SIGHTS) {
                return false;
            }
            for (int i = from; i < size; i++) {
                if ((sets[i] & wanted) != 0) {
                    chosen[depth] = stands[i];
                    if (isChosen(wanted & ~sets[i], i + 1, depth + 1, fewest)) {
                        return true;
                    }
                }
            }
            return false;
        }

        int chosenStand(int i) {
            return i >= 0 && i < SIGHTS ? chosen[i] : NONE;
        }
    }

    /** What is done with prams: each answers as the call of the face that is named for it. */
    private static final class Deeds {
        private final Garden garden;
        private final Eye eye;
        private final Rule rule;
        /** FIELDS that all went, VIEWS that were formed, in the latest pass(). */
        private int went;
        private int formed;
        private int chance;

        Deeds(Garden garden, Eye eye, Rule rule) {
            this.garden = garden;
            this.eye = eye;
            this.rule = rule;
        }

        static boolean isKind(int kind) {
            return kind == 'n' || kind == 'l' || kind == 'c' || highestSecond(kind) != NONE;
        }

        /** The highest second digit of an act of A WALK; NONE if it has but one. */
        static int highestSecond(int kind) {
            if (kind == 'p' || kind == 't') {
                return WAYS - 1;
            }
            return kind == 'f' ? SIGHTS - 1 : NONE;
        }

        int act(Outing outing, int kind, int first, int second) {
            switch (kind) {
                case 'n':
                    return pass(outing, first);
                case 'p':
                    return shove(outing, first, second);
                case 't':
                    return turn(outing, first, second);
                case 'l':
                    return letGo(outing, first);
                case 'c':
                    return grasp(outing, first);
                default:
                    return lose(outing, first, second);
            }
        }

        int shove(Outing outing, int pram, int way) {
            if (!outing.has(pram) || !isWay(way)) {
                return NONE;
            }
            if (outing.isLoose(pram)) {
                return -2;
            }
            int to = garden.next(outing.fieldOf(pram), way);
            if (to == NONE) {
                return -3;
            }
            outing.place(pram, to, way);
            return look(outing, pram);
        }

        int turn(Outing outing, int pram, int way) {
            if (!outing.has(pram) || !isWay(way)) {
                return NONE;
            }
            if (outing.isLoose(pram)) {
                return -2;
            }
            if (outing.wayOf(pram) == way) {
                return -3;
            }
            outing.place(pram, outing.fieldOf(pram), way);
            return look(outing, pram);
        }

        private int look(Outing outing, int pram) {
            int stand = WAYS * outing.fieldOf(pram) + outing.wayOf(pram);
            int views = outing.viewsOf(pram);
            int sights = eye.canForm(rule, outing, pram, stand, Integer.bitCount(views)) & ~views;
            outing.setViews(pram, views | sights);
            return sights;
        }

        int letGo(Outing outing, int pram) {
            if (!outing.has(pram)) {
                return NONE;
            }
            if (outing.isLoose(pram)) {
                return -2;
            }
            outing.setLoose(pram, true);
            return outing.countLoose();
        }

        int grasp(Outing outing, int pram) {
            if (!outing.has(pram)) {
                return NONE;
            }
            if (!outing.isLoose(pram)) {
                return -2;
            }
            outing.setLoose(pram, false);
            return outing.countLoose();
        }

        int lose(Outing outing, int pram, int sight) {
            if (!outing.has(pram) || sight < 0 || sight >= SIGHTS) {
                return NONE;
            }
            int views = outing.viewsOf(pram);
            if ((views >> sight & 1) == 0) {
                return -2;
            }
            outing.setViews(pram, views & ~(1 << sight));
            return outing.viewsOf(pram);
        }

        int pass(Outing outing, int n) {
            if (n < 0 || n > 60) {
                return NONE;
            }
            went = 0;
            formed = 0;
            for (int i = 0; i < n; i++) {
                for (int pram = 0; pram < outing.size; pram++) {
                    int slope = garden.slopeOn(outing.fieldOf(pram));
                    int to = garden.next(outing.fieldOf(pram), slope);
                    if (outing.isLoose(pram) && to != NONE) {
                        outing.place(pram, to, slope);
                        went++;
                        formed += Integer.bitCount(look(outing, pram));
                    } else {
                        outing.setLoose(pram, false);
                    }
                }
                outing.minute++;
            }
            return outing.countLoose();
        }

        void seed(int seed) {
            chance = seed;
        }

        private int draw(int n) {
            chance = chance * 1103515245 + 12345;
            return n > 0 ? (chance >>> 16) % n : 0;
        }

        /** How many VIEWS are formed by an act that is drawn; one that can't be is left out. */
        int drawnAct(Outing outing) {
            int kind = draw(4);
            if (kind == 3) {
                pass(outing, 1);
                return formed;
            }
            if (outing.size == 0) {
                return 0;
            }
            int pram = draw(outing.size);
            if (kind == 2) {
                letGo(outing, pram);
                return 0;
            }
            return Integer.bitCount(Math.max(0, shove(outing, pram, draw(WAYS))));
        }
    }

    /** Ways from FIELD to FIELD. */
    private static final class Paths {
        private final Garden garden;
        private final int[] distances = new int[MOST_FIELDS];
        private final int[] queue = new int[MOST_FIELDS];
        private final int[] counted = new int[MOST_FIELDS];
        private final int[] strays = new int[MOST_FIELDS];
        private final int[] straysNext = new int[MOST_FIELDS];
        /** Of the latest countParts(): how many FIELDS the largest part has, and its first. */
        private int largest;
        private int largestFirst;

        Paths(Garden garden) {
            this.garden = garden;
        }

        /** Finds how far all FIELDS are from one, as though the closed one were a WALL: how many can be reached. */
        int spread(int from, int closed) {
            Arrays.fill(distances, NONE);
            if (garden.isWall(from) || from == closed) {
                return 0;
            }
            distances[from] = 0;
            queue[0] = from;
            int reached = 1;
            for (int i = 0; i < reached && i < MOST_FIELDS; i++) {
                for (int way = 0; way < WAYS; way++) {
                    int to = garden.next(queue[i], way);
                    if (to != NONE && to != closed && distances[to] == NONE && reached < MOST_FIELDS) {
                        distances[to] = distances[queue[i]] + 1;
                        queue[reached] = to;
                        reached++;
                    }
                }
            }
            return reached;
        }

        int distanceTo(int field) {
            return garden.has(field) ? distances[field] : NONE;
        }

        /** The first WAY by which it is nearer to where the latest spread() began; NONE if there is none. */
        int wayNearer(int field) {
            for (int way = 0; way < WAYS; way++) {
                int to = garden.next(field, way);
                if (to != NONE && distanceTo(to) == distanceTo(field) - 1) {
                    return way;
                }
            }
            return NONE;
        }

        int countParts(int closed) {
            Arrays.fill(counted, 0);
            largest = 0;
            largestFirst = NONE;
            int parts = 0;
            for (int field = 0; field < garden.size; field++) {
                if (!garden.isWall(field) && field != closed && counted[field] == 0) {
                    countPart(field, closed);
                    parts++;
                }
            }
            return parts;
        }

        private void countPart(int first, int closed) {
            int reached = spread(first, closed);
            for (int i = 0; i < reached; i++) {
                counted[queue[i]] = 1;
            }
            if (reached > largest) {
                largest = reached;
                largestFirst = first;
            }
        }

        /** By how many of the rows of n WAYS one strays from a FIELD to another. */
        int countStrays(int from, int n, int to) {
            if (!garden.has(from) || !garden.has(to)) {
                return 0;
            }
            Arrays.fill(strays, 0);
            strays[from] = 1;
            for (int i = 0; i < n; i++) {
                strayOnce();
            }
            return strays[to];
        }

        private void strayOnce() {
            Arrays.fill(straysNext, 0);
            for (int field = 0; field < garden.size; field++) {
                for (int way = 0; way < WAYS; way++) {
                    int to = garden.next(field, way);
                    straysNext[to == NONE ? field : to] += strays[field];
                }
            }
            System.arraycopy(straysNext, 0, strays, 0, MOST_FIELDS);
        }
    }

    /** What a pram can come to by pushes; a state is its FIELD (times 64) and its VIEWS: its WAY no longer counts. */
    private static final class Search {
        private static final int SETS = ALL_SIGHTS + 1;
        private static final int STATES = MOST_FIELDS * SETS;
        private static final int COUNTS = SIGHTS + 1;
        private static final int START = -2;

        private final Garden garden;
        private final Eye eye;
        private final Rule rule;
        private final Outing outing;
        /** For each state 4 times the one ahead of it and the WAY from there; START, or NONE if not come to. */
        private final int[] origins = new int[STATES];
        private final int[] queue = new int[STATES];
        /** For each stand and number of VIEWS what can be formed; NONE if not looked at yet. */
        private final int[] formable = new int[MOST_FIELDS * WAYS * COUNTS];
        private int reached;
        private int start;
        private int pram;

        Search(Garden garden, Eye eye, Rule rule, Outing outing) {
            this.garden = garden;
            this.eye = eye;
            this.rule = rule;
            this.outing = outing;
        }

        void begin(int itsPram) {
            pram = itsPram;
            start = outing.fieldOf(pram) * SETS + outing.viewsOf(pram);
            Arrays.fill(formable, NONE);
        }

        static int viewsIn(int state) {
            return state & ALL_SIGHTS;
        }

        static int wayInCode(int code, int n, int i) {
            return code >> 2 * (n - 1 - i) & 3;
        }

        /** The state by a push to a WAY; NONE if it is refused. */
        private int pushed(int state, int way) {
            int to = garden.next(state / SETS, way);
            if (to == NONE) {
                return NONE;
            }
            int views = viewsIn(state);
            int count = Integer.bitCount(views);
            int stand = WAYS * to + way;
            int i = stand * COUNTS + count;
            if (formable[i] == NONE) {
                formable[i] = eye.canForm(rule, outing, pram, stand, count);
            }
            return to * SETS + (views | formable[i]);
        }

        /** The state by n pushes, two bits of a code each, the highest first; NONE if one is refused. */
        int follow(int code, int n) {
            int state = start;
            for (int i = 0; i < n && state != NONE; i++) {
                state = pushed(state, wayInCode(code, n, i));
            }
            return state;
        }

        /** Comes to all states; by the order of trying, to each by the least row of the fewest pushes. */
        void spread() {
            Arrays.fill(origins, NONE);
            reached = 0;
            if (start < 0 || start >= STATES) {
                return;
            }
            origins[start] = START;
            queue[0] = start;
            reached = 1;
            for (int i = 0; i < reached && i < STATES; i++) {
                for (int way = 0; way < WAYS; way++) {
                    int state = pushed(queue[i], way);
                    if (state != NONE && origins[state] == NONE && reached < STATES) {
                        origins[state] = WAYS * queue[i] + way;
                        queue[reached] = state;
                        reached++;
                    }
                }
            }
        }

        int firstWith(int sights) {
            for (int i = 0; i < reached; i++) {
                if ((viewsIn(queue[i]) & sights) == sights) {
                    return queue[i];
                }
            }
            return NONE;
        }

        int firstWithMost() {
            int best = start;
            for (int i = 0; i < reached; i++) {
                if (Integer.bitCount(viewsIn(queue[i])) > Integer.bitCount(viewsIn(best))) {
                    best = queue[i];
                }
            }
            return best;
        }

        private int originOf(int state) {
            return state >= 0 && state < STATES ? origins[state] : NONE;
        }

        int stepsTo(int state) {
            int at = state;
            for (int steps = 0; steps < STATES; steps++) {
                if (originOf(at) < 0) {
                    return steps;
                }
                at = originOf(at) / WAYS;
            }
            return STATES;
        }

        /** The WAY of a push on the way to a state, told by how many pushes come behind it. */
        int wayTo(int state, int behind) {
            int at = state;
            for (int i = 0; i < behind && originOf(at) >= 0; i++) {
                at = originOf(at) / WAYS;
            }
            return originOf(at) < 0 ? NONE : originOf(at) % WAYS;
        }
    }

    /** The ROW. */
    private static final class Numbers {
        private final long[] list = new long[16];
        private int size;

        void clear() {
            size = 0;
        }

        void add(long number) {
            if (size < list.length) {
                list[size] = number;
                size++;
            }
        }

        /** Of several that would be told, the first alone is. */
        void addFirst(long number) {
            if (size == 0) {
                add(number);
            }
        }

        void tellOne(long number) {
            clear();
            add(number);
        }

        void tellTwo(long first, long second) {
            tellOne(first);
            add(second);
        }

        boolean has(int i) {
            return i >= 0 && i < size;
        }

        long get(int i) {
            return has(i) ? list[i] : 0;
        }
    }

    /** What was seen, or heard: numbers, no more of them than there is room for. */
    private static final class Notes {
        private final int[] list;
        private int size;

        Notes(int room) {
            list = new int[Math.max(0, room)];
        }

        boolean add(int note) {
            if (size >= list.length) {
                return false;
            }
            list[size] = note;
            size++;
            return true;
        }

        int get(int i) {
            return i >= 0 && i < size ? list[i] : 0;
        }

        int clear() {
            int were = size;
            size = 0;
            return were;
        }
    }
}
