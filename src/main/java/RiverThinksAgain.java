import java.util.Arrays;
import java.util.NoSuchElementException;

/**
 * A river in sight of the sea: where it goes, tide by tide, and what could be done about it.
 * ../shared/DOC.md says what each call promises.
 */
public final class RiverThinksAgain {
    public static final int NONE = -1;

    // The document tells many things by the same number; each has its own name here.
    private static final int LAKE = -2;
    private static final int BY_NONE = -2;
    private static final int NOT_SO_MUCH = -2;
    private static final int NO_WALL_LEFT = -2;
    private static final int IS_THERE = -2;
    private static final int TOO_FEW_ENTRIES = -2;
    private static final int TOO_HIGH = -3;
    private static final int SHEET_MISSING = -3;
    private static final int OUT_OF_ASKING = -100;
    private static final int LAW_IS_WRONG = -10000;

    private static final int MOST_FIELDS = 36;
    private static final int MOST_COLUMNS = 6;
    private static final int MOST_HEIGHT = 9;
    private static final int MOST_WALLS = 8;
    private static final int MOST_LAKES = 9999;
    private static final int MOST_TEXT = 80;
    private static final int MOST_FORCES = 20;
    private static final int MOST_RULE = 40;
    private static final int MOST_NESTED = 4;
    private static final int MOST_DIGITS = 3;
    private static final int MOST_YEAR = 60;
    private static final int MOST_PASSING = 60;
    private static final int MOST_AHEAD = 99;
    private static final int MOST_WALLS_MORE = 3;
    private static final int MOST_SHIPS = 8;
    private static final int MOST_TIMETABLE = 20;
    private static final int MOST_SEEN_AHEAD = 20;
    private static final int MOST_NOTED = 10;
    private static final int MOST_UNDONE = 15;
    private static final int MOST_KEPT = 3;
    private static final int MOST_BAR = 60;
    private static final int MOST_OPEN = 12;
    private static final int MOST_WORTH = 20;
    private static final int LAST_LAW = 3;

    private static final int BELOW = 0;
    private static final int LEFT = 1;
    private static final int RIGHT = 2;
    private static final int WAYS = 3;

    private final Text text = new Text();
    private final Told told = new Told();
    private final Land land = new Land();
    private final Forces forces = new Forces();
    private final Rule rule = new Rule();
    private final Rule otherRule = new Rule();
    private final RuleReader reader = new RuleReader();
    private final State now = new State();
    private final State before = new State();
    private final State dream = new State();
    private final River river = new River(land, forces, now, rule);
    private final Past past = new Past();
    private final State[] kept = new State[MOST_KEPT];
    private int keptNumbers;
    private final Noted sightings = new Noted();
    private final Noted marks = new Noted();
    private final Harbour harbour = new Harbour();
    private final long[] followed = new long[MOST_COLUMNS * (MOST_SEEN_AHEAD + 1)];
    private final int[] winningCuts = new int[MOST_BAR + 1];
    private final long[] openRuns = new long[MOST_OPEN + 1];

    public RiverThinksAgain() {
        for (int i = 0; i < MOST_KEPT; i++) {
            kept[i] = new State();
        }
    }

    // ---- land, tides

    public int sign(int v) {
        return text.append(v);
    }

    public boolean end(int n) {
        return text.shorten(n);
    }

    public int land() {
        int wrong = wrongSignOfLand();
        if (wrong == NONE) {
            takeLand();
        }
        text.empty();
        return wrong == NONE ? land.fields : -1 - wrong;
    }

    public int force() {
        int wrong = text.wrongDigit('0', MOST_FORCES);
        int answer = -1 - wrong;
        if (wrong == NONE) {
            forces.take(text);
            answer = text.length;
        }
        text.empty();
        return answer;
    }

    public int rule() {
        int wrong = reader.read(text, rule);
        text.empty();
        return wrong == NONE ? 0 : -1 - wrong;
    }

    public int field(int field, int what) throws NoSuchElementException {
        if (!land.holds(field) || what < 0 || what > 3) {
            throw new NoSuchElementException();
        }
        if (what == 0) {
            return now.heights[field];
        }
        if (what == 3) {
            river.flow(now, rule);
            return bit(river.on, field);
        }
        return bit(what == 1 ? now.walls : now.bed, field);
    }

    public int dislikes(int field, int way) throws NoSuchElementException {
        if (!land.holds(field) || way < 0 || way > 1) {
            throw new NoSuchElementException();
        }
        river.look(now, rule);
        return river.dislike(field, way);
    }

    public int sheet(int kind, int n, int f, int step) {
        if (kind < 0 || kind > 3 || n > MOST_FIELDS) {
            return NONE;
        }
        if (kind < 3 && n < 0) {
            return TOO_FEW_ENTRIES;
        }
        int entries = kind == 3 ? 0 : n;
        int entry = f;
        for (int i = 0; i < land.fields; i++) {
            now.heights[i] = i < entries ? heightOf(kind, entry) : 0;
            entry += step;
        }
        return kind == 3 ? SHEET_MISSING : now.sum();
    }

    private int wrongSignOfLand() {
        for (int p = 0; p < 2; p++) {
            int size = text.digit(p);
            if (size < 2 || size > MOST_COLUMNS) {
                return p;
            }
        }
        int signs = 2 + text.digit(0) * text.digit(1);
        for (int p = 2; p < signs; p++) {
            if (text.digit(p) == NONE) {
                return p;
            }
        }
        return text.length > signs ? signs : NONE;
    }

    private void takeLand() {
        land.measure(text.digit(0), text.digit(1));
        now.clear();
        for (int i = 0; i < land.fields; i++) {
            now.heights[i] = text.digit(2 + i);
        }
        past.forgetAll();
        keptNumbers = 0;
        sightings.size = 0;
        marks.size = 0;
    }

    private static int heightOf(int kind, int entry) {
        int told = kind == 0 ? (byte) entry : kind == 1 ? (short) entry : entry;
        return Math.max(0, Math.min(MOST_HEIGHT, told));
    }

    // ---- tides go by

    public int tides(int n) {
        if (n < 0 || n > MOST_PASSING) {
            return NONE;
        }
        before.copy(now);
        int arrived = river.pass(now, rule, n);
        past.push(before);
        told.start();
        told.add(now.sum());
        told.add(Long.bitCount(now.bed));
        return arrived;
    }

    public int cut(int field, int n) {
        before.copy(now);
        return remembered(cutOff(now, field, n));
    }

    public int heap(int field, int n) {
        before.copy(now);
        return remembered(heapOn(field, n));
    }

    public int wall(int field) {
        before.copy(now);
        return remembered(turnWall(now, field));
    }

    public int source(int column) {
        before.copy(now);
        return remembered(moveSource(column));
    }

    public int year() {
        int wrong = wrongSignOfYear();
        if (wrong != NONE) {
            text.empty();
            return -1 - wrong;
        }
        before.copy(now);
        int done = 0;
        int refused = 0;
        int p = 0;
        for (int i = 0; i < MOST_YEAR && p < text.length && refused == 0; i++) {
            if (doAct(p) < 0) {
                refused = 1;
            } else {
                done++;
            }
            p += 1 + digitsOfAct(text.at(p));
        }
        if (done > 0) {
            past.push(before);
        }
        text.empty();
        told.start();
        told.add(refused);
        told.add(now.tide);
        return done;
    }

    public int undo() {
        return past.pop(now) ? past.size : NONE;
    }

    private int remembered(int answer) {
        if (answer >= 0) {
            past.push(before);
        }
        return answer;
    }

    private int cutOff(State state, int field, int n) {
        if (!land.holds(field) || n < 1 || n > MOST_HEIGHT) {
            return NONE;
        }
        if (state.heights[field] < n) {
            return NOT_SO_MUCH;
        }
        state.heights[field] -= n;
        return state.heights[field];
    }

    private int heapOn(int field, int n) {
        if (!land.holds(field) || n < 1 || n > MOST_HEIGHT) {
            return NONE;
        }
        if (now.heights[field] + n > MOST_HEIGHT) {
            return TOO_HIGH;
        }
        now.heights[field] += n;
        return now.heights[field];
    }

    private int turnWall(State state, int field) {
        if (!land.holds(field)) {
            return NONE;
        }
        if (bit(state.walls, field) == 0 && Long.bitCount(state.walls) >= MOST_WALLS) {
            return NO_WALL_LEFT;
        }
        state.walls ^= 1L << field;
        return Long.bitCount(state.walls);
    }

    private int moveSource(int column) {
        if (column < 0 || column >= land.columns) {
            return NONE;
        }
        if (column == now.source) {
            return IS_THERE;
        }
        int was = now.source;
        now.source = column;
        return was;
    }

    private int wrongSignOfYear() {
        int told = Math.min(text.length, MOST_YEAR);
        char act = ' ';
        int digitsLeft = 0;
        for (int p = 0; p < told; p++) {
            if (digitsLeft == 0) {
                act = text.at(p);
                digitsLeft = digitsOfAct(act);
                if (digitsLeft == 0) {
                    return p;
                }
            } else {
                int least = digitsLeft == 1 && digitsOfAct(act) == 3 ? 1 : 0;
                if (text.digit(p) < least) {
                    return p;
                }
                digitsLeft--;
            }
        }
        if (text.length > MOST_YEAR) {
            return MOST_YEAR;
        }
        return digitsLeft > 0 ? told : NONE;
    }

    private static int digitsOfAct(char act) {
        switch (act) {
            case 'n':
            case 's':
                return 1;
            case 'w':
                return 2;
            case 'c':
            case 'h':
                return 3;
            default:
                return 0;
        }
    }

    private int doAct(int p) {
        int first = text.digit(p + 1);
        int field = land.fieldAt(first, text.digit(p + 2));
        int amount = text.digit(p + 3);
        switch (text.at(p)) {
            case 'n':
                return river.pass(now, rule, first);
            case 'c':
                return cutOff(now, field, amount);
            case 'h':
                return heapOn(field, amount);
            case 'w':
                return turnWall(now, field);
            case 's':
                return moveSource(first);
            default:
                return NONE;
        }
    }

    // ---- where it goes

    public int course() {
        river.flow(now, rule);
        told.start();
        for (int i = 0; i < river.length; i++) {
            told.add(river.path[i]);
        }
        return river.mouth;
    }

    public int ahead(int n) {
        if (n < 0 || n > MOST_AHEAD) {
            return NONE;
        }
        dream.copy(now);
        river.pass(dream, rule, n);
        river.flow(dream, rule);
        told.start();
        told.add(river.length);
        told.add(dream.sum());
        return river.mouth;
    }

    public int sits() {
        dream.copy(now);
        for (int tide = 0; tide <= MOST_AHEAD; tide++) {
            river.pass(dream, rule, 1);
            if (river.mouth == LAKE) {
                told.start();
                told.add(river.seat);
                return tide;
            }
        }
        return BY_NONE;
    }

    public int alters(int n) {
        if (isNotAhead(n)) {
            return NONE;
        }
        dream.copy(now);
        river.pass(dream, rule, 1);
        river.rememberPath();
        for (int tide = 1; tide < n; tide++) {
            river.pass(dream, rule, 1);
            if (!river.isOnRememberedPath()) {
                told.start();
                told.add(river.mouth);
                return tide;
            }
        }
        return BY_NONE;
    }

    public int mouths(int n) {
        if (isNotAhead(n)) {
            return NONE;
        }
        told.start();
        for (int i = 0; i <= land.columns; i++) {
            told.add(0);
        }
        int columns = 0;
        dream.copy(now);
        for (int tide = 0; tide < n; tide++) {
            river.pass(dream, rule, 1);
            if (river.mouth == LAKE) {
                told.raise(land.columns);
            } else {
                told.raise(river.mouth);
                columns |= 1 << river.mouth;
            }
        }
        return columns;
    }

    public long dry(int n) {
        if (isNotAhead(n)) {
            return NONE;
        }
        long never = land.all;
        long always = land.all;
        dream.copy(now);
        for (int tide = 0; tide < n; tide++) {
            river.pass(dream, rule, 1);
            never &= ~river.on;
            always &= river.on;
        }
        told.start();
        told.add(Long.bitCount(never));
        told.add(Long.bitCount(always));
        return never;
    }

    private static boolean isNotAhead(int n) {
        return n < 1 || n > MOST_AHEAD;
    }

    // ---- walls that turn it

    public int sends(int column) {
        if (column < 0 || column >= land.columns) {
            return NONE;
        }
        return fewestWalls(column);
    }

    public int stops() {
        return fewestWalls(LAKE);
    }

    public int longest() {
        river.flow(now, rule);
        int without = river.length;
        int best = NONE;
        int most = 0;
        for (int i = 0; i < land.fields; i++) {
            if (i == now.source || bit(now.walls, i) == 1) {
                continue;
            }
            river.trace(now.walls | 1L << i);
            if (best == NONE || river.length > most) {
                best = i;
                most = river.length;
            }
        }
        if (best == NONE) {
            return BY_NONE;
        }
        told.start();
        told.add(most);
        told.add(without);
        return best;
    }

    public int least() {
        river.flow(now, rule);
        river.rememberPath();
        // Further off it does not look at a field.
        long looked = river.on | land.around(river.on);
        dream.copy(now);
        for (int n = 1; n <= MOST_HEIGHT; n++) {
            for (int i = 0; i < land.fields; i++) {
                if (bit(looked, i) == 1 && altersIfCut(i, n)) {
                    told.start();
                    told.add(i);
                    return n;
                }
            }
        }
        return BY_NONE;
    }

    private int fewestWalls(int wanted) {
        river.look(now, rule);
        for (int more = 0; more <= MOST_WALLS_MORE; more++) {
            long walls = turningWalls(river, more, 0, 0L, wanted);
            if (walls != NONE) {
                told.start();
                told.addSet(walls);
                return more;
            }
        }
        return BY_NONE;
    }

    // Fewer walls were tried in vain already, and a last one off the course would leave it as it is.
    private static long turningWalls(River river, int more, int from, long walls, int wanted) {
        river.trace(river.state.walls | walls);
        if (more <= 0) {
            return river.mouth == wanted ? walls : NONE;
        }
        long worthTrying = (more == 1 ? river.on : river.land.all) & ~river.state.walls;
        for (int i = from; i < river.land.fields; i++) {
            if (i == river.state.source || bit(worthTrying, i) == 0) {
                continue;
            }
            long found = turningWalls(river, more - 1, i + 1, walls | 1L << i, wanted);
            if (found != NONE) {
                return found;
            }
        }
        return NONE;
    }

    private boolean altersIfCut(int field, int n) {
        if (now.heights[field] < n) {
            return false;
        }
        dream.heights[field] = now.heights[field] - n;
        river.flow(dream, rule);
        dream.heights[field] = now.heights[field];
        return !river.isOnRememberedPath();
    }

    // ---- ships

    public int draught() {
        river.flow(now, rule);
        told.start();
        told.add(river.highest());
        return river.deepestShip();
    }

    public int timetable(int n) {
        int answer = n < 1 || n > MOST_TIMETABLE ? OUT_OF_ASKING : planShips(n);
        text.empty();
        return answer;
    }

    public int way(int v) {
        if (v < 1 || v > MOST_HEIGHT) {
            return NONE;
        }
        long water = 0;
        for (int i = 0; i < land.fields; i++) {
            if (now.heights[i] <= MOST_HEIGHT - v) {
                water |= 1L << i;
            }
        }
        return harbour.shortestWay(land, water & ~now.walls, now.source, told);
    }

    public int arms() {
        long dams = 0;
        int most = 0;
        for (int more = 0; more <= WAYS; more++) {
            dams = damsBelow(land, now, more, land.fields, 0L);
            most = more;
            if (dams != NONE) {
                break;
            }
        }
        told.start();
        told.add(dams);
        return most;
    }

    private int planShips(int n) {
        int wrong = text.wrongDigit('1', MOST_SHIPS);
        if (wrong != NONE) {
            return -1 - wrong;
        }
        harbour.welcome(text);
        dream.copy(now);
        for (int tide = 0; tide < n; tide++) {
            river.flow(dream, rule);
            harbour.addTide(river.deepestShip());
            river.settle();
        }
        return harbour.plan(told);
    }

    // As many ways keep apart as the fewest fields that dam them all (Menger), and the source has but
    // three neighbours. Sets go by their highest field, so that the first one found is the least.
    private static long damsBelow(Land land, State state, int more, int limit, long dams) {
        if (more <= 0) {
            return comesDown(land, state.source, state.walls | dams) ? NONE : dams;
        }
        for (int i = more - 1; i < limit; i++) {
            if (i == state.source) {
                continue;
            }
            long found = damsBelow(land, state, more - 1, i, dams | 1L << i);
            if (found != NONE) {
                return found;
            }
        }
        return NONE;
    }

    private static boolean comesDown(Land land, int source, long shut) {
        long flooded = 1L << source & ~shut;
        for (int i = 0; i < land.fields; i++) {
            long wider = flooded | land.around(flooded) & ~shut;
            if ((wider & land.lastRow) != 0) {
                return true;
            }
            if (wider == flooded) {
                return false;
            }
            flooded = wider;
        }
        return false;
    }

    // ---- which source it was

    public int seen(int n, int field, int is) {
        if (n < 0 || n > MOST_SEEN_AHEAD || !land.holds(field) || is < 0 || is > 1) {
            return NONE;
        }
        return sightings.note(n, field, is);
    }

    public int forget() {
        return sightings.wipe();
    }

    public int fits() {
        int columns = fittingColumns(sightings.latest());
        told.start();
        told.add(Integer.bitCount(columns));
        return columns;
    }

    public int reed(int n) {
        if (n < 0 || n > MOST_SEEN_AHEAD) {
            return NONE;
        }
        int columns = fittingColumns(Math.max(n, sightings.latest()));
        if (columns == 0) {
            return BY_NONE;
        }
        int best = NONE;
        int fewest = 0;
        for (int i = 0; i < land.fields; i++) {
            int left = leftAtMost(columns, n, i);
            if (best == NONE || left < fewest) {
                best = i;
                fewest = left;
            }
        }
        told.start();
        told.add(fewest);
        return best;
    }

    private int fittingColumns(int lastTide) {
        int columns = 0;
        for (int column = 0; column < land.columns; column++) {
            dream.copy(now);
            dream.source = column;
            for (int tide = 0; tide <= lastTide && tide <= MOST_SEEN_AHEAD; tide++) {
                river.pass(dream, rule, 1);
                followed[placeOf(column, tide)] = river.on;
            }
            if (isAsSeen(column)) {
                columns |= 1 << column;
            }
        }
        return columns;
    }

    private static int placeOf(int column, int tide) {
        return column * (MOST_SEEN_AHEAD + 1) + tide;
    }

    private boolean isAsSeen(int column) {
        for (int i = 0; i < sightings.size; i++) {
            long on = followed[placeOf(column, sightings.when[i])];
            if (bit(on, sightings.field[i]) != sightings.what[i]) {
                return false;
            }
        }
        return true;
    }

    private int leftAtMost(int columns, int tide, int field) {
        int with = 0;
        for (int column = 0; column < land.columns; column++) {
            if (bit(columns, column) == 1) {
                with += bit(followed[placeOf(column, tide)], field);
            }
        }
        return Math.max(with, Integer.bitCount(columns) - with);
    }

    // ---- laws of choosing

    public int marked(int field, int to) {
        if (!land.holds(field) || bit(land.lastRow, field) == 1 || to < BELOW || to > RIGHT) {
            return NONE;
        }
        return marks.note(0, field, to);
    }

    public int wiped() {
        return marks.wipe();
    }

    public int laws() {
        told.start();
        int fitting = 0;
        for (int a = 0; a <= LAST_LAW; a++) {
            for (int b = 0; b <= LAST_LAW; b++) {
                for (int c = 0; c <= LAST_LAW; c++) {
                    if (!isAsMarked(a, b, c)) {
                        continue;
                    }
                    fitting++;
                    if (fitting == 1) {
                        told.add(a);
                        told.add(b);
                        told.add(c);
                    }
                }
            }
        }
        return fitting;
    }

    private boolean isAsMarked(int a, int b, int c) {
        for (int i = 0; i < marks.size; i++) {
            if (wayByLaw(marks.field[i], a, b, c) != marks.what[i]) {
                return false;
            }
        }
        return true;
    }

    private int wayByLaw(int field, int a, int b, int c) {
        int best = NONE;
        int least = 0;
        for (int way = BELOW; way < WAYS; way++) {
            int to = land.neighbour(field, way);
            if (to == NONE || bit(now.walls, to) == 1) {
                continue;
            }
            int dislike = a * now.heights[to] + (way == BELOW ? 0 : b) - c * bit(now.bed, to);
            if (best == NONE || dislike < least) {
                best = way;
                least = dislike;
            }
        }
        return best;
    }

    // ---- harbours, tides by chance, another rule

    public int bar(int n, int a) {
        if (n < 0 || n > MOST_BAR || a < 1 || a > 9) {
            return NONE;
        }
        for (int left = 0; left <= n; left++) {
            int wins = 0;
            for (int cut = 1; cut <= a && cut <= left; cut++) {
                boolean otherCan = (winningCuts[left - cut] & ~(1 << cut)) != 0;
                wins |= otherCan ? 0 : 1 << cut;
            }
            winningCuts[left] = wins;
        }
        return winningCuts[n] == 0 ? 0 : Integer.numberOfTrailingZeros(winningCuts[n]);
    }

    public int open(int n, int k, int p) {
        if (n < 1 || n > MOST_OPEN || k < 1 || k > MOST_OPEN || p < 0 || p > 10) {
            return NONE;
        }
        Arrays.fill(openRuns, 0L);
        openRuns[0] = 1;
        long all = 1;
        long reached = 0;
        for (int tide = 0; tide < n; tide++) {
            long notYet = all - reached;
            all *= 10;
            reached = reached * 10 + openRuns[k - 1] * p;
            for (int run = k - 1; run > 0; run--) {
                openRuns[run] = openRuns[run - 1] * p;
            }
            openRuns[0] = notYet * (10 - p);
        }
        tellFraction(reached, all);
        return 0;
    }

    public int law() {
        int wrong = reader.read(text, otherRule);
        text.empty();
        if (wrong != NONE) {
            return LAW_IS_WRONG - wrong;
        }
        river.flow(now, rule);
        int byTheRule = river.length;
        river.flow(now, otherRule);
        told.start();
        told.add(river.length);
        told.add(byTheRule);
        return river.mouth;
    }

    private void tellFraction(long upper, long lower) {
        long divisor = commonDivisor(upper, lower);
        told.start();
        told.add(divisor == 0 ? upper : upper / divisor);
        told.add(divisor == 0 ? lower : lower / divisor);
    }

    // Euclid's rests fall by half every two rounds: a long is through in far fewer than 200.
    private static long commonDivisor(long one, long other) {
        long a = one;
        long b = other;
        for (int i = 0; i < 200 && b != 0; i++) {
            long rest = a % b;
            a = b;
            b = rest;
        }
        return a;
    }

    // ---- rests, years

    public int rests(int v) {
        if (v < 0 || v > MOST_WORTH) {
            return NONE;
        }
        told.start();
        int pairs = 0;
        for (int x = 0; x <= 9; x++) {
            for (int y = 0; y <= 9; y++) {
                if (!isContent(v, x, y) || !isContent(v, y, x)) {
                    continue;
                }
                pairs++;
                if (pairs == 1) {
                    told.add(x);
                    told.add(y);
                }
            }
        }
        return pairs;
    }

    public int years(int seed, int n) {
        if (n < 1 || n > MOST_PASSING) {
            return NONE;
        }
        dream.copy(now);
        int r = seed;
        int arrived = 0;
        for (int i = 0; i < n; i++) {
            r = drawn(r);
            int act = lot(r, 4);
            if (act < 2) {
                arrived += river.pass(dream, rule, 1);
                continue;
            }
            r = drawn(r);
            int field = lot(r, land.fields);
            if (act == 2) {
                r = drawn(r);
                cutOff(dream, field, lot(r, 3) + 1);
            } else {
                turnWall(dream, field);
            }
        }
        told.start();
        told.add(dream.sum());
        told.add(dream.lakes);
        return arrived;
    }

    private static boolean isContent(int v, int own, int other) {
        int has = gain(v, own, other);
        for (int instead = 0; instead <= 9; instead++) {
            if (gain(v, instead, other) > has) {
                return false;
            }
        }
        return true;
    }

    private static int gain(int v, int own, int other) {
        int pays = 2 * own / 3 + (own > other ? 1 : 0);
        return v * Math.min(9, own + other) / 9 - pays;
    }

    private static int drawn(int r) {
        return r * 1103515245 + 12345;
    }

    private static int lot(int r, int n) {
        return n < 1 ? 0 : (r >>> 16) % n;
    }

    // ---- kept

    public boolean keep(int i) {
        if (i < 0 || i >= MOST_KEPT) {
            return false;
        }
        kept[i].copy(now);
        keptNumbers |= 1 << i;
        return true;
    }

    public boolean again(int i) {
        if (i < 0 || i >= MOST_KEPT || bit(keptNumbers, i) == 0) {
            return false;
        }
        now.copy(kept[i]);
        past.forgetAll();
        return true;
    }

    public int count(int what) {
        switch (what) {
            case 0:
                return land.rows;
            case 1:
                return land.columns;
            case 2:
                return now.source;
            case 3:
                return now.tide;
            case 4:
                return now.lakes;
            case 5:
                return now.sum();
            case 6:
                return Long.bitCount(now.walls);
            case 7:
                return Long.bitCount(now.bed);
            case 8:
                return forces.at(now.tide);
            default:
                return countOfNotes(what);
        }
    }

    public long row(int i) throws NoSuchElementException {
        if (i < 0 || i >= told.size) {
            throw new NoSuchElementException();
        }
        return told.numbers[i];
    }

    private int countOfNotes(int what) {
        switch (what) {
            case 9:
                return sightings.size;
            case 10:
                return marks.size;
            case 11:
                return past.size;
            case 12:
                return told.size;
            case 13:
                return text.length;
            default:
                return OUT_OF_ASKING;
        }
    }

    private static int bit(long set, int i) {
        return (int) (set >>> i & 1L);
    }

    /** Signs that wait for the call that reads them. */
    private static final class Text {
        private final char[] signs = new char[MOST_TEXT];
        private int length;

        int append(int v) {
            if (length + 4 > MOST_TEXT) {
                return NONE;
            }
            for (int shift = 24; shift >= 0; shift -= 8) {
                signs[length] = (char) (v >>> shift & 255);
                length++;
            }
            return length;
        }

        boolean shorten(int n) {
            if (n < 0 || n > length) {
                return false;
            }
            length = n;
            return true;
        }

        void empty() {
            length = 0;
        }

        // No text of the document has the sign 0, so behind the end it stands for "too early".
        char at(int p) {
            return p < 0 || p >= length ? (char) 0 : signs[p];
        }

        int digit(int p) {
            char sign = at(p);
            return sign >= '0' && sign <= '9' ? sign - '0' : NONE;
        }

        int wrongDigit(char least, int most) {
            int looked = Math.max(1, Math.min(length, most));
            for (int p = 0; p < looked; p++) {
                if (at(p) < least || at(p) > '9') {
                    return p;
                }
            }
            return length > most ? most : NONE;
        }
    }

    /** The numbers of the ROW. */
    private static final class Told {
        private final long[] numbers = new long[MOST_FIELDS];
        private int size;

        void start() {
            size = 0;
        }

        void add(long number) {
            if (size < MOST_FIELDS) {
                numbers[size] = number;
                size++;
            }
        }

        void addSet(long set) {
            for (int i = 0; i < MOST_FIELDS; i++) {
                if (bit(set, i) == 1) {
                    add(i);
                }
            }
        }

        void raise(int i) {
            if (i >= 0 && i < size) {
                numbers[i]++;
            }
        }
    }

    /** How the fields lie beside one another; what lies on them is the state's. */
    private static final class Land {
        private int rows;
        private int columns;
        private int fields;
        private long all;
        private long lastRow;
        private long firstColumn;
        private long lastColumn;
        private final int[] rowOf = new int[MOST_FIELDS];
        private final int[] columnOf = new int[MOST_FIELDS];
        private final int[] neighbours = new int[MOST_FIELDS * WAYS];

        Land() {
            measure(2, 2);
        }

        void measure(int newRows, int newColumns) {
            rows = Math.max(2, Math.min(MOST_COLUMNS, newRows));
            columns = Math.max(2, Math.min(MOST_COLUMNS, newColumns));
            fields = rows * columns;
            all = (1L << fields) - 1;
            lastRow = all & ~((1L << fields - columns) - 1);
            firstColumn = 0;
            for (int i = 0; i < fields; i++) {
                rowOf[i] = i / columns;
                columnOf[i] = i % columns;
                firstColumn |= columnOf[i] == 0 ? 1L << i : 0;
                neighbours[i * WAYS + BELOW] = rowOf[i] < rows - 1 ? i + columns : NONE;
                neighbours[i * WAYS + LEFT] = columnOf[i] > 0 ? i - 1 : NONE;
                neighbours[i * WAYS + RIGHT] = columnOf[i] < columns - 1 ? i + 1 : NONE;
            }
            lastColumn = firstColumn << columns - 1;
        }

        boolean holds(int field) {
            return field >= 0 && field < fields;
        }

        int fieldAt(int row, int column) {
            if (row < 0 || row >= rows || column < 0 || column >= columns) {
                return NONE;
            }
            return row * columns + column;
        }

        int neighbour(int field, int way) {
            return holds(field) && way >= 0 && way < WAYS ? neighbours[field * WAYS + way] : NONE;
        }

        long around(long set) {
            long upAndDown = set << columns | set >>> columns;
            long leftAndRight = (set & ~firstColumn) >>> 1 | (set & ~lastColumn) << 1;
            return (upAndDown | leftAndRight) & all;
        }
    }

    /** What undo() brings back. */
    private static final class State {
        private final int[] heights = new int[MOST_FIELDS];
        private long walls;
        private long bed;
        private int source;
        private int tide;
        private int lakes;

        void copy(State from) {
            System.arraycopy(from.heights, 0, heights, 0, MOST_FIELDS);
            walls = from.walls;
            bed = from.bed;
            source = from.source;
            tide = from.tide;
            lakes = from.lakes;
        }

        void clear() {
            Arrays.fill(heights, 0);
            walls = 0;
            bed = 0;
            source = 0;
            tide = 0;
            lakes = 0;
        }

        int sum() {
            int sum = 0;
            for (int i = 0; i < MOST_FIELDS; i++) {
                sum += heights[i];
            }
            return sum;
        }
    }

    /** The states ahead of the latest acts, in a ring: the eldest one gives way. */
    private static final class Past {
        private final State[] states = new State[MOST_UNDONE];
        private int next;
        private int size;

        Past() {
            for (int i = 0; i < MOST_UNDONE; i++) {
                states[i] = new State();
            }
        }

        void push(State state) {
            states[next].copy(state);
            next = next + 1 < MOST_UNDONE ? next + 1 : 0;
            size = Math.min(MOST_UNDONE, size + 1);
        }

        boolean pop(State into) {
            if (size == 0) {
                return false;
            }
            next = next > 0 ? next - 1 : MOST_UNDONE - 1;
            into.copy(states[next]);
            size--;
            return true;
        }

        void forgetAll() {
            size = 0;
        }
    }

    /** The forces of the tides, which come round again. */
    private static final class Forces {
        private final int[] digits = new int[MOST_FORCES];
        private int size = 1;

        void take(Text text) {
            size = Math.max(1, Math.min(MOST_FORCES, text.length));
            for (int i = 0; i < size; i++) {
                digits[i] = Math.max(0, text.digit(i));
            }
        }

        int at(int tide) {
            return tide < 0 || size < 1 ? 0 : digits[tide % size];
        }
    }

    /** What was seen, or marked: at most ten of either. */
    private static final class Noted {
        private final int[] when = new int[MOST_NOTED];
        private final int[] field = new int[MOST_NOTED];
        private final int[] what = new int[MOST_NOTED];
        private int size;

        int note(int newWhen, int newField, int newWhat) {
            if (size >= MOST_NOTED) {
                return NONE;
            }
            when[size] = newWhen;
            field[size] = newField;
            what[size] = newWhat;
            size++;
            return size;
        }

        int latest() {
            int latest = NONE;
            for (int i = 0; i < size; i++) {
                latest = Math.max(latest, when[i]);
            }
            return latest;
        }

        int wipe() {
            int were = size;
            size = 0;
            return were;
        }
    }

    /** A rule as steps: numbers and things are laid on a pile, what joins them takes them off it. */
    private static final class Rule {
        private static final String THINGS = "hswftrc";
        private static final int FIRST_THING = 1000;
        private static final int NEGATE = -1;
        private static final int TIMES = -2;
        private static final int BY = -3;
        private static final int PLUS = -4;
        private static final int MINUS = -5;
        private static final int LESS = -6;
        private static final int MORE = -7;
        private static final int SAME = -8;
        // h+s*2-w
        private static final int[] IF_NONE = {1000, 1001, 2, TIMES, PLUS, 1002, MINUS};

        private final int[] steps = new int[MOST_RULE];
        private final int[] pile = new int[MOST_RULE];
        private int size;

        Rule() {
            take(IF_NONE, IF_NONE.length);
        }

        void take(int[] newSteps, int newSize) {
            size = Math.max(0, Math.min(MOST_RULE, Math.min(newSize, newSteps.length)));
            System.arraycopy(newSteps, 0, steps, 0, size);
        }

        int reckon(int[] things) {
            int top = -1;
            for (int i = 0; i < size; i++) {
                int step = steps[i];
                if (step >= 0) {
                    top = top < MOST_RULE - 1 ? top + 1 : top;
                    int thing = step - FIRST_THING;
                    pile[top] = thing >= 0 && thing < things.length ? things[thing] : step;
                    continue;
                }
                if (step == NEGATE && top >= 0) {
                    pile[top] = -pile[top];
                }
                if (step == NEGATE || top < 1) {
                    continue;
                }
                int a = pile[top - 1];
                int b = pile[top];
                top--;
                switch (step) {
                    case TIMES:
                        pile[top] = a * b;
                        break;
                    case BY:
                        pile[top] = b == 0 ? 0 : a / b;
                        break;
                    case PLUS:
                        pile[top] = a + b;
                        break;
                    case MINUS:
                        pile[top] = a - b;
                        break;
                    case LESS:
                        pile[top] = a < b ? 1 : 0;
                        break;
                    case MORE:
                        pile[top] = a > b ? 1 : 0;
                        break;
                    default:
                        pile[top] = a == b ? 1 : 0;
                        break;
                }
            }
            return pile[0];
        }
    }

    /** Reads a rule sign by sign, so that the first sign that can't stand where it stands is known. */
    private static final class RuleReader {
        private static final int BRACKET = 0;
        private static final int NO_JOIN = 1;

        private final int[] steps = new int[MOST_RULE];
        private final int[] waiting = new int[MOST_RULE];
        private int size;
        private int waits;
        private int nested;
        private int digits;
        private boolean wantsThing;

        /** The place of the sign that can't stand there; NONE: the rule is taken. */
        int read(Text text, Rule into) {
            if (text.length == 0) {
                into.take(Rule.IF_NONE, Rule.IF_NONE.length);
                return NONE;
            }
            begin();
            int looked = Math.min(text.length, MOST_RULE);
            for (int p = 0; p < looked; p++) {
                if (!takes(text.at(p))) {
                    return p;
                }
            }
            if (text.length > MOST_RULE || wantsThing || nested > 0) {
                return looked;
            }
            release(0);
            into.take(steps, size);
            return NONE;
        }

        private void begin() {
            size = 0;
            waits = 0;
            nested = 0;
            digits = 0;
            wantsThing = true;
        }

        private boolean takes(char sign) {
            if (sign >= '0' && sign <= '9') {
                return takesDigit(sign - '0');
            }
            digits = 0;
            return wantsThing ? takesThing(sign) : takesJoin(sign);
        }

        private boolean takesDigit(int digit) {
            if (wantsThing) {
                put(digit);
                digits = 1;
                wantsThing = false;
                return true;
            }
            if (digits == 0 || digits >= MOST_DIGITS || size < 1) {
                return false;
            }
            steps[size - 1] = steps[size - 1] * 10 + digit;
            digits++;
            return true;
        }

        private boolean takesThing(char sign) {
            if (sign == '-') {
                await(Rule.NEGATE);
                return true;
            }
            if (sign == '(') {
                if (nested >= MOST_NESTED) {
                    return false;
                }
                nested++;
                await(BRACKET);
                return true;
            }
            int thing = Rule.THINGS.indexOf(sign);
            if (thing < 0) {
                return false;
            }
            put(Rule.FIRST_THING + thing);
            wantsThing = false;
            return true;
        }

        private boolean takesJoin(char sign) {
            if (sign == ')') {
                if (nested < 1) {
                    return false;
                }
                nested--;
                release(1);
                waits = Math.max(0, waits - 1);
                return true;
            }
            int join = joinOf(sign);
            if (join == NO_JOIN) {
                return false;
            }
            release(Math.max(2, bindingOf(join)));
            if (bindingOf(join) == 1 && waits > 0 && bindingOf(waiting[waits - 1]) == 1) {
                return false;
            }
            await(join);
            wantsThing = true;
            return true;
        }

        private void put(int step) {
            if (size < MOST_RULE) {
                steps[size] = step;
                size++;
            }
        }

        private void await(int join) {
            if (waits < MOST_RULE) {
                waiting[waits] = join;
                waits++;
            }
        }

        private void release(int binding) {
            for (int i = waits - 1; i >= 0 && bindingOf(waiting[i]) >= binding; i--) {
                put(waiting[i]);
                waits = i;
            }
        }

        private static int joinOf(char sign) {
            switch (sign) {
                case '*':
                    return Rule.TIMES;
                case '/':
                    return Rule.BY;
                case '+':
                    return Rule.PLUS;
                case '-':
                    return Rule.MINUS;
                case '<':
                    return Rule.LESS;
                case '>':
                    return Rule.MORE;
                case '=':
                    return Rule.SAME;
                default:
                    return NO_JOIN;
            }
        }

        private static int bindingOf(int join) {
            switch (join) {
                case BRACKET:
                    return 0;
                case Rule.NEGATE:
                    return 4;
                case Rule.TIMES:
                case Rule.BY:
                    return 3;
                case Rule.PLUS:
                case Rule.MINUS:
                    return 2;
                default:
                    return 1;
            }
        }
    }

    /** Finds the course in a state, and lets a tide go by there. */
    private static final class River {
        private static final int KINDS_OF_THINGS = 7;

        private final Land land;
        private final Forces forces;
        private State state;
        private Rule rule;
        private final int[] things = new int[KINDS_OF_THINGS];
        // Walls that are tried leave dislikes as they are: each is reckoned once for many courses.
        private final int[] dislikes = new int[MOST_FIELDS * 2];
        private final long[] known = new long[2];
        private int force;
        private final int[] path = new int[MOST_FIELDS];
        private int length;
        private long on;
        private int mouth;
        private int seat;
        private final int[] rememberedPath = new int[MOST_FIELDS];
        private int rememberedLength;

        River(Land land, Forces forces, State state, Rule rule) {
            this.land = land;
            this.forces = forces;
            this.state = state;
            this.rule = rule;
        }

        void look(State newState, Rule newRule) {
            state = newState;
            rule = newRule;
            force = forces.at(newState.tide);
            known[0] = 0;
            known[1] = 0;
        }

        void flow(State newState, Rule newRule) {
            look(newState, newRule);
            trace(newState.walls);
        }

        /** So many tides go by: in how many it came to the sea. */
        int pass(State newState, Rule newRule, int n) {
            int arrived = 0;
            for (int i = 0; i < n; i++) {
                look(newState, newRule);
                trace(newState.walls);
                settle();
                arrived += mouth == LAKE ? 0 : 1;
            }
            return arrived;
        }

        void trace(long walls) {
            length = 0;
            on = 0;
            mouth = LAKE;
            seat = NONE;
            int at = bit(walls, state.source) == 1 ? NONE : state.source;
            for (int i = 0; i < land.fields && at != NONE; i++) {
                path[i] = at;
                length = i + 1;
                on |= 1L << at;
                if (bit(land.lastRow, at) == 1) {
                    mouth = land.columnOf[at];
                    return;
                }
                int next = liked(at, walls | on);
                seat = next == NONE ? at : NONE;
                at = next;
            }
        }

        private int liked(int at, long shut) {
            int best = NONE;
            int least = 0;
            for (int way = BELOW; way < WAYS; way++) {
                int to = land.neighbour(at, way);
                if (to == NONE || bit(shut, to) == 1) {
                    continue;
                }
                int dislike = dislike(to, way == BELOW ? 0 : 1);
                if (best == NONE || dislike < least) {
                    best = to;
                    least = dislike;
                }
            }
            return best;
        }

        int dislike(int field, int beside) {
            int place = field * 2 + beside;
            if (bit(known[beside], field) == 0) {
                things[0] = state.heights[field];
                things[1] = beside;
                things[2] = bit(state.bed, field);
                things[3] = force;
                things[4] = state.tide % 7;
                things[5] = land.rowOf[field];
                things[6] = land.columnOf[field];
                dislikes[place] = rule.reckon(things);
                known[beside] |= 1L << field;
            }
            return dislikes[place];
        }

        /** The course that was found goes by; it must be the state's own, without walls that are tried. */
        void settle() {
            long silted = land.around(on) & ~on & ~state.walls;
            for (int i = 0; i < land.fields; i++) {
                if (bit(on, i) == 1) {
                    state.heights[i] = Math.max(0, state.heights[i] - 1);
                } else if (bit(silted, i) == 1) {
                    state.heights[i] = Math.min(MOST_HEIGHT, state.heights[i] + 1);
                }
            }
            if (seat != NONE) {
                state.heights[seat] = Math.min(MOST_HEIGHT, state.heights[seat] + 3);
            }
            if (mouth == LAKE) {
                state.lakes = Math.min(MOST_LAKES, state.lakes + 1);
            }
            state.bed = on;
            state.tide++;
        }

        void rememberPath() {
            System.arraycopy(path, 0, rememberedPath, 0, MOST_FIELDS);
            rememberedLength = length;
        }

        boolean isOnRememberedPath() {
            if (length != rememberedLength) {
                return false;
            }
            for (int i = 0; i < length; i++) {
                if (path[i] != rememberedPath[i]) {
                    return false;
                }
            }
            return true;
        }

        int highest() {
            int highest = NONE;
            for (int i = 0; i < length; i++) {
                if (highest == NONE || state.heights[path[i]] > state.heights[highest]) {
                    highest = path[i];
                }
            }
            return highest;
        }

        int deepestShip() {
            int highest = highest();
            return mouth == LAKE || highest == NONE ? 0 : MOST_HEIGHT - state.heights[highest];
        }
    }

    /** Which ship comes in by which tide, and by which way. */
    private static final class Harbour {
        private final int[] draughts = new int[MOST_SHIPS];
        private final int[] depths = new int[MOST_TIMETABLE];
        private final long[] floods = new long[MOST_FIELDS];
        private int ships;
        private int tides;

        void welcome(Text text) {
            ships = Math.min(MOST_SHIPS, text.length);
            tides = 0;
            for (int i = 0; i < ships; i++) {
                draughts[i] = text.digit(i);
            }
        }

        void addTide(int depth) {
            if (tides < MOST_TIMETABLE) {
                depths[tides] = depth;
                tides++;
            }
        }

        /** Tells the least row of tides by which the most ships come in: how many. */
        int plan(Told told) {
            int most = mostShips(0, 0);
            int left = most;
            int taken = 0;
            told.start();
            for (int ship = 0; ship < ships; ship++) {
                int tide = leastTide(ship, taken, left);
                told.add(tide);
                if (tide != NONE) {
                    taken |= 1 << tide;
                    left--;
                }
            }
            return most;
        }

        private int leastTide(int ship, int taken, int left) {
            if (mostShips(ship + 1, taken) == left) {
                return NONE;
            }
            for (int tide = 0; tide < tides; tide++) {
                boolean couldCome = bit(taken, tide) == 0 && depths[tide] >= draughts[ship];
                if (couldCome && mostShips(ship + 1, taken | 1 << tide) == left - 1) {
                    return tide;
                }
            }
            return NONE;
        }

        // A tide that is deep enough for a ship is so for each lesser one: who takes which is the same,
        // if the deepest ships come first.
        private int mostShips(int fromShip, int taken) {
            int most = 0;
            int free = 0;
            for (int draught = MOST_HEIGHT; draught >= 1; draught--) {
                for (int tide = 0; tide < tides; tide++) {
                    free += depths[tide] == draught ? 1 - bit(taken, tide) : 0;
                }
                for (int ship = fromShip; ship < ships; ship++) {
                    if (draughts[ship] == draught && free > 0) {
                        free--;
                        most++;
                    }
                }
            }
            return most;
        }

        // The water is flooded from the sea, a field further each round, till the flood is at the source.
        int shortestWay(Land land, long water, int source, Told told) {
            long flooded = land.lastRow & water;
            for (int i = 0; i < MOST_FIELDS; i++) {
                floods[i] = flooded;
                if (bit(flooded, source) == 1) {
                    tellWay(land, source, i, told);
                    return i + 1;
                }
                flooded |= land.around(flooded) & water;
            }
            return BY_NONE;
        }

        private void tellWay(Land land, int source, int rounds, Told told) {
            told.start();
            told.add(source);
            int at = source;
            for (int i = Math.min(rounds, MOST_FIELDS) - 1; i >= 0; i--) {
                at = Long.numberOfTrailingZeros(land.around(1L << at) & floods[i]);
                told.add(at);
            }
        }
    }
}
