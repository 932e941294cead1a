import java.math.BigInteger;
import java.util.ArrayDeque;
import java.util.ArrayList;
import java.util.Arrays;
import java.util.Collections;
import java.util.HashMap;
import java.util.List;
import java.util.Map;
import java.util.NoSuchElementException;
import java.util.function.IntPredicate;

/**
 * The document written a second time, as plainly as it goes and by other ways than the class itself:
 * rules are read anew each time they are asked, sets are tried one by one, chances are counted out.
 */
final class Model {
    static final int NONE = -1;

    /** What undo() brings back. */
    static final class World {
        int rows = 2;
        int columns = 2;
        int[][] height = new int[2][2];
        boolean[][] wall = new boolean[2][2];
        boolean[][] bed = new boolean[2][2];
        int source;
        int tide;
        int lakes;

        World copy() {
            World w = new World();
            w.rows = rows;
            w.columns = columns;
            w.height = new int[rows][];
            w.wall = new boolean[rows][];
            w.bed = new boolean[rows][];
            for (int r = 0; r < rows; r++) {
                w.height[r] = height[r].clone();
                w.wall[r] = wall[r].clone();
                w.bed[r] = bed[r].clone();
            }
            w.source = source;
            w.tide = tide;
            w.lakes = lakes;
            return w;
        }

        int fields() {
            return rows * columns;
        }

        int all() {
            int sum = 0;
            for (int[] row : height) {
                for (int h : row) {
                    sum += h;
                }
            }
            return sum;
        }

        int walls() {
            int n = 0;
            for (boolean[] row : wall) {
                for (boolean b : row) {
                    n += b ? 1 : 0;
                }
            }
            return n;
        }

        int bedFields() {
            int n = 0;
            for (boolean[] row : bed) {
                for (boolean b : row) {
                    n += b ? 1 : 0;
                }
            }
            return n;
        }

        boolean has(int r, int c) {
            return r >= 0 && r < rows && c >= 0 && c < columns;
        }
    }

    /** Where it goes: fields in turn, and the column of the sea or -2. */
    record Course(List<Integer> fields, int mouth) {
        boolean lake() {
            return mouth == -2;
        }
    }

    /** A sign that can't stand where it stands. */
    static final class Wrong extends RuntimeException {
        final int place;

        Wrong(int place) {
            super(null, null, false, false);
            this.place = place;
        }
    }

    /** Reads and reckons an expression at once, by descent. */
    static final class Reader {
        final String text;
        final Map<Character, Integer> things;
        int p;

        Reader(String text, Map<Character, Integer> things) {
            this.text = text;
            this.things = things;
        }

        char next() {
            return p < text.length() ? text.charAt(p) : '\0';
        }

        int whole() {
            int value = comparison(0);
            if (p < text.length()) {
                throw new Wrong(p);
            }
            return value;
        }

        int comparison(int depth) {
            int left = sum(depth);
            char sign = next();
            if (sign == '<' || sign == '>' || sign == '=') {
                p++;
                int right = sum(depth);
                boolean holds = sign == '<' ? left < right : sign == '>' ? left > right : left == right;
                return holds ? 1 : 0;
            }
            return left;
        }

        int sum(int depth) {
            int value = product(depth);
            while (next() == '+' || next() == '-') {
                char sign = next();
                p++;
                int right = product(depth);
                value = sign == '+' ? value + right : value - right;
            }
            return value;
        }

        int product(int depth) {
            int value = factor(depth);
            while (next() == '*' || next() == '/') {
                char sign = next();
                p++;
                int right = factor(depth);
                if (sign == '*') {
                    value = value * right;
                } else {
                    value = right == 0 ? 0 : (int) ((long) value / right);
                }
            }
            return value;
        }

        int factor(int depth) {
            char sign = next();
            if (sign == '-') {
                p++;
                return -factor(depth);
            }
            if (sign == '(') {
                if (depth == 4) {
                    throw new Wrong(p);
                }
                p++;
                int value = comparison(depth + 1);
                if (next() != ')') {
                    throw new Wrong(p);
                }
                p++;
                return value;
            }
            if (Character.digit(sign, 10) >= 0 && sign < 128) {
                int begin = p;
                while (p - begin < 3 && next() >= '0' && next() <= '9') {
                    p++;
                }
                return Integer.parseInt(text.substring(begin, p));
            }
            if (things.containsKey(sign)) {
                p++;
                return things.get(sign);
            }
            throw new Wrong(p);
        }
    }

    World now = new World();
    StringBuilder text = new StringBuilder();
    String tides = "0";
    String rule = "";
    List<Long> row = new ArrayList<>();
    List<World> past = new ArrayList<>();
    World[] kept = new World[3];
    List<int[]> seen = new ArrayList<>();
    List<int[]> marks = new ArrayList<>();

    // ---- land, tides

    int sign(int v) {
        if (text.length() > 76) {
            return NONE;
        }
        text.append((char) (v >> 24 & 255)).append((char) (v >> 16 & 255));
        text.append((char) (v >> 8 & 255)).append((char) (v & 255));
        return text.length();
    }

    boolean end(int n) {
        if (n < 0 || n > text.length()) {
            return false;
        }
        text.setLength(n);
        return true;
    }

    private String takeText() {
        String taken = text.toString();
        text.setLength(0);
        return taken;
    }

    int land() {
        String t = takeText();
        for (int p = 0; p <= t.length(); p++) {
            int fields = p < 2 ? 99 : (t.charAt(0) - '0') * (t.charAt(1) - '0');
            if (p == t.length()) {
                if (p < 2 || p < fields + 2) {
                    return -1 - p;
                }
                break;
            }
            String may = p < 2 ? "23456" : p < fields + 2 ? "0123456789" : "";
            if (may.indexOf(t.charAt(p)) < 0) {
                return -1 - p;
            }
        }
        World w = new World();
        w.rows = t.charAt(0) - '0';
        w.columns = t.charAt(1) - '0';
        w.height = new int[w.rows][w.columns];
        w.wall = new boolean[w.rows][w.columns];
        w.bed = new boolean[w.rows][w.columns];
        for (int i = 0; i < w.fields(); i++) {
            w.height[i / w.columns][i % w.columns] = t.charAt(2 + i) - '0';
        }
        now = w;
        past.clear();
        kept = new World[3];
        seen.clear();
        marks.clear();
        return w.fields();
    }

    int force() {
        String t = takeText();
        for (int p = 0; p < t.length(); p++) {
            if (p == 20 || "0123456789".indexOf(t.charAt(p)) < 0) {
                return -1 - p;
            }
        }
        if (t.isEmpty()) {
            return -1;
        }
        tides = t;
        return t.length();
    }

    /** The place of the sign that can't stand there, or NONE. */
    static int wrongOfRule(String t) {
        if (t.isEmpty()) {
            return NONE;
        }
        String looked = t.length() > 40 ? t.substring(0, 40) : t;
        Map<Character, Integer> things = new HashMap<>();
        for (char c : "hswftrc".toCharArray()) {
            things.put(c, 1);
        }
        try {
            new Reader(looked, things).whole();
        } catch (Wrong w) {
            return w.place;
        }
        return t.length() > 40 ? 40 : NONE;
    }

    int rule() {
        String t = takeText();
        int wrong = wrongOfRule(t);
        if (wrong != NONE) {
            return -1 - wrong;
        }
        rule = t;
        return 0;
    }

    int forceOf(World w) {
        return tides.charAt(w.tide % tides.length()) - '0';
    }

    int dislike(World w, String byRule, int r, int c, int beside) {
        Map<Character, Integer> things = new HashMap<>();
        things.put('h', w.height[r][c]);
        things.put('s', beside);
        things.put('w', w.bed[r][c] ? 1 : 0);
        things.put('f', forceOf(w));
        things.put('t', w.tide % 7);
        things.put('r', r);
        things.put('c', c);
        return new Reader(byRule.isEmpty() ? "h+s*2-w" : byRule, things).whole();
    }

    int field(int field, int what) {
        if (field < 0 || field >= now.fields()) {
            throw new NoSuchElementException();
        }
        int r = field / now.columns;
        int c = field % now.columns;
        switch (what) {
            case 0: return now.height[r][c];
            case 1: return now.wall[r][c] ? 1 : 0;
            case 2: return now.bed[r][c] ? 1 : 0;
            case 3: return flow(now, rule).fields.contains(field) ? 1 : 0;
            default: throw new NoSuchElementException();
        }
    }

    int dislikes(int field, int way) {
        if (field < 0 || field >= now.fields() || way != 0 && way != 1) {
            throw new NoSuchElementException();
        }
        return dislike(now, rule, field / now.columns, field % now.columns, way);
    }

    int sheet(int kind, int n, int f, int step) {
        if (kind < 0 || kind > 3 || n > 36) {
            return NONE;
        }
        if (kind < 3 && n < 0) {
            return -2;
        }
        for (int i = 0; i < now.fields(); i++) {
            int told = f + i * step;
            if (kind == 0) {
                told = told << 24 >> 24;
            } else if (kind == 1) {
                told = told << 16 >> 16;
            } else if (kind == 3) {
                told = 0;
            }
            int h = i >= n ? 0 : told < 0 ? 0 : told > 9 ? 9 : told;
            now.height[i / now.columns][i % now.columns] = h;
        }
        return kind == 3 ? -3 : now.all();
    }

    // ---- the river itself

    Course flow(World w, String byRule) {
        List<Integer> fields = new ArrayList<>();
        int r = 0;
        int c = w.source;
        if (w.wall[0][c]) {
            return new Course(fields, -2);
        }
        while (true) {
            fields.add(r * w.columns + c);
            if (r == w.rows - 1) {
                return new Course(fields, c);
            }
            int[][] to = {{r + 1, c, 0}, {r, c - 1, 1}, {r, c + 1, 1}};
            int[] best = null;
            long least = Long.MAX_VALUE;
            for (int[] t : to) {
                if (w.has(t[0], t[1]) && !w.wall[t[0]][t[1]]
                        && !fields.contains(t[0] * w.columns + t[1])) {
                    int d = dislike(w, byRule, t[0], t[1], t[2]);
                    if (d < least) {
                        least = d;
                        best = t;
                    }
                }
            }
            if (best == null) {
                return new Course(fields, -2);
            }
            r = best[0];
            c = best[1];
        }
    }

    Course pass(World w) {
        Course course = flow(w, rule);
        int[][] then = new int[w.rows][w.columns];
        for (int r = 0; r < w.rows; r++) {
            for (int c = 0; c < w.columns; c++) {
                boolean on = course.fields.contains(r * w.columns + c);
                boolean beside = false;
                int[][] around = {{r - 1, c}, {r + 1, c}, {r, c - 1}, {r, c + 1}};
                for (int[] a : around) {
                    beside |= w.has(a[0], a[1]) && course.fields.contains(a[0] * w.columns + a[1]);
                }
                int h = w.height[r][c];
                if (on) {
                    h = h == 0 ? 0 : h - 1;
                } else if (beside && !w.wall[r][c]) {
                    h = h == 9 ? 9 : h + 1;
                }
                then[r][c] = h;
                w.bed[r][c] = on;
            }
        }
        if (course.lake()) {
            w.lakes = w.lakes == 9999 ? 9999 : w.lakes + 1;
            if (!course.fields.isEmpty()) {
                int last = course.fields.get(course.fields.size() - 1);
                int h = then[last / w.columns][last % w.columns] + 3;
                then[last / w.columns][last % w.columns] = h > 9 ? 9 : h;
            }
        }
        w.height = then;
        w.tide++;
        return course;
    }

    private void tell(long... numbers) {
        row = new ArrayList<>();
        for (long n : numbers) {
            row.add(n);
        }
    }

    private void tellAll(List<Integer> numbers) {
        row = new ArrayList<>();
        for (int n : numbers) {
            row.add((long) n);
        }
    }

    // ---- tides go by

    private void done(World ahead) {
        past.add(ahead);
        if (past.size() > 15) {
            past.remove(0);
        }
    }

    private int tried(World ahead, int answer) {
        if (answer >= 0) {
            done(ahead);
        }
        return answer;
    }

    int tides(int n) {
        if (n < 0 || n > 60) {
            return NONE;
        }
        done(now.copy());
        int sea = 0;
        for (int i = 0; i < n; i++) {
            sea += pass(now).lake() ? 0 : 1;
        }
        tell(now.all(), now.bedFields());
        return sea;
    }

    int cut(int field, int n) {
        return tried(now.copy(), cutIt(now, field, n));
    }

    int heap(int field, int n) {
        return tried(now.copy(), heapIt(now, field, n));
    }

    int wall(int field) {
        return tried(now.copy(), wallIt(now, field));
    }

    int source(int column) {
        return tried(now.copy(), sourceIt(now, column));
    }

    private static int cutIt(World w, int field, int n) {
        if (field < 0 || field >= w.fields() || n < 1 || n > 9) {
            return NONE;
        }
        int r = field / w.columns;
        int c = field % w.columns;
        return w.height[r][c] < n ? -2 : (w.height[r][c] -= n);
    }

    private static int heapIt(World w, int field, int n) {
        if (field < 0 || field >= w.fields() || n < 1 || n > 9) {
            return NONE;
        }
        int r = field / w.columns;
        int c = field % w.columns;
        return w.height[r][c] + n > 9 ? -3 : (w.height[r][c] += n);
    }

    private static int wallIt(World w, int field) {
        if (field < 0 || field >= w.fields()) {
            return NONE;
        }
        int r = field / w.columns;
        int c = field % w.columns;
        if (!w.wall[r][c] && w.walls() == 8) {
            return -2;
        }
        w.wall[r][c] = !w.wall[r][c];
        return w.walls();
    }

    private static int sourceIt(World w, int column) {
        if (column < 0 || column >= w.columns) {
            return NONE;
        }
        if (column == w.source) {
            return -2;
        }
        int was = w.source;
        w.source = column;
        return was;
    }

    /** Whether some year begins with these signs. */
    private static boolean beginsYear(String t) {
        String whole = "((n[0-9])|([ch][0-9][0-9][1-9])|(w[0-9][0-9])|(s[0-9]))*";
        for (String rest : new String[] {"", "1", "11", "111"}) {
            if ((t + rest).matches(whole)) {
                return true;
            }
        }
        return false;
    }

    int year() {
        String t = takeText();
        String looked = t.length() > 60 ? t.substring(0, 60) : t;
        for (int p = 0; p < looked.length(); p++) {
            if (!beginsYear(looked.substring(0, p + 1))) {
                return -1 - p;
            }
        }
        if (t.length() > 60) {
            return -61;
        }
        List<String> acts = new ArrayList<>();
        String rest = t;
        while (!rest.isEmpty()) {
            int size = rest.charAt(0) == 'n' || rest.charAt(0) == 's' ? 2 : rest.charAt(0) == 'w' ? 3 : 4;
            if (rest.length() < size) {
                return -1 - t.length();
            }
            acts.add(rest.substring(0, size));
            rest = rest.substring(size);
        }
        World ahead = now.copy();
        int did = 0;
        boolean refused = false;
        for (String act : acts) {
            if (actOfYear(act) < 0) {
                refused = true;
                break;
            }
            did++;
        }
        if (did > 0) {
            done(ahead);
        }
        tell(refused ? 1 : 0, now.tide);
        return did;
    }

    private int actOfYear(String act) {
        int[] d = new int[act.length()];
        for (int i = 1; i < act.length(); i++) {
            d[i] = act.charAt(i) - '0';
        }
        if (act.charAt(0) == 'n') {
            for (int i = 0; i < d[1]; i++) {
                pass(now);
            }
            return 0;
        }
        if (act.charAt(0) == 's') {
            return sourceIt(now, d[1]);
        }
        if (!now.has(d[1], d[2])) {
            return NONE;
        }
        int field = d[1] * now.columns + d[2];
        switch (act.charAt(0)) {
            case 'c': return cutIt(now, field, d[3]);
            case 'h': return heapIt(now, field, d[3]);
            default: return wallIt(now, field);
        }
    }

    int undo() {
        if (past.isEmpty()) {
            return NONE;
        }
        now = past.remove(past.size() - 1);
        return past.size();
    }

    // ---- where it goes

    int course() {
        Course course = flow(now, rule);
        tellAll(course.fields);
        return course.mouth;
    }

    int ahead(int n) {
        if (n < 0 || n > 99) {
            return NONE;
        }
        World w = now.copy();
        for (int i = 0; i < n; i++) {
            pass(w);
        }
        Course course = flow(w, rule);
        tell(course.fields.size(), w.all());
        return course.mouth;
    }

    private List<Course> next(World from, int n) {
        World w = from.copy();
        List<Course> courses = new ArrayList<>();
        for (int i = 0; i < n; i++) {
            courses.add(pass(w));
        }
        return courses;
    }

    int sits() {
        List<Course> courses = next(now, 100);
        for (int i = 0; i < 100; i++) {
            Course course = courses.get(i);
            if (course.lake()) {
                tell(course.fields.isEmpty() ? NONE : course.fields.get(course.fields.size() - 1));
                return i;
            }
        }
        return -2;
    }

    int alters(int n) {
        if (n < 1 || n > 99) {
            return NONE;
        }
        List<Course> courses = next(now, n);
        for (int i = 0; i < n; i++) {
            if (!courses.get(i).fields.equals(courses.get(0).fields)) {
                tell(courses.get(i).mouth);
                return i;
            }
        }
        return -2;
    }

    int mouths(int n) {
        if (n < 1 || n > 99) {
            return NONE;
        }
        long[] often = new long[now.columns + 1];
        int bits = 0;
        for (Course course : next(now, n)) {
            often[course.lake() ? now.columns : course.mouth]++;
            bits |= course.lake() ? 0 : 1 << course.mouth;
        }
        tell(often);
        return bits;
    }

    long dry(int n) {
        if (n < 1 || n > 99) {
            return NONE;
        }
        long never = 0;
        int hows = 0;
        int always = 0;
        List<Course> courses = next(now, n);
        for (int f = 0; f < now.fields(); f++) {
            int times = 0;
            for (Course course : courses) {
                times += course.fields.contains(f) ? 1 : 0;
            }
            if (times == 0) {
                never |= 1L << f;
                hows++;
            }
            always += times == n ? 1 : 0;
        }
        tell(hows, always);
        return never;
    }

    // ---- walls that turn it

    /** All rising rows of so many of these, the least first. */
    private static List<List<Integer>> rising(List<Integer> of, int size) {
        List<List<Integer>> rows = new ArrayList<>();
        if (size == 0) {
            rows.add(new ArrayList<>());
            return rows;
        }
        for (int i = 0; i < of.size(); i++) {
            for (List<Integer> rest : rising(of.subList(i + 1, of.size()), size - 1)) {
                List<Integer> one = new ArrayList<>();
                one.add(of.get(i));
                one.addAll(rest);
                rows.add(one);
            }
        }
        return rows;
    }

    private World walled(List<Integer> fields) {
        World w = now.copy();
        for (int f : fields) {
            w.wall[f / w.columns][f % w.columns] = true;
        }
        return w;
    }

    private List<Integer> wallable() {
        List<Integer> fields = new ArrayList<>();
        for (int f = 0; f < now.fields(); f++) {
            if (!now.wall[f / now.columns][f % now.columns] && f != now.source) {
                fields.add(f);
            }
        }
        return fields;
    }

    private int fewest(IntPredicate mouth) {
        for (int size = 0; size <= 3; size++) {
            for (List<Integer> walls : rising(wallable(), size)) {
                if (mouth.test(flow(walled(walls), rule).mouth)) {
                    tellAll(walls);
                    return size;
                }
            }
        }
        return -2;
    }

    int sends(int column) {
        return column < 0 || column >= now.columns ? NONE : fewest(m -> m == column);
    }

    int stops() {
        return fewest(m -> m == -2);
    }

    int longest() {
        int best = -2;
        int most = -1;
        for (int f : wallable()) {
            int size = flow(walled(List.of(f)), rule).fields.size();
            if (size > most) {
                most = size;
                best = f;
            }
        }
        if (best >= 0) {
            tell(most, flow(now, rule).fields.size());
        }
        return best;
    }

    int least() {
        List<Integer> is = flow(now, rule).fields;
        int best = 99;
        int field = NONE;
        for (int f = 0; f < now.fields(); f++) {
            for (int n = 1; n <= now.height[f / now.columns][f % now.columns] && n < best; n++) {
                World w = now.copy();
                w.height[f / w.columns][f % w.columns] -= n;
                if (!flow(w, rule).fields.equals(is)) {
                    best = n;
                    field = f;
                }
            }
        }
        if (field == NONE) {
            return -2;
        }
        tell(field);
        return best;
    }

    // ---- ships

    private static boolean comesIn(World w, Course course, int draught) {
        if (course.lake()) {
            return false;
        }
        for (int f : course.fields) {
            if (w.height[f / w.columns][f % w.columns] > 9 - draught) {
                return false;
            }
        }
        return true;
    }

    int draught() {
        Course course = flow(now, rule);
        int greatest = 0;
        for (int d = 1; d <= 9; d++) {
            greatest = comesIn(now, course, d) ? d : greatest;
        }
        int highest = NONE;
        int height = -1;
        for (int f : course.fields) {
            if (now.height[f / now.columns][f % now.columns] > height) {
                height = now.height[f / now.columns][f % now.columns];
                highest = f;
            }
        }
        tell(highest);
        return greatest;
    }

    int timetable(int n) {
        String t = takeText();
        if (n < 1 || n > 20) {
            return -100;
        }
        for (int p = 0; p < t.length(); p++) {
            if (p == 8 || "123456789".indexOf(t.charAt(p)) < 0) {
                return -1 - p;
            }
        }
        if (t.isEmpty()) {
            return -1;
        }
        boolean[][] can = new boolean[t.length()][n];
        World w = now.copy();
        for (int i = 0; i < n; i++) {
            for (int s = 0; s < t.length(); s++) {
                can[s][i] = comesIn(w, flow(w, rule), t.charAt(s) - '0');
            }
            pass(w);
        }
        int most = matching(can, new int[0]);
        int[] fixed = new int[0];
        for (int s = 0; s < t.length(); s++) {
            int[] longer = Arrays.copyOf(fixed, s + 1);
            for (int i = -1; i < n; i++) {
                longer[s] = i;
                if (isFree(can, fixed, s, i) && matching(can, longer) == most) {
                    break;
                }
            }
            fixed = longer;
        }
        row = new ArrayList<>();
        for (int i : fixed) {
            row.add((long) i);
        }
        return most;
    }

    private static boolean isFree(boolean[][] can, int[] fixed, int ship, int tide) {
        if (tide < 0) {
            return true;
        }
        for (int f : fixed) {
            if (f == tide) {
                return false;
            }
        }
        return can[ship][tide];
    }

    /** The most ships that come in, if the first ones have these tides already. */
    private static int matching(boolean[][] can, int[] fixed) {
        int[] shipOf = new int[can[0].length];
        Arrays.fill(shipOf, -1);
        int matched = 0;
        boolean[] taken = new boolean[can[0].length];
        for (int f : fixed) {
            if (f >= 0) {
                taken[f] = true;
                matched++;
            }
        }
        for (int s = fixed.length; s < can.length; s++) {
            matched += placed(can, s, shipOf, taken.clone()) ? 1 : 0;
        }
        return matched;
    }

    private static boolean placed(boolean[][] can, int ship, int[] shipOf, boolean[] tried) {
        for (int i = 0; i < shipOf.length; i++) {
            if (can[ship][i] && !tried[i]) {
                tried[i] = true;
                if (shipOf[i] < 0 || placed(can, shipOf[i], shipOf, tried)) {
                    shipOf[i] = ship;
                    return true;
                }
            }
        }
        return false;
    }

    private List<Integer> beside(int f) {
        int r = f / now.columns;
        int c = f % now.columns;
        List<Integer> fields = new ArrayList<>();
        int[][] around = {{r - 1, c}, {r, c - 1}, {r, c + 1}, {r + 1, c}};
        for (int[] a : around) {
            if (now.has(a[0], a[1]) && !now.wall[a[0]][a[1]]) {
                fields.add(a[0] * now.columns + a[1]);
            }
        }
        return fields;
    }

    private static boolean lessThan(List<Integer> a, List<Integer> b) {
        for (int i = 0; i < a.size() && i < b.size(); i++) {
            if (!a.get(i).equals(b.get(i))) {
                return a.get(i) < b.get(i);
            }
        }
        return a.size() < b.size();
    }

    int way(int v) {
        if (v < 1 || v > 9) {
            return NONE;
        }
        if (now.wall[0][now.source] || now.height[0][now.source] > 9 - v) {
            return -2;
        }
        Map<Integer, List<Integer>> layer = new HashMap<>();
        layer.put(now.source, List.of(now.source));
        List<Integer> visited = new ArrayList<>();
        while (!layer.isEmpty()) {
            List<Integer> best = null;
            for (List<Integer> path : layer.values()) {
                int last = path.get(path.size() - 1);
                visited.add(last);
                if (last / now.columns == now.rows - 1 && (best == null || lessThan(path, best))) {
                    best = path;
                }
            }
            if (best != null) {
                tellAll(best);
                return best.size();
            }
            Map<Integer, List<Integer>> then = new HashMap<>();
            for (List<Integer> path : layer.values()) {
                for (int to : beside(path.get(path.size() - 1))) {
                    if (visited.contains(to) || now.height[to / now.columns][to % now.columns] > 9 - v) {
                        continue;
                    }
                    List<Integer> longer = new ArrayList<>(path);
                    longer.add(to);
                    if (!then.containsKey(to) || lessThan(longer, then.get(to))) {
                        then.put(to, longer);
                    }
                }
            }
            layer = then;
        }
        return -2;
    }

    int arms() {
        if (now.wall[0][now.source]) {
            tell(0);
            return 0;
        }
        int most = mostWays();
        long least = Long.MAX_VALUE;
        List<Integer> fields = new ArrayList<>();
        for (int f = 0; f < now.fields(); f++) {
            if (f != now.source) {
                fields.add(f);
            }
        }
        for (List<Integer> without : rising(fields, most)) {
            if (!reaches(without)) {
                long bits = 0;
                for (int f : without) {
                    bits |= 1L << f;
                }
                least = Math.min(least, bits);
            }
        }
        tell(least);
        return most;
    }

    private boolean reaches(List<Integer> without) {
        ArrayDeque<Integer> open = new ArrayDeque<>(Collections.singleton(now.source));
        boolean[] was = new boolean[now.fields()];
        was[now.source] = true;
        while (!open.isEmpty()) {
            int f = open.remove();
            if (f / now.columns == now.rows - 1) {
                return true;
            }
            for (int to : beside(f)) {
                if (!was[to] && !without.contains(to)) {
                    was[to] = true;
                    open.add(to);
                }
            }
        }
        return false;
    }

    /** A flow in which each field but the source lets one through (2f in, 2f + 1 out). */
    private int mostWays() {
        int n = now.fields();
        int sea = 2 * n;
        int[][] room = new int[2 * n + 1][2 * n + 1];
        for (int f = 0; f < n; f++) {
            if (now.wall[f / now.columns][f % now.columns]) {
                continue;
            }
            room[2 * f][2 * f + 1] = f == now.source ? 9 : 1;
            for (int to : beside(f)) {
                room[2 * f + 1][2 * to] = 1;
            }
            if (f / now.columns == now.rows - 1) {
                room[2 * f + 1][sea] = 1;
            }
        }
        int ways = 0;
        while (push(room, 2 * now.source, sea, new boolean[2 * n + 1])) {
            ways++;
        }
        return ways;
    }

    private static boolean push(int[][] room, int at, int sea, boolean[] was) {
        if (at == sea) {
            return true;
        }
        was[at] = true;
        for (int to = 0; to < room.length; to++) {
            if (room[at][to] > 0 && !was[to] && push(room, to, sea, was)) {
                room[at][to]--;
                room[to][at]++;
                return true;
            }
        }
        return false;
    }

    // ---- which source it was

    int seen(int n, int field, int is) {
        boolean fine = n >= 0 && n <= 20 && field >= 0 && field < now.fields() && (is == 0 || is == 1);
        if (!fine || seen.size() == 10) {
            return NONE;
        }
        seen.add(new int[] {n, field, is});
        return seen.size();
    }

    int forget() {
        int were = seen.size();
        seen.clear();
        return were;
    }

    private List<Course> from(int column, int n) {
        World w = now.copy();
        w.source = column;
        return next(w, n);
    }

    private List<Integer> fitting() {
        List<Integer> columns = new ArrayList<>();
        for (int c = 0; c < now.columns; c++) {
            List<Course> courses = from(c, 21);
            boolean fits = true;
            for (int[] s : seen) {
                fits &= courses.get(s[0]).fields.contains(s[1]) == (s[2] == 1);
            }
            if (fits) {
                columns.add(c);
            }
        }
        return columns;
    }

    int fits() {
        int bits = 0;
        for (int c : fitting()) {
            bits |= 1 << c;
        }
        tell(Integer.bitCount(bits));
        return bits;
    }

    int reed(int n) {
        if (n < 0 || n > 20) {
            return NONE;
        }
        List<Integer> columns = fitting();
        if (columns.isEmpty()) {
            return -2;
        }
        int best = 99;
        int field = NONE;
        for (int f = 0; f < now.fields(); f++) {
            int on = 0;
            int off = 0;
            for (int c : columns) {
                if (from(c, n + 1).get(n).fields.contains(f)) {
                    on++;
                } else {
                    off++;
                }
            }
            if (Math.max(on, off) < best) {
                best = Math.max(on, off);
                field = f;
            }
        }
        tell(best);
        return field;
    }

    // ---- laws of choosing

    int marked(int field, int to) {
        boolean fine = field >= 0 && field < now.fields() - now.columns && to >= 0 && to <= 2;
        if (!fine || marks.size() == 10) {
            return NONE;
        }
        marks.add(new int[] {field, to});
        return marks.size();
    }

    int wiped() {
        int were = marks.size();
        marks.clear();
        return were;
    }

    int laws() {
        int n = 0;
        tell();
        for (int law = 0; law < 64; law++) {
            int a = law / 16;
            int b = law / 4 % 4;
            int c = law % 4;
            boolean fits = true;
            for (int[] mark : marks) {
                World w = now.copy();
                int r = mark[0] / w.columns;
                // A land that begins at the mark's row, with its source there, has the river's first step.
                World part = new World();
                part.rows = w.rows - r;
                part.columns = w.columns;
                part.height = Arrays.copyOfRange(w.height, r, w.rows);
                part.wall = Arrays.copyOfRange(w.wall, r, w.rows);
                part.bed = Arrays.copyOfRange(w.bed, r, w.rows);
                part.source = mark[0] % w.columns;
                part.wall[0][part.source] = false;
                List<Integer> course = flow(part, "h*" + a + "+s*" + b + "-w*" + c).fields;
                int[] wanted = {part.source + part.columns, part.source - 1, part.source + 1};
                fits &= course.size() > 1 && course.get(1) == wanted[mark[1]];
            }
            if (fits && n++ == 0) {
                tell(a, b, c);
            }
        }
        return n;
    }

    // ---- harbours, tides by chance, another rule

    int bar(int n, int a) {
        if (n < 0 || n > 60 || a < 1 || a > 9) {
            return NONE;
        }
        Map<Integer, Boolean> known = new HashMap<>();
        for (int k = 1; k <= Math.min(a, n); k++) {
            if (!wins(n - k, k, a, known)) {
                return k;
            }
        }
        return 0;
    }

    private static boolean wins(int n, int last, int a, Map<Integer, Boolean> known) {
        int key = n * 16 + last;
        if (!known.containsKey(key)) {
            boolean wins = false;
            for (int k = 1; k <= Math.min(a, n); k++) {
                wins |= k != last && !wins(n - k, k, a, known);
            }
            known.put(key, wins);
        }
        return known.get(key);
    }

    int open(int n, int k, int p) {
        if (n < 1 || n > 12 || k < 1 || k > 12 || p < 0 || p > 10) {
            return NONE;
        }
        long upper = 0;
        long lower = 1;
        for (int i = 0; i < n; i++) {
            lower *= 10;
        }
        for (int set = 0; set < 1 << n; set++) {
            long likely = 1;
            int run = 0;
            int longest = 0;
            for (int i = 0; i < n; i++) {
                boolean open = (set >> i & 1) == 1;
                likely *= open ? p : 10 - p;
                run = open ? run + 1 : 0;
                longest = Math.max(longest, run);
            }
            upper += longest >= k ? likely : 0;
        }
        BigInteger common = BigInteger.valueOf(upper).gcd(BigInteger.valueOf(lower));
        tell(upper / common.longValue(), lower / common.longValue());
        return 0;
    }

    int law() {
        String t = takeText();
        int wrong = wrongOfRule(t);
        if (wrong != NONE) {
            return -10000 - wrong;
        }
        Course course = flow(now, t);
        tell(course.fields.size(), flow(now, rule).fields.size());
        return course.mouth;
    }

    // ---- rests, years

    private static int has(int v, int own, int other) {
        int together = own + other > 9 ? 9 : own + other;
        int pays = own * 2 / 3;
        if (own > other) {
            pays++;
        }
        return v * together / 9 - pays;
    }

    int rests(int v) {
        if (v < 0 || v > 20) {
            return NONE;
        }
        int pairs = 0;
        tell();
        for (int x = 0; x < 10; x++) {
            for (int y = 0; y < 10; y++) {
                int bestX = Integer.MIN_VALUE;
                int bestY = Integer.MIN_VALUE;
                for (int z = 0; z < 10; z++) {
                    bestX = Math.max(bestX, has(v, z, y));
                    bestY = Math.max(bestY, has(v, z, x));
                }
                if (has(v, x, y) == bestX && has(v, y, x) == bestY && pairs++ == 0) {
                    tell(x, y);
                }
            }
        }
        return pairs;
    }

    private int r;

    private int draw(int n) {
        r = r * 1103515245 + 12345;
        return (int) ((r & 0xffffffffL) / 65536 % n);
    }

    int years(int seed, int n) {
        if (n < 1 || n > 60) {
            return NONE;
        }
        World w = now.copy();
        r = seed;
        int sea = 0;
        for (int i = 0; i < n; i++) {
            int act = draw(4);
            if (act <= 1) {
                sea += pass(w).lake() ? 0 : 1;
            } else if (act == 2) {
                int field = draw(w.fields());
                cutIt(w, field, draw(3) + 1);
            } else {
                wallIt(w, draw(w.fields()));
            }
        }
        tell(w.all(), w.lakes);
        return sea;
    }

    // ---- kept

    boolean keep(int i) {
        if (i < 0 || i > 2) {
            return false;
        }
        kept[i] = now.copy();
        return true;
    }

    boolean again(int i) {
        if (i < 0 || i > 2 || kept[i] == null) {
            return false;
        }
        now = kept[i].copy();
        past.clear();
        return true;
    }

    int count(int what) {
        int[] counts = {now.rows, now.columns, now.source, now.tide, now.lakes, now.all(), now.walls(),
            now.bedFields(), forceOf(now), seen.size(), marks.size(), past.size(), row.size(), text.length()};
        return what < 0 || what >= counts.length ? -100 : counts[what];
    }

    long row(int i) {
        if (i < 0 || i >= row.size()) {
            throw new NoSuchElementException();
        }
        return row.get(i);
    }
}
