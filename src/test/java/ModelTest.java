import java.util.NoSuchElementException;
import java.util.Random;

/** Runs drawn by a seed: each call is asked of the class and of Model, and all that can be asked then. */
public final class ModelTest {
    private static final int RUNS = 1500;
    private static final int CALLS = 120;
    private static final long THREW = Long.MIN_VALUE;
    private static int wrong;

    private final Random random;
    private final RiverThinksAgain river = new RiverThinksAgain();
    private final Model model = new Model();
    private final StringBuilder told = new StringBuilder();

    private ModelTest(long seed) {
        random = new Random(seed);
    }

    public static void main(String[] args) {
        int runs = args.length > 0 ? Integer.parseInt(args[0]) : RUNS;
        int from = args.length > 1 ? Integer.parseInt(args[1]) : 1;
        for (int seed = from; seed < from + runs && wrong == 0; seed++) {
            new ModelTest(seed).run();
        }
        System.exit(wrong == 0 ? 0 : 1);
    }

    private void run() {
        putText(landText());
        due("land", river.land(), model.land());
        for (int i = 0; i < CALLS && wrong == 0; i++) {
            call(random.nextInt(46));
            compareRow();
            if (i % 7 == 0) {
                compareAll();
            }
        }
        compareAll();
    }

    private int some(int from, int to) {
        if (random.nextInt(25) == 0) {
            int[] edges = {-1, from - 1, to + 1, Integer.MIN_VALUE, Integer.MAX_VALUE, 36, 64};
            return edges[random.nextInt(edges.length)];
        }
        if (random.nextInt(10) == 0) {
            return random.nextBoolean() ? from : to;
        }
        return from + random.nextInt(to - from + 1);
    }

    private int someField() {
        return some(0, model.now.fields() - 1);
    }

    private void putText(String text) {
        int were = model.text.length();
        String padded = text + "\0\0\0";
        for (int i = 0; i + 4 <= padded.length() && i < text.length(); i += 4) {
            int v = padded.charAt(i) << 24 | padded.charAt(i + 1) << 16 | padded.charAt(i + 2) << 8
                | padded.charAt(i + 3);
            due("sign(" + v + ")", river.sign(v), model.sign(v));
        }
        int n = were + text.length();
        due("end(" + n + ")", river.end(n) ? 1 : 0, model.end(n) ? 1 : 0);
    }

    private String landText() {
        int rows = 2 + random.nextInt(5);
        int columns = 2 + random.nextInt(5);
        int top = random.nextInt(3) == 0 ? 10 : 1 + random.nextInt(9);
        StringBuilder text = new StringBuilder().append(rows).append(columns);
        for (int i = 0; i < rows * columns; i++) {
            text.append(random.nextInt(top));
        }
        return text.toString();
    }

    private String digits(int least, int most, int lowest) {
        StringBuilder text = new StringBuilder();
        int n = least + random.nextInt(most - least + 1);
        for (int i = 0; i < n; i++) {
            text.append(lowest + random.nextInt(10 - lowest));
        }
        return text.toString();
    }

    private String expression(int depth) {
        String[] things = {"h", "s", "w", "f", "t", "r", "c", "" + random.nextInt(10), "" + random.nextInt(1000)};
        switch (random.nextInt(depth <= 0 ? 2 : 7)) {
            case 0:
            case 1:
                return things[random.nextInt(things.length)];
            case 2:
                return "-" + expression(depth - 1);
            case 3:
                return "(" + expression(depth - 1) + ")";
            case 4:
                return expression(depth - 1) + "<>=".charAt(random.nextInt(3)) + expression(depth - 1);
            default:
                return expression(depth - 1) + "+-*/".charAt(random.nextInt(4)) + expression(depth - 1);
        }
    }

    private String ruleText() {
        String text = expression(1 + random.nextInt(4));
        if (random.nextInt(3) == 0) {
            text = "h*" + random.nextInt(4) + "+s*" + random.nextInt(4) + "-w*" + random.nextInt(4) + "+("
                + expression(2) + ")";
        }
        if (text.length() > 75) {
            text = text.substring(0, 75);
        }
        return text;
    }

    private String yearText() {
        StringBuilder text = new StringBuilder();
        int acts = random.nextInt(12);
        for (int i = 0; i < acts; i++) {
            int r = random.nextInt(random.nextInt(20) == 0 ? 10 : model.now.rows);
            int c = random.nextInt(random.nextInt(20) == 0 ? 10 : model.now.columns);
            switch (random.nextInt(5)) {
                case 0: text.append('n').append(random.nextInt(10)); break;
                case 1: text.append('c').append(r).append(c).append(1 + random.nextInt(2)); break;
                case 2: text.append('h').append(r).append(c).append(1 + random.nextInt(3)); break;
                case 3: text.append('w').append(r).append(c); break;
                default: text.append('s').append(c); break;
            }
        }
        return text.toString();
    }

    /** The text, or the text with a sign put in, taken out or turned. */
    private String spoilt(String text) {
        if (random.nextInt(4) != 0) {
            return text;
        }
        StringBuilder other = new StringBuilder(text);
        String signs = "0123456789hswftrcn()+-*/<>= z" + (char) 233 + '\0';
        char sign = signs.charAt(random.nextInt(signs.length()));
        int place = text.isEmpty() ? 0 : random.nextInt(text.length());
        switch (random.nextInt(4)) {
            case 0: other.insert(place, sign); break;
            case 1: if (!text.isEmpty()) { other.deleteCharAt(place); } break;
            case 2: if (!text.isEmpty()) { other.setCharAt(place, sign); } break;
            default: other.setLength(place); break;
        }
        return other.length() > 76 ? other.substring(0, 76) : other.toString();
    }

    private void call(int which) {
        switch (which) {
            case 0: callSign(); break;
            case 1: callEnd(some(0, Math.max(1, model.text.length()))); break;
            case 2: if (random.nextInt(4) == 0) { readLand(); } break;
            case 3: readForce(); break;
            case 4: readRule(); break;
            case 5: askField(someField(), some(0, 3)); break;
            case 6: askDislikes(someField(), some(0, 1)); break;
            case 7: if (random.nextInt(4) == 0) { callSheet(); } break;
            case 8: { int n = some(0, random.nextInt(3) == 0 ? 60 : 4);
                due("tides(" + n + ")", river.tides(n), model.tides(n)); break; }
            case 9: { int f = someField(); int n = some(1, 3);
                due("cut(" + f + ", " + n + ")", river.cut(f, n), model.cut(f, n)); break; }
            case 10: { int f = someField(); int n = some(1, 5);
                due("heap(" + f + ", " + n + ")", river.heap(f, n), model.heap(f, n)); break; }
            case 11: { int f = someField(); due("wall(" + f + ")", river.wall(f), model.wall(f)); break; }
            case 12: { int c = some(0, model.now.columns - 1);
                due("source(" + c + ")", river.source(c), model.source(c)); break; }
            case 13: callEnd(0); putText(spoilt(yearText())); due("year()", river.year(), model.year()); break;
            case 14: due("undo()", river.undo(), model.undo()); break;
            case 15: due("course()", river.course(), model.course()); break;
            case 16: { int n = some(0, 99); due("ahead(" + n + ")", river.ahead(n), model.ahead(n)); break; }
            case 17: due("sits()", river.sits(), model.sits()); break;
            case 18: { int n = some(1, 99); due("alters(" + n + ")", river.alters(n), model.alters(n)); break; }
            case 19: { int n = some(1, 99); due("mouths(" + n + ")", river.mouths(n), model.mouths(n)); break; }
            case 20: { int n = some(1, 99); due("dry(" + n + ")", river.dry(n), model.dry(n)); break; }
            case 21: if (random.nextInt(3) == 0) { int c = some(0, model.now.columns - 1);
                due("sends(" + c + ")", river.sends(c), model.sends(c)); } break;
            case 22: due("stops()", river.stops(), model.stops()); break;
            default: callMore(which);
        }
    }

    private void callMore(int which) {
        switch (which) {
            case 23: due("longest()", river.longest(), model.longest()); break;
            case 24: due("least()", river.least(), model.least()); break;
            case 25: due("draught()", river.draught(), model.draught()); break;
            case 26: { callEnd(0); putText(spoilt(digits(0, 9, 1))); int n = some(1, 20);
                due("timetable(" + n + ")", river.timetable(n), model.timetable(n)); break; }
            case 27: { int v = some(1, 9); due("way(" + v + ")", river.way(v), model.way(v)); break; }
            case 28: due("arms()", river.arms(), model.arms()); break;
            case 29:
            case 44: { int n = some(0, 20); int f = someField(); int is = some(0, 1);
                due("seen(" + n + ", " + f + ", " + is + ")", river.seen(n, f, is), model.seen(n, f, is)); break; }
            case 30: if (random.nextInt(3) == 0) { due("forget()", river.forget(), model.forget()); } break;
            case 31: due("fits()", river.fits(), model.fits()); break;
            case 32: if (random.nextInt(3) == 0) { int n = some(0, 20);
                due("reed(" + n + ")", river.reed(n), model.reed(n)); } break;
            case 33:
            case 45: { int f = someField(); int to = some(0, 2);
                due("marked(" + f + ", " + to + ")", river.marked(f, to), model.marked(f, to)); break; }
            case 34: if (random.nextInt(3) == 0) { due("wiped()", river.wiped(), model.wiped()); } break;
            case 35: due("laws()", river.laws(), model.laws()); break;
            case 36: { int n = some(0, 60); int a = some(1, 9);
                due("bar(" + n + ", " + a + ")", river.bar(n, a), model.bar(n, a)); break; }
            case 37: { int n = some(1, 12); int k = some(1, random.nextBoolean() ? 12 : 3); int p = some(0, 10);
                due("open(" + n + ", " + k + ", " + p + ")", river.open(n, k, p), model.open(n, k, p)); break; }
            case 38: callEnd(0); putText(spoilt(ruleText())); due("law()", river.law(), model.law()); break;
            case 39: { int v = some(0, 20); due("rests(" + v + ")", river.rests(v), model.rests(v)); break; }
            case 40: { int seed = random.nextInt(); int n = some(1, 60);
                due("years(" + seed + ", " + n + ")", river.years(seed, n), model.years(seed, n)); break; }
            case 41: { int i = some(0, 2);
                due("keep(" + i + ")", river.keep(i) ? 1 : 0, model.keep(i) ? 1 : 0); break; }
            case 42: { int i = some(0, 2);
                due("again(" + i + ")", river.again(i) ? 1 : 0, model.again(i) ? 1 : 0); break; }
            default: { int what = some(0, 13); due("count(" + what + ")", river.count(what), model.count(what)); }
        }
    }

    private void callSign() {
        int v = random.nextInt();
        due("sign(" + v + ")", river.sign(v), model.sign(v));
    }

    private void callEnd(int n) {
        due("end(" + n + ")", river.end(n) ? 1 : 0, model.end(n) ? 1 : 0);
    }

    private void readLand() {
        callEnd(0);
        putText(spoilt(landText()));
        due("land()", river.land(), model.land());
    }

    private void readForce() {
        callEnd(0);
        putText(spoilt(digits(0, 21, 0)));
        due("force()", river.force(), model.force());
    }

    private void readRule() {
        callEnd(0);
        putText(random.nextInt(4) == 0 ? "" : spoilt(ruleText()));
        due("rule()", river.rule(), model.rule());
    }

    private void callSheet() {
        int kind = some(0, 3);
        int n = some(0, 36);
        int f = random.nextInt(3) == 0 ? random.nextInt() : random.nextInt(20) - 5;
        int step = random.nextInt(3) == 0 ? random.nextInt() : random.nextInt(5) - 2;
        due("sheet(" + kind + ", " + n + ", " + f + ", " + step + ")", river.sheet(kind, n, f, step),
            model.sheet(kind, n, f, step));
    }

    private void askField(int field, int what) {
        long got;
        long want;
        try { got = river.field(field, what); } catch (NoSuchElementException e) { got = THREW; }
        try { want = model.field(field, what); } catch (NoSuchElementException e) { want = THREW; }
        due("field(" + field + ", " + what + ")", got, want);
    }

    private void askDislikes(int field, int way) {
        long got;
        long want;
        try { got = river.dislikes(field, way); } catch (NoSuchElementException e) { got = THREW; }
        try { want = model.dislikes(field, way); } catch (NoSuchElementException e) { want = THREW; }
        due("dislikes(" + field + ", " + way + ")", got, want);
    }

    private void compareRow() {
        due("count(12)", river.count(12), model.count(12));
        for (int i = -1; i <= model.row.size(); i++) {
            long got;
            long want;
            try { got = river.row(i); } catch (NoSuchElementException e) { got = THREW; }
            try { want = model.row(i); } catch (NoSuchElementException e) { want = THREW; }
            due("row(" + i + ")", got, want);
        }
    }

    private void compareAll() {
        for (int what = -1; what <= 14; what++) {
            due("count(" + what + ")", river.count(what), model.count(what));
        }
        for (int f = -1; f <= model.now.fields(); f++) {
            for (int what = -1; what <= 4; what++) {
                askField(f, what);
            }
            for (int way = -1; way <= 2; way++) {
                askDislikes(f, way);
            }
        }
    }

    private void due(String call, long got, long want) {
        told.append(call).append(' ').append(got).append('\n');
        if (got != want) {
            wrong++;
            if (wrong == 1) {
                System.out.print(told);
            }
            System.out.println(call + " answered " + got + ", due is " + want);
        }
    }
}
