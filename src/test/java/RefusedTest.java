import java.util.NoSuchElementException;
import java.util.function.LongSupplier;

/**
 * What refused calls and questions leave: of two objects that were used alike one is asked, and both are drained then of
 * all that can be asked of them.
 */
public final class RefusedTest extends Bench {
    private static final int LEAST = Integer.MIN_VALUE;
    private static final int MOST = Integer.MAX_VALUE;
    private static final long THREW = Long.MIN_VALUE;
    private static final String LAND = "34" + "190235201403";
    private static final Runnable AS_IT_IS = () -> { };

    public static void main(String[] args) {
        aDrainSeesAll();
        textsRefused();
        landAndTidesRefused();
        actsRefused();
        questionsRefused();
        notesRefused();
        keptRefused();
        brokenTexts();
        timetableRefused();
        aYearThatIsRefused();
        questionsChangeNothing();
        questionsOfALakeChangeNothing();
        askedOfTheSameTide();
        stop();
    }

    // ---- two objects that were used alike

    /** All that an object can hold is there: walls, a bed, lakes, acts to undo, states kept, notes, a row, a text. */
    private static void use() {
        x = new RiverThinksAgain();
        land(LAND);
        force("307", 3);
        rule("h*2+s-w+f/2");
        x.source(3);
        x.tides(2);
        walls(2);
        x.keep(0);
        x.tides(1);
        walls(5, 7);
        x.heap(8, 3);
        year("s1n2h231w20", 4);
        x.keep(2);
        x.wall(2);
        x.cut(0, 1);
        x.seen(0, 1, 1);
        x.seen(3, 9, 0);
        x.marked(1, 0);
        x.open(3, 2, 4);
        text("23" + "314159");
    }

    private static void useUp() {
        x = new RiverThinksAgain();
    }

    /** All that can be asked, the text at last, as land() makes all else anew. */
    private static String drain() {
        StringBuilder told = new StringBuilder();
        tell(told, "all");
        tellRow(told);
        told.append("fits ").append(x.fits()).append("\nlaws ").append(x.laws());
        for (int n = 0; n <= 20; n += 5) {
            told.append("\nreed ").append(x.reed(n));
            tellRow(told);
        }
        told.append("\nseen ").append(x.seen(0, 0, 0)).append("\nmarks ").append(x.marked(0, 0));
        for (int left = x.undo(), i = 0; left != NONE && i < 20; left = x.undo(), i++) {
            tell(told, "undone");
        }
        for (int i = 0; i <= 2; i++) {
            told.append("\nagain ").append(x.again(i));
            tell(told, "as kept");
        }
        for (int i = 0; i < 20; i++) {
            told.append("\nforce ").append(x.count(8)).append(' ').append(x.tides(1));
        }
        told.append("\nland ").append(x.land());
        tell(told, "anew");
        return told.toString();
    }

    private static void tell(StringBuilder told, String what) {
        told.append('\n').append(what);
        for (int i = 0; i <= 13; i++) {
            told.append(' ').append(x.count(i));
        }
        for (int f = 0; f < x.count(0) * x.count(1); f++) {
            told.append('\n');
            for (int of = 0; of <= 3; of++) {
                told.append(x.field(f, of)).append(' ');
            }
            told.append(x.dislikes(f, 0)).append(' ').append(x.dislikes(f, 1));
        }
        told.append('\n');
    }

    private static void tellRow(StringBuilder told) {
        for (int i = 0; i < x.count(12); i++) {
            told.append(x.row(i)).append(' ');
        }
    }

    private static long answer(LongSupplier call) {
        try {
            return call.getAsLong();
        } catch (NoSuchElementException e) {
            return THREW;
        }
    }

    /** One of both is asked; what is made ready of both ahead of it and behind it is told. */
    private static void leaves(String what, Runnable used, Runnable ready, long want, LongSupplier call, Runnable then) {
        goOn(what);
        used.run();
        ready.run();
        then.run();
        String due = drain();
        used.run();
        ready.run();
        due(want, answer(call), what);
        then.run();
        isSame(due, drain(), what);
    }

    private static void isSame(String due, String got, String what) {
        due(true, due.equals(got), what + " leaves all as it was");
        if (due.equals(got)) {
            return;
        }
        String[] dues = due.split("\n");
        String[] gots = got.split("\n");
        for (int i = 0; i < dues.length && i < gots.length; i++) {
            if (!dues[i].equals(gots[i])) {
                System.out.println("  line " + i + " is " + gots[i] + ", due is " + dues[i]);
                return;
            }
        }
    }

    private static void refused(String what, Runnable ready, long want, LongSupplier call) {
        leaves(what, RefusedTest::use, ready, want, call, AS_IT_IS);
    }

    private static void refused(String what, long want, LongSupplier call) {
        refused(what, AS_IT_IS, want, call);
        leaves(what + " of a new object", RefusedTest::useUp, AS_IT_IS, want, call, AS_IT_IS);
    }

    private static long of(boolean answer) {
        return answer ? 1 : 0;
    }

    /** Else two drains that are the same would tell nothing. */
    private static void aDrainSeesAll() {
        Runnable[] changes = {() -> x.end(7), () -> text("23" + "314158"), () -> x.sheet(0, 12, 1, 0), () -> x.tides(0),
            () -> x.heap(0, 1), () -> x.wall(0), () -> x.source(0), () -> x.undo(), () -> x.open(3, 2, 5),
            () -> x.seen(0, 0, 1), () -> x.forget(), () -> x.marked(0, 1), () -> x.wiped(), () -> x.keep(1),
            () -> x.keep(0), () -> x.again(0), () -> { force("308", 3); text("23" + "314159"); },
            () -> { rule("h*3+s-w+f/2"); text("23" + "314159"); }, () -> { land(LAND); text("23" + "314159"); }};
        use();
        String all = drain();
        for (int i = 0; i < changes.length; i++) {
            goOn("a drain sees all");
            use();
            changes[i].run();
            due(false, all.equals(drain()), "change " + i + " leaves all as it was");
        }
        use();
        goOn("a drain sees all");
        due(true, all.equals(drain()), "no change leaves all as it was");
    }

    // ---- refused

    private static void textsRefused() {
        for (int n : new int[] {77, 78, 79, 80}) {
            Runnable full = () -> {
                text(times("2233333", 11) + "222");
                x.end(n);
            };
            refused("2: sign() with " + n + " signs", full, NONE, () -> x.sign(0x32323232));
        }
        for (int n : new int[] {-1, 9, 80, 81, LEAST, MOST}) {
            refused("3: end(" + n + ")", 0, () -> of(x.end(n)));
        }
    }

    private static void landAndTidesRefused() {
        for (int n : new int[] {-1, 12, LEAST, MOST}) {
            for (int what = 0; what <= 3; what++) {
                int of = what;
                refused("7: field(" + n + ", " + of + ")", THREW, () -> x.field(n, of));
            }
            for (int way = 0; way <= 1; way++) {
                int by = way;
                refused("8: dislikes(" + n + ", " + by + ")", THREW, () -> x.dislikes(n, by));
            }
        }
        for (int n : new int[] {-1, 4, LEAST, MOST}) {
            refused("7: field(0, " + n + ")", THREW, () -> x.field(0, n));
        }
        for (int n : new int[] {-1, 2, LEAST, MOST}) {
            refused("8: dislikes(0, " + n + ")", THREW, () -> x.dislikes(0, n));
        }
        for (int kind : new int[] {-1, 4, LEAST, MOST}) {
            refused("9: sheet(" + kind + ", ..)", NONE, () -> x.sheet(kind, 3, 1, 1));
            refused("9: sheet(" + kind + ", -1, ..)", NONE, () -> x.sheet(kind, -1, 1, 1));
        }
        for (int kind = 0; kind <= 3; kind++) {
            int of = kind;
            refused("9: sheet(" + kind + ", 37, ..)", NONE, () -> x.sheet(of, 37, 1, 1));
            refused("9: sheet(" + kind + ", most, ..)", NONE, () -> x.sheet(of, MOST, 1, 1));
            if (kind < 3) {
                refused("9: sheet(" + kind + ", -1, ..)", -2, () -> x.sheet(of, -1, 1, 1));
                refused("9: sheet(" + kind + ", least, ..)", -2, () -> x.sheet(of, LEAST, 1, 1));
            }
        }
    }

    private static void actsRefused() {
        for (int n : new int[] {-1, 61, LEAST, MOST}) {
            refused("10: tides(" + n + ")", NONE, () -> x.tides(n));
        }
        for (int field : new int[] {-1, 12, LEAST, MOST}) {
            refused("11: cut(" + field + ", 1)", NONE, () -> x.cut(field, 1));
            refused("12: heap(" + field + ", 1)", NONE, () -> x.heap(field, 1));
            refused("13: wall(" + field + ")", NONE, () -> x.wall(field));
        }
        for (int n : new int[] {0, -1, 10, LEAST, MOST}) {
            refused("11: cut(0, " + n + ")", NONE, () -> x.cut(0, n));
            refused("12: heap(0, " + n + ")", NONE, () -> x.heap(0, n));
        }
        Runnable sheet = () -> x.sheet(2, 12, 5, 0);
        refused("11: cut() of more than there is", sheet, -2, () -> x.cut(4, 6));
        refused("12: heap() to more than 9", sheet, -3, () -> x.heap(4, 5));
        Runnable eight = () -> walls(1, 4, 6, 9, 10);
        refused("13: wall() with 8 others", eight, -2, () -> x.wall(0));
        refused("13: wall(12) with 8", eight, NONE, () -> x.wall(12));
        refused("14: source() where it is", AS_IT_IS, -2, () -> x.source(1));
        for (int column : new int[] {-1, 4, LEAST, MOST}) {
            refused("14: source(" + column + ")", NONE, () -> x.source(column));
        }
        Runnable undone = () -> x.again(0);
        refused("16: undo() of none", undone, NONE, () -> x.undo());
        leaves("16: undo() of a new object", RefusedTest::useUp, AS_IT_IS, NONE, () -> x.undo(), AS_IT_IS);
    }

    private static void questionsRefused() {
        for (int n : new int[] {-1, 100, LEAST, MOST}) {
            refused("18: ahead(" + n + ")", NONE, () -> x.ahead(n));
        }
        for (int n : new int[] {0, -1, 100, LEAST, MOST}) {
            refused("20: alters(" + n + ")", NONE, () -> x.alters(n));
            refused("21: mouths(" + n + ")", NONE, () -> x.mouths(n));
            refused("22: dry(" + n + ")", NONE, () -> x.dry(n));
        }
        for (int column : new int[] {-1, 4, LEAST, MOST}) {
            refused("23: sends(" + column + ")", NONE, () -> x.sends(column));
        }
        for (int v : new int[] {0, -1, 10, LEAST, MOST}) {
            refused("29: way(" + v + ")", NONE, () -> x.way(v));
        }
        for (int n : new int[] {-1, 21, LEAST, MOST}) {
            refused("34: reed(" + n + ")", NONE, () -> x.reed(n));
            refused("41: rests(" + n + ")", NONE, () -> x.rests(n));
        }
        for (int n : new int[] {-1, 61, LEAST, MOST}) {
            refused("38: bar(" + n + ", 3)", NONE, () -> x.bar(n, 3));
        }
        for (int a : new int[] {0, -1, 10, LEAST, MOST}) {
            refused("38: bar(9, " + a + ")", NONE, () -> x.bar(9, a));
        }
        for (int n : new int[] {0, -1, 13, LEAST, MOST}) {
            refused("39: open(" + n + ", 1, 5)", NONE, () -> x.open(n, 1, 5));
            refused("39: open(5, " + n + ", 5)", NONE, () -> x.open(5, n, 5));
        }
        for (int p : new int[] {-1, 11, LEAST, MOST}) {
            refused("39: open(5, 1, " + p + ")", NONE, () -> x.open(5, 1, p));
        }
        for (int n : new int[] {0, -1, 61, LEAST, MOST}) {
            refused("42: years(7, " + n + ")", NONE, () -> x.years(7, n));
        }
        for (int what : new int[] {-1, 14, -100, LEAST, MOST}) {
            refused("45: count(" + what + ")", -100, () -> x.count(what));
        }
        for (int i : new int[] {-1, 2, 36, LEAST, MOST}) {
            refused("46: row(" + i + ")", THREW, () -> x.row(i));
        }
        goOn("46: row(0) of none");
        leaves("46: row(0) of a new object", RefusedTest::useUp, AS_IT_IS, THREW, () -> x.row(0), AS_IT_IS);
    }

    private static void notesRefused() {
        for (int n : new int[] {-1, 21, LEAST, MOST}) {
            refused("31: seen(" + n + ", 0, 1)", NONE, () -> x.seen(n, 0, 1));
        }
        for (int field : new int[] {-1, 12, LEAST, MOST}) {
            refused("31: seen(0, " + field + ", 1)", NONE, () -> x.seen(0, field, 1));
        }
        for (int is : new int[] {-1, 2, LEAST, MOST}) {
            refused("31: seen(0, 0, " + is + ")", NONE, () -> x.seen(0, 0, is));
        }
        for (int field : new int[] {-1, 8, 11, 12, LEAST, MOST}) {
            refused("35: marked(" + field + ", 0)", AS_IT_IS, NONE, () -> x.marked(field, 0));
        }
        for (int to : new int[] {-1, 3, LEAST, MOST}) {
            refused("35: marked(0, " + to + ")", NONE, () -> x.marked(0, to));
        }
        Runnable ten = () -> {
            for (int i = 2; i < 10; i++) {
                x.seen(i, 1, 0);
                x.marked(i % 8, i % 2);
            }
            x.marked(0, 0);
            due(10, x.count(9), "what was seen");
            due(10, x.count(10), "marks");
        };
        refused("31: an eleventh seen()", ten, NONE, () -> x.seen(0, 0, 0));
        refused("35: an eleventh marked()", ten, NONE, () -> x.marked(0, 0));
    }

    private static void keptRefused() {
        for (int i : new int[] {-1, 3, 32, LEAST, MOST}) {
            refused("43: keep(" + i + ")", 0, () -> of(x.keep(i)));
            refused("44: again(" + i + ")", 0, () -> of(x.again(i)));
        }
        refused("44: again(1), nothing kept", 0, () -> of(x.again(1)));
        Runnable anew = () -> {
            land(LAND);
            x.tides(1);
        };
        for (int i = 0; i <= 2; i++) {
            int of = i;
            refused("44: again(" + i + "), LAND came since", anew, 0, () -> of(x.again(of)));
        }
    }

    /** THE TEXT is emptied, else nothing is changed. */
    private static void broken(String what, String signs, long want, LongSupplier call) {
        leaves(what + " of " + signs, RefusedTest::use, () -> text(signs), want, call, () -> x.end(0));
        goOn(what);
        use();
        text(signs);
        answer(call);
        due(0, x.count(13), "signs of THE TEXT behind " + what + " of " + signs);
    }

    private static void brokenTexts() {
        String[] lands = {"", "3", "34", LAND.substring(0, 13), LAND + "0", "x4", "3x", "34x", "74", "17", "2233x3"};
        int[] landPlaces = {0, 1, 2, 13, 14, 0, 1, 2, 0, 0, 4};
        for (int i = 0; i < lands.length; i++) {
            broken("4: land()", lands[i], -1 - landPlaces[i], () -> x.land());
        }
        String[] forces = {"", "x", "12x", times("1", 21), times("1", 80)};
        int[] forcePlaces = {0, 0, 2, 20, 20};
        for (int i = 0; i < forces.length; i++) {
            broken("5: force()", forces[i], -1 - forcePlaces[i], () -> x.force());
        }
        String[] rules = {"x", "h+", "h+h)", "1+2+3456", "h<s<w", "(((((h)))))", times("h+", 20), times("h+", 40)};
        int[] rulePlaces = {0, 2, 3, 7, 3, 4, 40, 40};
        for (int i = 0; i < rules.length; i++) {
            broken("6: rule()", rules[i], -1 - rulePlaces[i], () -> x.rule());
            broken("40: law()", rules[i], -10000 - rulePlaces[i], () -> x.law());
        }
        String[] years = {"x", "n", "n1x", "n1h001w", "h111c110", "s1s2s", times("w00", 20) + "n", times("w00", 20) + "x"};
        int[] yearPlaces = {0, 1, 2, 7, 7, 5, 60, 60};
        for (int i = 0; i < years.length; i++) {
            broken("15: year()", years[i], -1 - yearPlaces[i], () -> x.year());
        }
    }

    private static void timetableRefused() {
        String[] ships = {"", "0", "x", "10", "12345678x", "123456789", "1234x678", times("1", 80)};
        int[] places = {0, 0, 0, 1, 8, 8, 4, 8};
        for (int i = 0; i < ships.length; i++) {
            broken("28: timetable(20)", ships[i], -1 - places[i], () -> x.timetable(20));
            for (int n : new int[] {0, -1, 21, LEAST, MOST}) {
                broken("28: timetable(" + n + ")", ships[i], -100, () -> x.timetable(n));
            }
        }
        broken("28: timetable(0)", "123", -100, () -> x.timetable(0));
    }

    /** Its first act is refused: nothing was done, but the ROW is told. */
    private static void aYearThatIsRefused() {
        String[] acts = {"c339", "c001", "h019", "w99", "w30", "w04", "s1", "s4", "s9", ""};
        for (String act : acts) {
            Runnable ready = () -> {
                x.sheet(2, 12, 0, 1);
                x.open(1, 1, 0);
                text(act + (act.isEmpty() ? "" : "n9"));
            };
            goOn("15: a year() of which no act was done");
            use();
            ready.run();
            x.end(0);
            int tide = x.count(3);
            x.course();
            String due = drain();
            use();
            ready.run();
            due(0, x.year(), "year() of " + act);
            row(act.isEmpty() ? 0 : 1, tide);
            x.course();
            isSame(due, drain(), "year() of " + act);
        }
    }

    // ---- questions

    private static void asked(String what, Runnable ready, LongSupplier call) {
        goOn(what);
        Runnable sameRow = () -> x.open(3, 2, 5);
        use();
        ready.run();
        long want = answer(call);
        leaves(what, RefusedTest::use, ready, want, call, sameRow);
        // Asked twice, it answers the same.
        use();
        ready.run();
        answer(call);
        due(want, answer(call), what + " asked again");
    }

    private static void asked(Runnable ready, String of) {
        for (int f = 0; f < 12; f++) {
            int field = f;
            asked("7: field() " + of, ready, () -> x.field(field, 3));
            asked("8: dislikes() " + of, ready, () -> x.dislikes(field, 1));
        }
        asked("17: course() " + of, ready, () -> x.course());
        for (int n : new int[] {0, 1, 50, 99}) {
            asked("18: ahead() " + of, ready, () -> x.ahead(n));
        }
        asked("19: sits() " + of, ready, () -> x.sits());
        for (int n : new int[] {1, 2, 99}) {
            asked("20: alters() " + of, ready, () -> x.alters(n));
            asked("21: mouths() " + of, ready, () -> x.mouths(n));
            asked("22: dry() " + of, ready, () -> x.dry(n));
        }
        for (int column = 0; column < 4; column++) {
            int to = column;
            asked("23: sends() " + of, ready, () -> x.sends(to));
        }
        asked("24: stops() " + of, ready, () -> x.stops());
        asked("25: longest() " + of, ready, () -> x.longest());
        asked("26: least() " + of, ready, () -> x.least());
        asked("27: draught() " + of, ready, () -> x.draught());
        for (int v = 1; v <= 9; v++) {
            int draught = v;
            asked("29: way() " + of, ready, () -> x.way(draught));
        }
        asked("30: arms() " + of, ready, () -> x.arms());
        asked("33: fits() " + of, ready, () -> x.fits());
        for (int n : new int[] {0, 20}) {
            asked("34: reed() " + of, ready, () -> x.reed(n));
        }
        asked("37: laws() " + of, ready, () -> x.laws());
        asked("38: bar() " + of, ready, () -> x.bar(60, 9));
        asked("39: open() " + of, ready, () -> x.open(12, 2, 3));
        asked("41: rests() " + of, ready, () -> x.rests(9));
        for (int n : new int[] {1, 60}) {
            asked("42: years() " + of, ready, () -> x.years(12345, n));
        }
        for (int what = 0; what <= 13; what++) {
            int number = what;
            asked("45: count() " + of, ready, () -> x.count(number));
        }
        asked("46: row() " + of, ready, () -> x.row(0));
    }

    private static void questionsChangeNothing() {
        asked(AS_IT_IS, "changes nothing");
        Runnable ships = () -> text("3141");
        goOn("28: timetable() changes nothing but THE TEXT");
        use();
        ships.run();
        long want = x.timetable(20);
        Runnable emptied = () -> {
            x.end(0);
            x.open(1, 1, 1);
        };
        leaves("28: timetable(20)", RefusedTest::use, ships, want, () -> x.timetable(20), emptied);
        Runnable rule = () -> text("9-h");
        use();
        rule.run();
        long mouth = x.law();
        leaves("40: law()", RefusedTest::use, rule, mouth, () -> x.law(), emptied);
    }

    private static void questionsOfALakeChangeNothing() {
        asked(() -> x.wall(1), "of no COURSE changes nothing");
        asked(() -> { x.wall(0); x.wall(2); }, "of a LAKE changes nothing");
    }

    /** What one question finds out must not stay for the next one, which is of another state. */
    private static void askedOfTheSameTide() {
        LongSupplier[] calls = {() -> x.course(), () -> x.ahead(9), () -> x.sits(), () -> x.alters(99), () -> x.mouths(9),
            () -> x.dry(9), () -> x.sends(2), () -> x.stops(), () -> x.longest(), () -> x.least(), () -> x.draught(),
            () -> x.way(2), () -> x.arms(), () -> x.fits(), () -> x.reed(3), () -> x.laws(), () -> x.bar(9, 4),
            () -> x.open(4, 2, 5), () -> x.rests(4), () -> x.years(4, 40), () -> x.field(9, 3), () -> x.dislikes(9, 1)};
        for (int i = 0; i < calls.length; i++) {
            goOn("question " + i);
            use();
            long want = answer(calls[i]);
            StringBuilder dueRow = new StringBuilder();
            tellRow(dueRow);
            for (int k = 0; k < calls.length; k++) {
                use();
                answer(calls[k]);
                x.open(3, 2, 4);
                due(want, answer(calls[i]), "behind question " + k);
                StringBuilder gotRow = new StringBuilder();
                tellRow(gotRow);
                due(true, dueRow.toString().equals(gotRow.toString()), "its ROW behind question " + k);
            }
        }
    }
}
