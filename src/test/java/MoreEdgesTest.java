import java.math.BigInteger;

/** Promises 23 to 46: each sentence that names a boundary case has a test here. */
public final class MoreEdgesTest extends Bench {
    private static final int LEAST = Integer.MIN_VALUE;
    private static final int MOST = Integer.MAX_VALUE;

    public static void main(String[] args) {
        sendsBounds();
        sendsWalls();
        stopsWalls();
        longestFields();
        leastCut();
        draughtBounds();
        timetableSigns();
        timetableTides();
        timetableShips();
        wayBounds();
        wayFields();
        armsWays();
        seenBounds();
        forgotten();
        fitsColumns();
        reedBounds();
        markedBounds();
        wipedMarks();
        lawsFit();
        barBounds();
        barWins();
        openBounds();
        openChances();
        lawSigns();
        lawCourse();
        restsBounds();
        restsPairs();
        yearsBounds();
        yearsDraws();
        keepNumbers();
        againKept();
        counts();
        rows();
        allCallsOfAnObject();
        stop();
    }

    // ---- walls that turn it

    private static void sends(int column, int want, long... fields) {
        due(want, x.sends(column), "sends(" + column + ")");
        row(fields);
    }

    private static void sendsBounds() {
        begin("23: NONE: none such");
        x.open(1, 1, 5);
        int[] others = {-1, 2, LEAST, MOST};
        for (int column : others) {
            sends(column, NONE, 1, 2);
        }
        land("26" + times("0", 12));
        sends(6, NONE, 1, 2);
        sends(0, 0);
        land("62" + times("0", 12));
        sends(2, NONE);
        goOn("23: 0 .. 3");
        land("66" + times("0", 36));
        sends(0, 0);
        sends(1, 1, 6);
        sends(2, 2, 6, 7);
        sends(3, 3, 6, 7, 8);
        goOn("23: -2: by no three");
        sends(4, -2, 6, 7, 8);
        sends(5, -2, 6, 7, 8);
        x.source(5);
        sends(2, 3, 9, 10, 11);
        sends(1, -2, 9, 10, 11);
        goOn("23: it changes nothing");
        due(0, x.count(6), "WALLS");
    }

    private static void sendsWalls() {
        begin("23: on FIELDS without one");
        land("66" + times("0", 36));
        x.wall(6);
        sends(1, 0);
        sends(2, 1, 7);
        sends(4, 3, 7, 8, 9);
        sends(5, -2, 7, 8, 9);
        // A wall at 13 turns it right, as 6 has one; at 19 it turns left.
        sends(0, 1, 19);
        goOn("23: more than 8 may be then");
        land("66" + times("0", 36));
        walls(5, 11, 17, 23, 29, 35, 34, 28);
        sends(1, 1, 6);
        sends(2, 2, 6, 7);
        sends(3, 3, 6, 7, 8);
        due(8, x.count(6), "WALLS");
        goOn("23: not on SOURCE's");
        land("22" + "0000");
        x.wall(0);
        sends(0, -2, 6, 7, 8);
        sends(1, -2, 6, 7, 8);
        goOn("23: of as few the least row");
        land("33" + times("0", 9));
        x.source(1);
        // By 4 it turns left; by 7, too, but that is more.
        sends(0, 1, 4);
        sends(2, 2, 0, 4);
        land("32" + times("0", 6));
        sends(1, 1, 2);
        goOn("23: on FIELDS without one now");
        land("66" + times("0", 36));
        x.wall(6);
        x.ahead(0);
        x.tides(0);
        x.wall(6);
        sends(1, 1, 6);
        goOn("23: THE COURSE of this TIDE");
        land("23" + "000000");
        rule("s-2*s*(t=1)");
        x.source(1);
        sends(1, 0);
        sends(0, 1, 4);
        x.tides(1);
        sends(0, 0);
        sends(2, 1, 0);
        sends(1, 2, 0, 2);
    }

    private static void stops(int want, long... fields) {
        due(want, x.stops(), "stops()");
        row(fields);
    }

    private static void stopsWalls() {
        begin("24: by which it is a LAKE, likewise: not on SOURCE's, of as few the least row");
        stops(2, 1, 2);
        goOn("24: 0 .. 3");
        x.wall(1);
        stops(1, 2);
        x.wall(2);
        stops(0);
        x.wall(0);
        stops(0);
        land("66" + times("0", 36));
        x.source(3);
        // One beside below, one below, and one further on the same side.
        stops(3, 1, 8, 9);
        goOn("24: more than 8 may be then");
        land("44" + times("0", 16));
        walls(1, 5, 9, 13, 2, 6, 10, 14);
        stops(1, 4);
        due(8, x.count(6), "it changes nothing");
        land("33" + times("0", 9));
        walls(0, 2, 3, 5, 6, 8, 7);
        x.source(1);
        stops(0);
        x.wall(7);
        x.wall(0);
        x.wall(2);
        stops(1, 4);
        goOn("24: the SOURCE's ways out are three at most: by no three is never");
        for (int source = 1; source <= 5; source++) {
            land("66" + times("0", 36));
            x.source(source);
            due(true, x.stops() >= 2, "stops()");
        }
    }

    private static void longest(int want, long... numbers) {
        due(want, x.longest(), "longest()");
        row(numbers);
    }

    private static void longestFields() {
        begin("25: how many, how many without it; it changes nothing");
        longest(2, 3, 2);
        due(0, x.count(6), "WALLS");
        goOn("25: but SOURCE's");
        walls(1, 2);
        longest(3, 1, 1);
        goOn("25: -2: there is no such FIELD");
        x.wall(3);
        longest(-2, 1, 1);
        x.wall(0);
        longest(-2, 1, 1);
        begin("25: of equal ones the first");
        land("33" + times("0", 9));
        // By each of 3 and 6 it has four.
        longest(3, 4, 3);
        x.source(1);
        longest(4, 4, 3);
        goOn("25: of equal ones the first, with no COURSE");
        x.wall(1);
        longest(0, 0, 0);
        x.wall(0);
        longest(2, 0, 0);
        begin("25: each one shortens it");
        land("33" + times("0", 9));
        x.source(2);
        walls(0, 1, 3, 4, 6, 7);
        longest(8, 2, 3);
        begin("25: FIELDS without a WALL (a ninth one, too)");
        land("44" + times("0", 16));
        walls(1, 2, 3, 7, 11, 15, 14, 13);
        due(8, x.count(6), "WALLS");
        // 0, 4, 8, 12: by 8 it goes by 5 and 9, by 12 by 8 and 9, and sits down at 10.
        longest(8, 5, 4);
    }

    private static void least(int want, long... fields) {
        due(want, x.least(), "least()");
        row(fields);
    }

    private static void leastCut() {
        begin("26: -2: by none");
        x.open(1, 1, 5);
        least(-2, 1, 2);
        land("22" + "9009");
        least(-2, 1, 2);
        goOn("26: 1 .. its HEIGHT");
        land("22" + "0110");
        least(-2, 1, 2);
        land("22" + "0130");
        least(1, 1);
        land("22" + "0930");
        least(9, 1);
        land("22" + "0920");
        least(-2, 1);
        goOn("26: it changes nothing");
        heights(0, 9, 2, 0);
        goOn("26: a WALL is no less liked by a cut");
        land("22" + "0530");
        x.wall(1);
        least(-2, 1);
        x.wall(1);
        x.wall(0);
        least(-2, 1);
        goOn("26: of as little the first");
        land("33" + "404" + "999" + "999");
        x.source(1);
        rule("h");
        // Left of equal ones; 1 off 2 turns it right; so would 5 off 4.
        least(1, 2);
        land("34" + "0444" + "5555" + "5555");
        rule("h");
        // Beside 4, below 5: 1 off 4 is equal, and below is the first; and so on at 1, 2 and 3.
        least(1, 4);
        goOn("26: so that what it likes is less liked");
        land("22" + "0350");
        rule("-h");
        least(3, 2);
        goOn("26: of this TIDE");
        land("22" + "0350");
        rule("h*(t=1)");
        least(-2, 2);
        x.tides(1);
        due(true, x.least() > 0, "least() in TIDE 1");
    }

    // ---- ships

    private static void draughtBounds() {
        for (int height = 0; height <= 9; height++) {
            begin("27: The greatest DRAUGHT (1 .. 9; 0: none does)");
            land("22" + height + "000");
            due(9 - height, x.draught(), "draught() over " + height);
            row(0);
        }
        begin("27: of equal ones the first on it");
        land("22" + "33" + "20");
        x.source(1);
        x.wall(3);
        course(0, 1, 0, 2);
        due(6, x.draught(), "draught()");
        row(1);
        x.heap(0, 1);
        due(5, x.draught(), "draught()");
        row(0);
        goOn("27: a LAKE: none comes in; the highest FIELD on THE COURSE");
        x.wall(2);
        course(LAKE, 1, 0);
        due(0, x.draught(), "draught()");
        row(0);
        goOn("27: NONE: none");
        x.wall(1);
        due(0, x.draught(), "draught()");
        row(NONE);
    }

    private static void timetableSigns() {
        begin("28: the sign at p can't stand there (DRAUGHTS 1 .. 9)");
        String[] texts = {"0", "x", "/", ":", "10", "1x", "1x2y", "1234567x", "1234567x9", "12345670" + "1", "-1"};
        int[] places = {0, 0, 0, 0, 1, 1, 1, 7, 7, 7, 0};
        for (int i = 0; i < texts.length; i++) {
            timetable(texts[i], 1, -1 - places[i]);
        }
        goOn("28: its end for none");
        timetable("", 1, -1);
        goOn("28: a ninth sign: at it");
        timetable("123456789", 20, -9);
        timetable("12345678x", 20, -9);
        timetable(times("1", 80), 20, -9);
        row();
        goOn("28: 1 to 8 digits");
        for (int n = 1; n <= 8; n++) {
            timetable(times("9", n), 20, n);
            due(n, x.count(12), "by SHIPS");
        }
        goOn("28: -100: another n (asked first; THE TEXT is emptied)");
        int[] others = {0, -1, 21, LEAST, MOST};
        for (int n : others) {
            timetable("1", n, -100);
            timetable("", n, -100);
            timetable("x", n, -100);
            timetable("123456789", n, -100);
        }
        due(8, x.count(12), "the ROW stays");
    }

    /** Ten lakes and more, as silt comes and goes: in the twentieth tide alone it comes to the sea. */
    private static void twentieth() {
        begin("");
        land("43" + times("0", 12));
        x.source(1);
        walls(3, 8);
        force(times("0", 11) + times("1", 8) + "9", 20);
        rule("s-2*s*(r=f)");
    }

    private static void timetableTides() {
        twentieth();
        goOn("28: in the next n TIDES (1 .. 20; 0 this one)");
        due(19, x.mouths(20) == 2 ? x.row(3) : 0, "LAKES of twenty TIDES");
        timetable("1", 20, 1);
        row(19);
        timetable("1", 19, 0);
        row(NONE);
        // It silted up to 8.
        timetable("2", 20, 0);
        row(NONE);
        timetable("12", 20, 1);
        row(19, NONE);
        goOn("28: one SHIP in each at most");
        timetable("11", 20, 1);
        row(NONE, 19);
        begin("28: 0 this one");
        timetable("9", 1, 1);
        row(0);
        timetable("99", 1, 1);
        row(NONE, 0);
        goOn("28: it changes nothing");
        due(0, x.count(3) + x.count(5), "TIDE and HEIGHT");
    }

    private static void timetableShips() {
        begin("28: the most that come in; of as many the least row (NONE is -1)");
        timetable("123", 2, 2);
        row(NONE, 0, 1);
        timetable("12345678", 8, 8);
        row(0, 1, 2, 3, 4, 5, 6, 7);
        timetable("12345678", 20, 8);
        row(0, 1, 2, 3, 4, 5, 6, 7);
        // Scoured tide by tide: ships of 4, 5, 6 .. come in from tide 0, 1, 2 .. on.
        land("22" + "5050");
        timetable("45", 2, 2);
        row(0, 1);
        timetable("54", 2, 2);
        row(1, 0);
        timetable("56", 2, 1);
        row(1, NONE);
        timetable("4444", 3, 3);
        row(NONE, 0, 1, 2);
        timetable("4449", 6, 4);
        row(0, 1, 2, 5);
        timetable("9444", 6, 4);
        row(5, 0, 1, 2);
        timetable("9999", 6, 1);
        row(NONE, NONE, NONE, 5);
        timetable("6475", 4, 4);
        row(2, 0, 3, 1);
        goOn("28: the most that come in, where the least TIDE for one is the only one for another");
        land("22" + "0005");
        force("01", 2);
        rule("s-2*s*f");
        // In TIDE 0 it goes straight, over 0; in TIDE 1 beside and over 3, which is 6 high then.
        timetable("39", 2, 2);
        row(1, 0);
        timetable("399", 2, 2);
        row(1, NONE, 0);
        timetable("93", 2, 2);
        row(0, 1);
        timetable("3393", 2, 2);
        row(NONE, NONE, 0, 1);
        timetable("4", 1, 1);
        row(0);
        land("22" + "0007");
        force("101", 3);
        // Beside over 7, straight over 1, beside over 7 again.
        timetable("228", 3, 3);
        row(0, 2, 1);
        begin("28: none comes in");
        x.wall(0);
        timetable("11", 20, 0);
        row(NONE, NONE);
    }

    private static void way(int v, int want, long... fields) {
        due(want, x.way(v), "way(" + v + ")");
        row(fields);
    }

    private static void wayBounds() {
        begin("29: NONE: another v");
        x.open(1, 1, 5);
        int[] others = {0, -1, 10, LEAST, MOST};
        for (int v : others) {
            way(v, NONE, 1, 2);
        }
        for (int height = 0; height <= 9; height++) {
            begin("29: whose HEIGHT is not above 9 less v (1 .. 9)");
            land("22" + "0" + "9" + height + "9");
            goOn("29: SOURCE, too");
            RiverThinksAgain below = x;
            begin("29: SOURCE, too");
            land("22" + height + "0" + "0" + "0");
            for (int v = 1; v <= 9; v++) {
                int want = height <= 9 - v ? 2 : -2;
                due(want, below.way(v), "way(" + v + ") by " + height);
                due(want, x.way(v), "way(" + v + ") to " + height);
            }
        }
    }

    private static void wayFields() {
        begin("29: -2: it could not");
        x.open(1, 1, 5);
        walls(2, 3);
        way(1, -2, 1, 2);
        x.wall(2);
        way(9, 2, 0, 2);
        x.wall(0);
        way(1, -2, 0, 2);
        begin("29: of as few the least row, from SOURCE on");
        land("33" + times("0", 9));
        x.source(1);
        way(9, 3, 1, 4, 7);
        x.wall(4);
        way(9, 4, 1, 0, 3, 6);
        x.wall(3);
        way(9, 4, 1, 2, 5, 8);
        begin("29: of as few the least row: not the least mouth");
        land("43" + "909" + "000" + "909" + "909");
        x.source(1);
        way(1, 4, 1, 4, 7, 10);
        land("43" + "909" + "000" + "090" + "090");
        x.source(1);
        way(1, 5, 1, 4, 3, 6, 9);
        goOn("29: up, down, left or right: the longest");
        land("66" + "000000" + "999990" + "000000" + "099999" + "000000" + "999990");
        way(1, 21, 0, 1, 2, 3, 4, 5, 11, 17, 16, 15, 14, 13, 12, 18, 24, 25, 26, 27, 28, 29, 35);
        land("45" + "09000" + "09090" + "00090" + "99990");
        way(9, 12, 0, 5, 10, 11, 12, 7, 2, 3, 4, 9, 14, 19);
        goOn("29: it does not go round the ends of the rows");
        land("33" + "990" + "099" + "099");
        x.source(2);
        way(1, -2, 0, 5, 10, 11, 12, 7, 2, 3, 4, 9, 14, 19);
    }

    private static void arms(int want, long dams) {
        due(want, x.arms(), "arms()");
        row(dams);
    }

    private static void armsWays() {
        begin("30: 0 with a WALL at SOURCE");
        x.wall(0);
        arms(0, 0);
        goOn("30: none");
        x.wall(0);
        walls(1, 2);
        arms(0, 0);
        goOn("30: one");
        x.wall(1);
        arms(1, 2);
        goOn("30: two: of as few the least");
        x.wall(2);
        arms(2, 2 + 4);
        goOn("30: three, the most");
        land("66" + times("9", 36));
        x.source(3);
        arms(3, 1L << 2 | 1L << 4 | 1L << 9);
        x.source(0);
        arms(2, 1L << 1 | 1L << 6);
        x.source(5);
        arms(2, 1L << 4 | 1L << 11);
        goOn("30: no two have a FIELD in common but SOURCE");
        land("33" + times("0", 9));
        x.source(1);
        walls(3, 5);
        arms(1, 1 << 4);
        x.wall(5);
        arms(2, 4 + 16);
        x.wall(7);
        arms(1, 1 << 5);
        goOn("30: bits; of as few the least, not the row with the least FIELD (0, 5, 7 are as few)");
        land("34" + times("0", 12));
        x.source(2);
        x.wall(10);
        arms(3, 1 << 1 | 1 << 3 | 1 << 6);
        goOn("30: up, too");
        land("34" + times("0", 12));
        walls(1, 6, 9, 8, 10);
        // 0, 4, 5 and up is a wall.
        arms(0, 0);
        x.wall(1);
        arms(1, 1 << 1);
        goOn("30: it does not go round the ends of the rows");
        land("33" + times("0", 9));
        x.source(2);
        walls(1, 5);
        arms(0, 0);
    }

    // ---- which source it was

    private static void seenBounds() {
        begin("31: in n TIDES (0 .. 20) from now a FIELD is on THE COURSE (is 1) or not (0): how many such");
        due(1, x.seen(0, 0, 0), "seen(0, 0, 0)");
        due(2, x.seen(20, 3, 1), "seen(20, 3, 1)");
        due(3, x.seen(20, 3, 1), "seen(20, 3, 1) once more");
        goOn("31: Refused: others");
        int[][] others = {{-1, 0, 0}, {21, 0, 0}, {LEAST, 0, 0}, {MOST, 0, 0}, {0, -1, 0}, {0, 4, 0}, {0, 36, 0},
            {0, LEAST, 0}, {0, MOST, 0}, {0, 0, -1}, {0, 0, 2}, {0, 0, LEAST}, {0, 0, MOST}};
        for (int[] o : others) {
            due(NONE, x.seen(o[0], o[1], o[2]), "seen(" + o[0] + ", " + o[1] + ", " + o[2] + ")");
        }
        due(3, x.count(9), "what was seen");
        goOn("31: Refused: 10");
        for (int i = 4; i <= 10; i++) {
            due(i, x.seen(i, 0, 1), "seen()");
        }
        due(NONE, x.seen(0, 0, 1), "an eleventh");
        due(NONE, x.seen(0, 0, 2), "an eleventh of others");
        due(10, x.count(9), "what was seen");
        land("66" + times("0", 36));
        due(1, x.seen(0, 35, 1), "seen(0, 35, 1)");
        due(NONE, x.seen(0, 36, 1), "seen(0, 36, 1)");
    }

    private static void forgotten() {
        begin("32: how many there were");
        due(0, x.forget(), "forget() of none");
        for (int i = 1; i <= 10; i++) {
            x.seen(0, 0, 0);
        }
        due(0, x.fits() & 1, "fits()");
        due(10, x.forget(), "forget()");
        due(0, x.count(9), "what was seen");
        due(3, x.fits(), "fits()");
        due(0, x.forget(), "forget() of none");
        due(1, x.seen(0, 0, 0), "seen() anew");
        due(1, x.forget(), "forget()");
        goOn("32: marks are not of it");
        x.marked(0, 0);
        x.seen(0, 0, 0);
        x.forget();
        due(1, x.count(10), "marks");
    }

    private static void fits(int want, long numbers) {
        due(want, x.fits(), "fits()");
        row(numbers);
    }

    /** In tides 6, 13 and 20 it goes beside first. */
    private static void besideIn20() {
        begin("");
        rule("s-2*s*(t=6)");
    }

    private static void fitsColumns() {
        begin("33: nothing was seen: all COLUMNS fit");
        for (int columns = 2; columns <= 6; columns++) {
            land("2" + columns + times("0", 2 * columns));
            fits((1 << columns) - 1, columns);
        }
        goOn("33: COLUMNS with SOURCE in which all would be as it was seen");
        x.seen(0, 11, 1);
        fits(32, 1);
        x.seen(0, 0, 0);
        fits(32, 1);
        goOn("33: none");
        x.seen(0, 4, 1);
        fits(0, 0);
        goOn("33: not on it");
        x.forget();
        x.seen(0, 0, 0);
        x.seen(0, 11, 0);
        fits(2 + 4 + 8 + 16, 4);
        goOn("33: a SOURCE with a WALL: it is on no FIELD");
        x.forget();
        x.wall(0);
        x.seen(0, 0, 0);
        fits(63, 6);
        x.seen(20, 6, 1);
        fits(0, 0);
        besideIn20();
        goOn("33: in 20 TIDES");
        x.seen(20, 3, 1);
        fits(1, 1);
        x.forget();
        x.seen(19, 3, 1);
        fits(2, 1);
        goOn("33: from now on");
        x.tides(1);
        fits(1, 1);
        x.tides(1);
        fits(2, 1);
        goOn("33: with SOURCE where it is or not, it changes nothing");
        x.source(1);
        fits(2, 1);
        due(1, x.count(2), "SOURCE");
        due(2, x.count(3), "TIDE");
    }

    private static void reed(int n, int want, long... numbers) {
        due(want, x.reed(n), "reed(" + n + ")");
        row(numbers);
    }

    private static void reedBounds() {
        begin("34: NONE: another n");
        x.open(1, 1, 5);
        int[] others = {-1, 21, LEAST, MOST};
        for (int n : others) {
            reed(n, NONE, 1, 2);
        }
        besideIn20();
        goOn("34: in n TIDES (0 .. 20)");
        reed(0, 0, 1);
        reed(19, 0, 1);
        reed(20, 2, 1);
        besideIn20();
        goOn("34: such COLUMNS: what was seen may be later than n");
        x.seen(20, 3, 1);
        reed(0, 0, 1);
        goOn("34: -2: none fits");
        x.forget();
        x.seen(0, 0, 1);
        x.seen(0, 0, 0);
        reed(0, -2, 1);
        reed(20, -2, 1);
        goOn("34: NONE: another n, none fits");
        reed(21, NONE, 1);
        begin("34: of equal ones the first");
        land("26" + times("0", 12));
        reed(0, 0, 5);
        goOn("34: such COLUMNS");
        x.seen(0, 0, 0);
        reed(0, 1, 4);
        x.seen(0, 1, 0);
        x.seen(0, 2, 0);
        x.seen(0, 3, 0);
        reed(0, 4, 1);
        x.seen(0, 4, 0);
        goOn("34: one is left: the first of all");
        reed(0, 0, 1);
        goOn("34: it changes nothing");
        due(0, x.count(2) + x.count(3), "SOURCE and TIDE");
    }

    // ---- laws of choosing

    private static void markedBounds() {
        begin("35: from a FIELD (not of the last ROW) it goes below (0), left (1) or right (2): how many such");
        land("33" + times("0", 9));
        due(1, x.marked(0, 0), "marked(0, 0)");
        due(2, x.marked(5, 2), "marked(5, 2)");
        due(3, x.marked(5, 2), "marked(5, 2) once more");
        goOn("35: Refused: others");
        int[][] others = {{-1, 0}, {6, 0}, {8, 0}, {9, 0}, {36, 0}, {LEAST, 0}, {MOST, 0}, {0, -1}, {0, 3}, {0, LEAST},
            {0, MOST}, {6, 3}};
        for (int[] o : others) {
            due(NONE, x.marked(o[0], o[1]), "marked(" + o[0] + ", " + o[1] + ")");
        }
        due(3, x.count(10), "marks");
        goOn("35: Refused: 10");
        for (int i = 4; i <= 10; i++) {
            due(i, x.marked(1, i % 3), "marked()");
        }
        due(NONE, x.marked(0, 0), "an eleventh");
        due(NONE, x.marked(0, 3), "an eleventh of others");
        due(10, x.count(10), "marks");
        land("26" + times("0", 12));
        due(1, x.marked(5, 1), "marked(5, 1)");
        due(NONE, x.marked(6, 1), "marked(6, 1)");
    }

    private static void wipedMarks() {
        begin("36: how many there were");
        due(0, x.wiped(), "wiped() of none");
        for (int i = 0; i < 10; i++) {
            x.marked(0, 2);
        }
        laws(0);
        due(10, x.wiped(), "wiped()");
        due(0, x.count(10), "marks");
        laws(64, 0, 0, 0);
        due(0, x.wiped(), "wiped() of none");
        due(1, x.marked(0, 0), "marked() anew");
        goOn("36: what was seen is not of it");
        x.seen(0, 0, 0);
        due(1, x.wiped(), "wiped()");
        due(1, x.count(9), "what was seen");
    }

    private static void laws(int want, long... numbers) {
        due(want, x.laws(), "laws()");
        row(numbers);
    }

    private static void lawsFit() {
        begin("37: no marks: all 64 laws fit; the least a, b, c");
        laws(64, 0, 0, 0);
        goOn("37: a, b, c, 0 .. 3 each");
        land("23" + "080" + "900");
        // Right is 8: better than 9 below, if b is below a.
        x.marked(0, 2);
        laws(24, 1, 0, 0);
        x.heap(1, 1);
        laws(0);
        x.cut(1, 2);
        // Right is 7: b is below 2 a: 2, 4, 4 of a 1, 2, 3.
        laws(40, 1, 0, 0);
        x.cut(1, 1);
        // Right is 6: b is below 3 a: 3, 4, 4.
        laws(44, 1, 0, 0);
        x.cut(1, 1);
        laws(48, 1, 0, 0);
        goOn("37: of equal ones below, left, right in this order");
        land("23" + "505" + "000");
        x.marked(1, 1);
        laws(0);
        x.wall(4);
        laws(64, 0, 0, 0);
        x.wiped();
        x.marked(1, 2);
        laws(0);
        x.wall(0);
        laws(64, 0, 0, 0);
        goOn("37: less c times w");
        land("22" + "0000");
        x.tides(1);
        // 0 and 2 are the bed, 1 and 3 are 1 high: from 1 left is b - c, below a.
        x.marked(1, 1);
        laws(6 + 10 + 13 + 15, 0, 0, 1);
        x.wiped();
        x.marked(1, 0);
        laws(64 - 44, 0, 0, 0);
        goOn("37: as they are when laws() is asked, as if its COURSE began there (a WALL there aside)");
        x.wall(1);
        laws(20, 0, 0, 0);
        x.wall(3);
        laws(0);
        x.wall(3);
        x.wall(0);
        laws(64, 0, 0, 0);
        goOn("37: nothing without");
        x.wall(3);
        laws(0);
        noRow(0);
        begin("37: a side without a FIELD");
        x.marked(0, 1);
        laws(0);
        x.wiped();
        x.marked(1, 2);
        laws(0);
    }

    // ---- harbours, tides by chance, another rule

    private static void barBounds() {
        begin("38: NONE: others");
        int[][] others = {{-1, 1}, {61, 1}, {LEAST, 1}, {MOST, 1}, {1, 0}, {1, -1}, {1, 10}, {1, LEAST}, {1, MOST}, {61, 10}};
        for (int[] o : others) {
            due(NONE, x.bar(o[0], o[1]), "bar(" + o[0] + ", " + o[1] + ")");
        }
        goOn("38: who can't has lost; 0: by none");
        for (int a = 1; a <= 9; a++) {
            due(0, x.bar(0, a), "bar(0, " + a + ")");
            due(1, x.bar(1, a), "bar(1, " + a + ")");
            // One cuts 1, and the other one can't cut 1 again.
            due(1, x.bar(2, a), "bar(2, " + a + ")");
        }
        due(1, x.bar(60, 1), "bar(60, 1)");
        due(0, x.count(12), "it tells no ROW");
    }

    private static void barWins() {
        for (int a = 1; a <= 9; a++) {
            begin("38: the least number by which the first one wins");
            int[][] wins = new int[61][10];
            for (int n = 0; n <= 60; n++) {
                for (int last = 0; last <= 9; last++) {
                    wins[n][last] = leastWin(wins, n, a, last);
                }
                due(wins[n][0], x.bar(n, a), "bar(" + n + ", " + a + ")");
            }
        }
    }

    private static int leastWin(int[][] wins, int n, int a, int last) {
        for (int cut = 1; cut <= Math.min(a, n); cut++) {
            if (cut != last && wins[n - cut][cut] == 0) {
                return cut;
            }
        }
        return 0;
    }

    private static void openBounds() {
        begin("39: NONE: others");
        x.open(1, 1, 5);
        int[][] others = {{0, 1, 5}, {13, 1, 5}, {-1, 1, 5}, {LEAST, 1, 5}, {MOST, 1, 5}, {5, 0, 5}, {5, 13, 5}, {5, -1, 5},
            {5, LEAST, 5}, {5, MOST, 5}, {5, 1, -1}, {5, 1, 11}, {5, 1, LEAST}, {5, 1, MOST}};
        for (int[] o : others) {
            due(NONE, x.open(o[0], o[1], o[2]), "open(" + o[0] + ", " + o[1] + ", " + o[2] + ")");
            row(1, 2);
        }
    }

    private static void openChances() {
        for (int n = 1; n <= 12; n++) {
            begin("39: how likely k one behind the other are open at some time");
            for (int k = 1; k <= 12; k++) {
                long[] ways = openTides(n, k);
                for (int p = 0; p <= 10; p += p == 0 || p == 9 ? 1 : 2) {
                    long upper = 0;
                    for (int open = 0; open <= n; open++) {
                        upper += ways[open] * power(p, open) * power(10 - p, n - open);
                    }
                    long lower = power(10, n);
                    long divisor = BigInteger.valueOf(upper).gcd(BigInteger.valueOf(lower)).longValue();
                    due(0, x.open(n, k, p), "open(" + n + ", " + k + ", " + p + ")");
                    due(2, x.count(12), "numbers of the row");
                    due(upper / divisor, x.row(0), "upper of open(" + n + ", " + k + ", " + p + ")");
                    due(lower / divisor, x.row(1), "lower of open(" + n + ", " + k + ", " + p + ")");
                }
            }
        }
    }

    /** By how many are open: in how many ways k one behind the other are. */
    private static long[] openTides(int n, int k) {
        long[] ways = new long[n + 1];
        String wanted = times("1", k);
        for (int tides = 0; tides < 1 << n; tides++) {
            if (Integer.toBinaryString(tides).contains(wanted)) {
                ways[Integer.bitCount(tides)]++;
            }
        }
        return ways;
    }

    private static long power(long base, int n) {
        return BigInteger.valueOf(base).pow(n).longValue();
    }

    private static void lawSigns() {
        begin("40: -10000 - p: the sign at p can't stand there (as rule())");
        x.open(1, 1, 5);
        law("x", -10000);
        law("h+", -10002);
        law("hh", -10001);
        law(times("h+", 19) + "hx", -10039);
        law(times("h+", 20), -10040);
        law(times("h+", 20) + "h", -10040);
        law(times("h", 80), -10001);
        row(1, 2);
        goOn("40: an empty one: none");
        rule("-s");
        law("", 0);
        row(2, 3);
    }

    private static void lawCourse() {
        begin("40: how many FIELDS it has by it, by THE RULE");
        law("-s", 1);
        row(3, 2);
        law("s", 0);
        row(2, 2);
        goOn("40: THE RULE stays");
        course(0, 0, 2);
        due(2, x.dislikes(0, 1), "DISLIKE");
        goOn("40: -2: it is a LAKE");
        x.wall(3);
        law("-s", LAKE);
        row(2, 2);
        x.wall(0);
        law("-s", LAKE);
        row(0, 0);
        goOn("40: of this TIDE");
        land("22" + "0000");
        x.tides(6);
        law("s-2*s*(t=6)", 1);
        row(3, 2);
        x.tides(1);
        law("s-2*s*(t=6)", 0);
        row(2, 2);
        law(times("-", 39) + "s", 1);
    }

    // ---- rests, years

    private static void restsBounds() {
        begin("41: NONE: another v");
        x.open(1, 1, 5);
        int[] others = {-1, 21, LEAST, MOST};
        for (int v : others) {
            due(NONE, x.rests(v), "rests(" + v + ")");
        }
        row(1, 2);
    }

    private static void restsPairs() {
        begin("41: Pairs by which neither would have more by another number alone");
        for (int v = 0; v <= 20; v++) {
            int pairs = 0;
            long least = -1;
            for (int pair = 99; pair >= 0; pair--) {
                boolean rests = true;
                for (int z = 0; z <= 9; z++) {
                    rests &= has(v, z, pair % 10) <= has(v, pair / 10, pair % 10);
                    rests &= has(v, z, pair / 10) <= has(v, pair % 10, pair / 10);
                }
                if (rests) {
                    pairs++;
                    least = pair;
                }
            }
            due(pairs, x.rests(v), "rests(" + v + ")");
            row(least / 10, least % 10);
        }
    }

    private static int has(int v, int own, int other) {
        int together = own + other > 9 ? 9 : own + other;
        int pays = own * 2 / 3;
        if (own > other) {
            pays++;
        }
        return v * together / 9 - pays;
    }

    private static void yearsBounds() {
        begin("42: NONE: another n");
        x.open(1, 1, 5);
        int[] others = {0, -1, 61, LEAST, MOST};
        for (int n : others) {
            due(NONE, x.years(1, n), "years(1, " + n + ")");
        }
        row(1, 2);
    }

    private static void yearsDraws() {
        int[] seeds = {0, 1, -1, 5, 14, 17, 12345, -12345, LEAST, MOST};
        String[] lands = {"220000", "22" + "9999", "25" + "0123456789", "33" + "121212121", "66" + times("3", 36)};
        int[] times = {1, 2, 3, 30, 59, 60};
        for (String land : lands) {
            for (int seed : seeds) {
                begin("42: n times (1 .. 60), drawn by " + seed + " on " + land);
                land(land);
                x.wall(0);
                x.tides(1);
                x.wall(0);
                for (int n : times) {
                    yearsByActs(land, seed, n);
                }
                due(1, x.count(3), "TIDE: it changes nothing");
                due(3, x.count(11), "what can be undone");
            }
        }
    }

    /** The same is done by acts on another object. */
    private static void yearsByActs(String land, int seed, int n) {
        RiverThinksAgain asked = x;
        x = new RiverThinksAgain();
        land(land);
        x.wall(0);
        x.tides(1);
        x.wall(0);
        int fields = land.length() - 2;
        int arrived = 0;
        BigInteger r = BigInteger.valueOf(seed & 0xffffffffL);
        for (int i = 0; i < n; i++) {
            r = next(r);
            int act = draw(r, 4);
            if (act < 2) {
                arrived += x.tides(1);
            } else if (act == 2) {
                r = next(r);
                int field = draw(r, fields);
                r = next(r);
                x.cut(field, draw(r, 3) + 1);
            } else {
                r = next(r);
                x.wall(draw(r, fields));
            }
        }
        int sum = x.count(5);
        int lakes = x.count(4);
        x = asked;
        due(arrived, x.years(seed, n), "years(" + seed + ", " + n + ")");
        row(sum, lakes);
    }

    private static BigInteger next(BigInteger r) {
        return r.multiply(BigInteger.valueOf(1103515245)).add(BigInteger.valueOf(12345))
            .mod(BigInteger.valueOf(1L << 32));
    }

    private static int draw(BigInteger r, int n) {
        return r.divide(BigInteger.valueOf(65536)).mod(BigInteger.valueOf(n)).intValue();
    }

    // ---- kept

    private static void keepNumbers() {
        begin("43: kept under a number 0 .. 2. Refused: others");
        int[] others = {-1, 3, 32, 64, LEAST, MOST};
        for (int i : others) {
            due(false, x.keep(i), "keep(" + i + ")");
            due(false, x.again(i), "again(" + i + ")");
        }
        for (int i = 0; i <= 2; i++) {
            due(false, x.again(i), "again(" + i + ") of nothing");
        }
        for (int i = 0; i <= 2; i++) {
            x.heap(i, i + 1);
            due(true, x.keep(i), "keep(" + i + ")");
            due(i + 1, x.count(11), "what can be undone");
        }
        due(true, x.again(0), "again(0)");
        heights(1, 0, 0, 0);
        due(true, x.again(2), "again(2)");
        heights(1, 2, 3, 0);
        due(true, x.again(1), "again(1)");
        heights(1, 2, 0, 0);
        goOn("43: kept anew under a number");
        x.heap(3, 9);
        due(true, x.keep(1), "keep(1)");
        x.cut(3, 9);
        x.again(1);
        heights(1, 2, 0, 9);
        goOn("43: What undo() brings back is kept, and no more");
        force("7", 1);
        rule("h");
        x.seen(0, 0, 0);
        x.marked(0, 0);
        x.open(1, 1, 5);
        x.sign(0);
        x.again(1);
        due(7, x.count(8), "FORCE");
        due(1, x.dislikes(0, 1), "DISLIKE");
        due(1, x.count(9), "what was seen");
        due(1, x.count(10), "marks");
        due(4, x.count(13), "signs");
        row(1, 2);
    }

    private static void againKept() {
        begin("44: It is as it was kept: HEIGHTS, WALLS, THE BED, SOURCE, TIDE, LAKES");
        land("23" + "123456");
        x.source(1);
        x.wall(4);
        x.tides(2);
        x.wall(1);
        x.tides(1);
        int[][] were = state();
        due(1, were[0][4], "LAKES");
        x.keep(2);
        x.source(2);
        x.wall(1);
        x.wall(5);
        x.tides(9);
        x.heap(0, 1);
        due(true, x.again(2), "again(2)");
        int[][] are = state();
        for (int i = 0; i < were.length; i++) {
            for (int k = 0; k < were[i].length; k++) {
                due(were[i][k], are[i][k], "state " + i + ", " + k);
            }
        }
        due(0, x.count(11), "what can be undone");
        goOn("44: Refused: LAND came since");
        land("23" + "123456");
        due(false, x.again(2), "again(2)");
        due(true, x.keep(0), "keep(0)");
        due(false, x.again(2), "again(2)");
        due(true, x.again(0), "again(0)");
        landIsWrong("2312345", 7);
        due(true, x.again(0), "again(0) behind a refused land()");
        goOn("44: Refused: nothing kept");
        x.heap(0, 1);
        due(false, x.again(1), "again(1)");
        due(1, x.count(11), "what can be undone");
    }

    private static int[][] state() {
        int[][] state = new int[7][8];
        for (int i = 0; i < 8; i++) {
            state[0][i] = x.count(i);
        }
        for (int f = 0; f < 6; f++) {
            for (int what = 0; what <= 2; what++) {
                state[f + 1][what] = x.field(f, what);
            }
        }
        return state;
    }

    private static void counts() {
        begin("45: -100 for another what");
        int[] others = {-1, 14, 15, -100, LEAST, MOST};
        for (int what : others) {
            due(-100, x.count(what), "count(" + what + ")");
        }
        goOn("45: what 0 .. 13");
        land("34" + times("1", 12));
        force("34", 2);
        x.source(2);
        x.wall(0);
        x.tides(1);
        x.source(0);
        x.tides(2);
        x.source(3);
        x.seen(0, 0, 1);
        x.seen(0, 1, 1);
        x.seen(0, 1, 1);
        x.marked(0, 0);
        x.marked(0, 0);
        x.sign(0);
        x.end(3);
        x.course();
        // Of twelve 2, 6 and 10 were scoured; 1, 3, 5, 7, 9 and 11 lay beside; then it had no course twice.
        int[] want = {3, 4, 3, 3, 2, 12 - 3 + 6, 1, 0, 4, 3, 2, 6, 3, 3};
        for (int i = 0; i < want.length; i++) {
            due(want[i], x.count(i), "count(" + i + ")");
        }
    }

    private static void rows() {
        begin("46: NoSuchElementException: none such");
        noRow(0);
        noRow(-1);
        int[] others = {-1, 2, 35, 36, LEAST, MOST};
        x.open(12, 12, 1);
        due(1, x.row(0), "row(0)");
        due(1000000000000L, x.row(1), "row(1), a long");
        for (int i : others) {
            noRow(i);
        }
        goOn("46: of an empty ROW");
        x.sends(0);
        noRow(0);
        land("66" + times("0", 36));
        rule("-s");
        x.course();
        due(35, x.row(30), "row(30)");
        noRow(31);
        x.draught();
        noRow(1);
    }

    private static void allCallsOfAnObject() {
        begin("An object is used for at most 512 calls");
        for (int i = 0; i < 510; i++) {
            x.tides(60);
        }
        due(510 * 60, x.count(3), "TIDE");
        due(15, x.count(11), "what can be undone");
    }
}
