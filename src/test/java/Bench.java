import java.util.NoSuchElementException;
import java.util.function.LongSupplier;

/** What the tests by hand have in common: an object under test, texts for it, and answers that are due. */
abstract class Bench {
    static final int NONE = RiverThinksAgain.NONE;
    static final int LAKE = -2;
    static RiverThinksAgain x;
    private static String place = "";
    private static int asked;
    private static int wrong;

    /** What follows is asked of a new object. */
    static void begin(int promise) {
        begin("promise " + promise);
    }

    static void begin(String newPlace) {
        x = new RiverThinksAgain();
        goOn(newPlace);
    }

    static void goOn(String newPlace) {
        place = newPlace;
    }

    static void stop() {
        System.out.println(asked + " answers, " + wrong + " not as due");
        System.exit(wrong == 0 && asked > 0 ? 0 : 1);
    }

    static void due(long want, long got, String what) {
        asked++;
        if (want != got) {
            wrong++;
            System.out.println(place + ": " + what + " answered " + got + ", due is " + want);
        }
    }

    static void due(boolean want, boolean got, String what) {
        due(want ? 1 : 0, got ? 1 : 0, what);
    }

    static void row(long... numbers) {
        due(numbers.length, x.count(12), "numbers of the row");
        for (int i = 0; i < numbers.length && i < x.count(12); i++) {
            due(numbers[i], x.row(i), "row(" + i + ")");
        }
    }

    /** The text is these signs alone. */
    static void text(String signs) {
        due(true, x.end(0), "end(0)");
        String padded = signs + "zzz";
        for (int i = 0; i < signs.length(); i += 4) {
            x.sign(padded.charAt(i) << 24 | padded.charAt(i + 1) << 16 | padded.charAt(i + 2) << 8
                | padded.charAt(i + 3));
        }
        due(true, x.end(signs.length()), "end(" + signs.length() + ")");
        due(signs.length(), x.count(13), "signs of the text");
    }

    static void land(String signs) {
        text(signs);
        due(signs.length() - 2, x.land(), "land() of " + signs);
        due(0, x.count(13), "signs of the text behind land()");
    }

    static void landIsWrong(String signs, int at) {
        text(signs);
        due(-1 - at, x.land(), "land() of " + signs);
        due(0, x.count(13), "signs of the text behind land()");
    }

    static void force(String signs, int want) {
        text(signs);
        due(want, x.force(), "force() of " + signs);
        due(0, x.count(13), "signs of the text behind force()");
    }

    static void rule(String signs) {
        text(signs);
        due(0, x.rule(), "rule() of " + signs);
        due(0, x.count(13), "signs of the text behind rule()");
    }

    static void ruleIsWrong(String signs, int at) {
        text(signs);
        due(-1 - at, x.rule(), "rule() of " + signs);
        due(0, x.count(13), "signs of the text behind rule()");
        law(signs, -10000 - at);
    }

    static void law(String signs, int want) {
        text(signs);
        due(want, x.law(), "law() of " + signs);
        due(0, x.count(13), "signs of the text behind law()");
    }

    static void dislike(String signs, int want, int field, int way) {
        rule(signs);
        due(want, x.dislikes(field, way), "dislikes(" + field + ", " + way + ") by " + signs);
    }

    static void year(String signs, int want) {
        text(signs);
        due(want, x.year(), "year() of " + signs);
        due(0, x.count(13), "signs of the text behind year()");
    }

    static void timetable(String ships, int n, int want) {
        text(ships);
        due(want, x.timetable(n), "timetable(" + n + ") of " + ships);
        due(0, x.count(13), "signs of the text behind timetable()");
    }

    static void course(int want, long... fields) {
        due(want, x.course(), "course()");
        row(fields);
    }

    static void heights(int... heights) {
        for (int i = 0; i < heights.length; i++) {
            due(heights[i], x.field(i, 0), "field(" + i + ", 0)");
        }
    }

    static void walls(int... fields) {
        for (int field : fields) {
            due(x.count(6) + 1, x.wall(field), "wall(" + field + ")");
        }
    }

    static void noField(int field, int what) {
        isNotThere(() -> x.field(field, what), "field(" + field + ", " + what + ")");
    }

    static void noDislike(int field, int way) {
        isNotThere(() -> x.dislikes(field, way), "dislikes(" + field + ", " + way + ")");
    }

    static void noRow(int i) {
        isNotThere(() -> x.row(i), "row(" + i + ")");
    }

    private static void isNotThere(LongSupplier call, String what) {
        boolean threw = false;
        try {
            call.getAsLong();
        } catch (NoSuchElementException e) {
            threw = true;
        }
        due(true, threw, what + " throws");
    }

    static String times(String signs, int n) {
        return signs.repeat(n);
    }
}
