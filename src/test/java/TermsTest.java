/** The bounds that the document's terms name, a test for each; what is due is reckoned from its words. */
public final class TermsTest extends Bench {
    public static void main(String[] args) {
        rowsAndColumns();
        heightsOfLand();
        fieldsGoByRows();
        source();
        eightWalls();
        tidesAreTold();
        ruleSigns();
        ruleNumbers();
        ruleComparisons();
        ruleBinds();
        ruleDivides();
        ruleInItself();
        ruleAsInts();
        ruleThings();
        allGoByTheRule();
        courseBegins();
        courseEnds();
        courseChooses();
        courseSitsDown();
        tideScours();
        tideSilts();
        tideOfALake();
        tideOfNoCourse();
        tideLeavesABed();
        lakes();
        ships();
        rowIsToldLast();
        sets();
        fractions();
        stop();
    }

    // ---- 1. LAND

    private static void rowsAndColumns() {
        begin("ROWS and COLUMNS (at first 2 and 2)");
        due(2, x.count(0), "count(0)");
        due(2, x.count(1), "count(1)");
        goOn("ROWS and COLUMNS, 2 to 6 each");
        for (int n = 0; n <= 9; n++) {
            if (n < 2 || n > 6) {
                landIsWrong(n + "2" + times("0", 2 * n), 0);
                landIsWrong("2" + n + times("0", 2 * n), 1);
                continue;
            }
            land(n + "2" + times("0", 2 * n));
            due(n, x.count(0), "ROWS");
            due(2, x.count(1), "COLUMNS");
            land("2" + n + times("0", 2 * n));
            due(2, x.count(0), "ROWS");
            due(n, x.count(1), "COLUMNS");
        }
        land("66" + times("0", 36));
        due(6, x.count(0), "ROWS");
        due(6, x.count(1), "COLUMNS");
        landIsWrong("/20000", 0);
        landIsWrong(":20000", 0);
        landIsWrong("2/0000", 1);
        landIsWrong("2:0000", 1);
    }

    private static void heightsOfLand() {
        begin("HEIGHT (at first 0)");
        heights(0, 0, 0, 0);
        goOn("HEIGHT 0 .. 9, a digit for each FIELD");
        land("25" + "0123456789");
        heights(0, 1, 2, 3, 4, 5, 6, 7, 8, 9);
        landIsWrong("22/000", 2);
        landIsWrong("22000:", 5);
        heights(0, 1, 2, 3, 4, 5, 6, 7, 8, 9);
    }

    private static void fieldsGoByRows() {
        begin("FIELDS by rows, from 0 on");
        land("23123456");
        heights(1, 2, 3, 4, 5, 6);
        noField(-1, 0);
        noField(6, 0);
        int[] places = {0, 1, 2, 10, 11, 12};
        for (int i = 0; i < places.length; i++) {
            dislike("r*10+c", places[i], i, 0);
        }
        land("32123456");
        int[] others = {0, 1, 10, 11, 20, 21};
        for (int i = 0; i < others.length; i++) {
            dislike("r*10+c", others[i], i, 0);
        }
        land("66" + times("0", 36));
        dislike("r*10+c", 55, 35, 0);
        dislike("r*10+c", 5, 5, 0);
        dislike("r*10+c", 10, 6, 0);
    }

    private static void source() {
        begin("SOURCE (at first 0)");
        due(0, x.count(2), "count(2)");
        goOn("SOURCE: a FIELD of ROW 0");
        land("26" + times("0", 12));
        for (int column = 5; column >= 0; column--) {
            x.source(column);
            course(column, column, 6 + column);
        }
        due(NONE, x.source(6), "source(6)");
    }

    private static void eightWalls() {
        begin("a WALL or none");
        for (int i = 0; i < 4; i++) {
            due(0, x.field(i, 1), "at first none");
        }
        goOn("8 WALLS at most");
        land("66" + times("0", 36));
        walls(35, 34, 33, 32, 31, 30, 29, 0);
        due(-2, x.wall(1), "a ninth one");
        due(8, x.count(6), "WALLS");
        due(0, x.field(1, 1), "field(1, 1)");
    }

    private static void tidesAreTold() {
        begin("TIDES (at first 0), TIDE (at first 0)");
        due(0, x.count(3), "TIDE");
        for (int tide = 0; tide < 3; tide++) {
            due(0, x.count(8), "FORCE of TIDE " + tide);
            x.tides(1);
        }
        begin("TIDES: 1 to 20 digits");
        force("7", 1);
        due(7, x.count(8), "FORCE");
        force("", -1);
        force(times("3", 21), -21);
        due(7, x.count(8), "FORCE");
        force(times("3", 20), 20);
        due(3, x.count(8), "FORCE");
        force("/", -1);
        force(":", -1);
        force("0", 1);
        force("9", 1);
        begin("FORCE: the digit at TIDE by how many there are (rest)");
        force("19", 2);
        due(1, x.count(8), "FORCE of TIDE 0");
        x.tides(1);
        due(9, x.count(8), "FORCE of TIDE 1");
        x.tides(1);
        due(1, x.count(8), "FORCE of TIDE 2");
        force("01234567890123456789", 20);
        x.tides(17);
        due(9, x.count(8), "FORCE of TIDE 19");
        x.tides(1);
        due(0, x.count(8), "FORCE of TIDE 20");
        x.tides(1);
        due(1, x.count(8), "FORCE of TIDE 21");
    }

    // ---- 1. THE RULE

    private static void ruleSigns() {
        begin("THE RULE (at first none: h+s*2-w)");
        land("229000");
        due(9, x.dislikes(0, 0), "h");
        due(9 + 2, x.dislikes(0, 1), "h+s*2");
        x.tides(1);
        due(8 + 2 - 1, x.dislikes(0, 1), "h+s*2-w");
        goOn("THE RULE: at most 40 signs");
        dislike(times("1+", 19) + "11", 30, 0, 0);
        ruleIsWrong(times("1+", 19) + "111", 40);
        ruleIsWrong(times("1", 3) + times("+1", 18) + "+10", 40);
        due(30, x.dislikes(0, 0), "the rule stays");
        goOn("THE RULE: an empty one: none");
        rule("");
        due(8 + 2 - 1, x.dislikes(0, 1), "h+s*2-w");
    }

    private static void ruleNumbers() {
        begin("a NUMBER of 1 to 3 digits");
        dislike("0", 0, 0, 0);
        dislike("9", 9, 0, 0);
        dislike("10", 10, 0, 0);
        dislike("99", 99, 0, 0);
        dislike("100", 100, 0, 0);
        dislike("999", 999, 0, 0);
        dislike("000", 0, 0, 0);
        dislike("001+010", 11, 0, 0);
        ruleIsWrong("1000", 3);
        ruleIsWrong("0000", 3);
        ruleIsWrong("h+1000", 5);
        ruleIsWrong("(1234)", 4);
        ruleIsWrong("h9", 1);
        ruleIsWrong("(h)9", 3);
        ruleIsWrong("(9)9", 3);
        ruleIsWrong("(h+9)9", 5);
        ruleIsWrong("9h", 1);
        ruleIsWrong("9(", 1);
        ruleIsWrong("1 2", 1);
        ruleIsWrong("/", 0);
        ruleIsWrong(":", 0);
        dislike("999+1", 1000, 0, 0);
        dislike("123-4+567", 686, 0, 0);
    }

    private static void ruleComparisons() {
        begin("< > = : two; 1 or 0");
        String[] rules = {"1<2", "2<2", "3<2", "1>2", "2>2", "3>2", "1=2", "2=2", "3=2"};
        int[] answers = {1, 0, 0, 0, 0, 1, 0, 1, 0};
        for (int i = 0; i < rules.length; i++) {
            dislike(rules[i], answers[i], 0, 0);
        }
        ruleIsWrong("<", 0);
        ruleIsWrong("=1", 0);
        ruleIsWrong("1>", 2);
        ruleIsWrong("1<=2", 2);
        ruleIsWrong("1==2", 2);
        ruleIsWrong("(1<)", 3);
        goOn("< > = : not one behind the other");
        for (String one : new String[] {"<", ">", "="}) {
            for (String other : new String[] {"<", ">", "="}) {
                ruleIsWrong("1" + one + "2" + other + "3", 3);
                ruleIsWrong("(1" + one + "2+3" + other + "4)", 6);
                ruleIsWrong("1" + one + "(2)*3" + other + "4", 7);
            }
        }
        dislike("(1<2)<3", 1, 0, 0);
        dislike("1<(2<3)", 0, 0, 0);
        dislike("(2>1)=(3>2)", 1, 0, 0);
        dislike("(1<2)+(1<2)", 2, 0, 0);
        ruleIsWrong("(1<2)<3<4", 7);
        ruleIsWrong("1<(2<3)<4", 7);
    }

    private static void ruleBinds() {
        begin("< > = bind least");
        dislike("1+1<1+2", 1, 0, 0);
        dislike("2*3=3+3", 1, 0, 0);
        dislike("1<2*0", 0, 0, 0);
        dislike("5-4>0", 1, 0, 0);
        goOn("then + - (from the left)");
        dislike("9-3-2", 4, 0, 0);
        dislike("9-3+2", 8, 0, 0);
        dislike("9+3-2-1", 9, 0, 0);
        goOn("then * / (from the left)");
        dislike("2+3*4", 14, 0, 0);
        dislike("20-6/2", 17, 0, 0);
        dislike("7/2*2", 6, 0, 0);
        dislike("2*7/4", 3, 0, 0);
        dislike("100/10/5", 2, 0, 0);
        dislike("2*3+4*5-6/3", 24, 0, 0);
        goOn("then - ahead of a thing (any many)");
        dislike("-3", -3, 0, 0);
        dislike("--3", 3, 0, 0);
        dislike("-----3", -3, 0, 0);
        dislike("4--3", 7, 0, 0);
        dislike("4---3", 1, 0, 0);
        dislike("4*-3", -12, 0, 0);
        dislike("12/--3", 4, 0, 0);
        dislike("-3+4", 1, 0, 0);
        dislike("-(3+4)", -7, 0, 0);
        dislike("-(3)<-2", 1, 0, 0);
        dislike("1<-1", 0, 0, 0);
        dislike(times("-", 39) + "3", -3, 0, 0);
        ruleIsWrong("-", 1);
        ruleIsWrong("3-", 2);
        ruleIsWrong("3+-", 3);
        ruleIsWrong("3-+3", 2);
        ruleIsWrong("+3", 0);
        ruleIsWrong("*3", 0);
        ruleIsWrong("3*/3", 2);
        ruleIsWrong("-)", 1);
    }

    private static void ruleDivides() {
        begin("/ by 0: 0");
        dislike("7/0", 0, 0, 0);
        dislike("0/0", 0, 0, 0);
        dislike("-7/0", 0, 0, 0);
        dislike("7/(2-2)", 0, 0, 0);
        dislike("7/h", 0, 0, 0);
        dislike("5+7/0*3", 5, 0, 0);
        goOn("/ cut to 0");
        dislike("7/2", 3, 0, 0);
        dislike("-7/2", -3, 0, 0);
        dislike("7/-2", -3, 0, 0);
        dislike("-7/-2", 3, 0, 0);
        dislike("-1/2", 0, 0, 0);
        dislike("(0-7)/2", -3, 0, 0);
        dislike("0/7", 0, 0, 0);
    }

    private static void ruleInItself() {
        begin("an EXPRESSION in ( ) (at most 4 in one another)");
        dislike("(5)", 5, 0, 0);
        dislike("((((5))))", 5, 0, 0);
        dislike("((((1+2)*2)+1)*2)", 14, 0, 0);
        dislike("((((1))))+((((2))))-(1)", 2, 0, 0);
        dislike("(((1)+(1))*((1)+(1)))", 4, 0, 0);
        ruleIsWrong("(((((5)))))", 4);
        ruleIsWrong("((((-(5)))))", 5);
        ruleIsWrong("((((1))+(((1)))))", 10);
        ruleIsWrong("((((1+(", 6);
        ruleIsWrong("()", 1);
        ruleIsWrong("(", 1);
        ruleIsWrong("((1)", 4);
        ruleIsWrong("(1))", 3);
        ruleIsWrong("(1)(", 3);
        ruleIsWrong("(1+)", 3);
        ruleIsWrong("[1]", 0);
    }

    private static void ruleAsInts() {
        begin("As ints");
        // 2147483647 is 2^31 - 1: one more goes round.
        String most = "(128*256*256*256-1)";
        dislike(most, Integer.MAX_VALUE, 0, 0);
        dislike(most + "+1", Integer.MIN_VALUE, 0, 0);
        dislike("-" + most + "-1", Integer.MIN_VALUE, 0, 0);
        dislike("-" + most + "-2", Integer.MAX_VALUE, 0, 0);
        dislike(most + "*2", -2, 0, 0);
        dislike("256*256*256*256", 0, 0, 0);
        dislike("999*999*999*999*999*999*999*999*999*999", wrapped(999, 10), 0, 0);
        dislike("-(128*256*256*256)", Integer.MIN_VALUE, 0, 0);
        dislike("128*256*256*256/-1", Integer.MIN_VALUE, 0, 0);
        goOn("As ints they are compared, not by what is between them");
        dislike("128*256*256*256<1", 1, 0, 0);
        dislike("128*256*256*256>1", 0, 0, 0);
        dislike("1>128*256*256*256", 1, 0, 0);
        dislike(most + ">-2", 1, 0, 0);
        rule("1-s+s*(128*256*256*256)");
        course(1, 0, 1, 3);
        rule("s-(1-s)*(128*256*256*256)");
        course(0, 0, 2);
    }

    private static int wrapped(int factor, int n) {
        int product = 1;
        for (int i = 0; i < n; i++) {
            product *= factor;
        }
        return product;
    }

    private static void ruleThings() {
        begin("h HEIGHT");
        land("25" + "0123456789");
        for (int i = 0; i < 10; i++) {
            dislike("h", i, i, i % 2);
        }
        begin("s 1 if it is beside the one where it is, 0 if below it");
        dislike("s", 0, 3, 0);
        dislike("s", 1, 3, 1);
        begin("w 1 if it was on THE BED, else 0");
        dislike("w", 0, 0, 0);
        x.tides(1);
        int[] bed = {1, 0, 1, 0};
        for (int i = 0; i < 4; i++) {
            dislike("w", bed[i], i, 0);
        }
        begin("f FORCE of this TIDE");
        force("059", 3);
        int[] forces = {0, 5, 9, 0};
        for (int force : forces) {
            dislike("f", force, 3, 1);
            x.tides(1);
        }
        begin("t TIDE by 7 (rest)");
        for (int tide = 0; tide <= 15; tide++) {
            dislike("t", tide % 7, 1, 0);
            x.tides(1);
        }
        begin("r its ROW, c its COLUMN");
        land("34" + times("0", 12));
        for (int i = 0; i < 12; i++) {
            dislike("r", i / 4, i, 0);
            dislike("c", i % 4, i, 1);
        }
        goOn("things are h s w f t r c");
        for (char sign = 1; sign < 256; sign++) {
            if ("hswftrc0123456789-(".indexOf(sign) < 0) {
                due(sign << 24, signAlone(sign), "one sign");
                due(-1, x.rule(), "rule() of the sign " + (int) sign);
            }
        }
    }

    private static int signAlone(char sign) {
        x.end(0);
        x.sign(sign << 24);
        x.end(1);
        return sign << 24;
    }

    /** By each of these it goes beside first: 0, 1, 3. */
    private static void allGoByTheRule() {
        String[] rules = {"-s", "s-2*s*f", "0-(s+1>f)*s", "9-(h+s)*2+s"};
        for (String rule : rules) {
            begin("all that asks for THE COURSE goes by THE RULE, and by TIDES: " + rule);
            land("220000");
            force("1", 1);
            rule(rule);
            course(1, 0, 1, 3);
            int[] on = {1, 1, 0, 1};
            for (int i = 0; i < on.length; i++) {
                due(on[i], x.field(i, 3), "field(" + i + ", 3)");
            }
            due(1, x.ahead(0), "ahead(0)");
            row(3, 0);
            x.ahead(1);
            due(1, x.row(1), "HEIGHT of all together in a TIDE");
            due(2, x.mouths(1), "mouths(1)");
            row(0, 1, 0);
            due(4, x.dry(1), "dry(1)");
            row(1, 3);
            due(1, x.sends(0), "sends(0)");
            row(1);
            due(0, x.sends(1), "sends(1)");
            due(2, x.longest(), "longest()");
            row(3, 3);
            text("");
            due(0, x.law(), "law() of none");
            row(2, 3);
            x.seen(0, 2, 1);
            due(2, x.fits(), "fits()");
            x.forget();
            due(1, x.years(0, 1), "years(0, 1): a TIDE");
            row(1, 0);
            due(1, x.sheet(2, 2, 0, 1), "sheet()");
            due(8, x.draught(), "draught()");
            row(1);
            timetable("98", 1, 1);
            row(NONE, 0);
            x.sheet(3, 0, 0, 0);
            year("n1", 1);
            due(3, x.count(7), "THE BED of a year");
            x.undo();
            due(1, x.tides(1), "tides(1)");
            row(1, 3);
        }
    }

    // ---- 1. THE COURSE

    private static void courseBegins() {
        begin("THE COURSE begins at SOURCE");
        course(0, 0, 2);
        x.source(1);
        course(1, 1, 3);
        goOn("a WALL there: there is none, it has no FIELDS, and it is a LAKE");
        x.wall(1);
        course(LAKE);
        for (int i = 0; i < 4; i++) {
            due(0, x.field(i, 3), "field(" + i + ", 3)");
        }
    }

    private static void courseEnds() {
        begin("from a FIELD of the last ROW it comes to THE SEA: it ends");
        land("23" + "000" + "900");
        rule("-s*9");
        // It would like 4 best, but 3 is of the last row.
        x.wall(1);
        course(0, 0, 3);
        x.wall(1);
        course(2, 0, 1, 2, 5);
        land("62" + times("0", 12));
        rule("s");
        course(0, 0, 2, 4, 6, 8, 10);
    }

    private static void courseChooses() {
        begin("below, left or right (in this order): of equal ones the first");
        land("33" + times("0", 9));
        x.source(1);
        rule("0");
        course(1, 1, 4, 7);
        x.wall(4);
        course(0, 1, 0, 3, 6);
        x.wall(0);
        course(2, 1, 2, 5, 8);
        begin("the least DISLIKE");
        land("33" + "201" + "999" + "999");
        x.source(1);
        rule("h");
        course(2, 1, 2, 5, 8);
        land("33" + "109" + "999" + "999");
        x.source(1);
        course(0, 1, 0, 3, 6);
        land("33" + "102" + "111" + "111");
        x.source(1);
        rule("-h");
        course(2, 1, 2, 5, 8);
        begin("that has no WALL");
        x.wall(2);
        course(1, 0, 1, 3);
        begin("not on this COURSE yet");
        land("33" + times("0", 9));
        rule("-s");
        // Beside is liked better than below, but there it was.
        course(0, 0, 1, 2, 5, 4, 3, 6);
    }

    private static void courseSitsDown() {
        begin("if there is none, it SITS DOWN: it ends, and is a LAKE");
        x.wall(1);
        x.wall(2);
        course(LAKE, 0);
        begin("it SITS DOWN, it never goes up");
        land("33" + times("0", 9));
        walls(6, 7, 8);
        course(LAKE, 0, 3, 4, 5);
        due(0, x.sits(), "sits()");
        row(5);
        begin("it SITS DOWN, it never goes back");
        land("34" + times("0", 12));
        walls(4, 5, 6, 7);
        x.source(2);
        course(LAKE, 2, 1, 0);
        begin("no FIELD is beside the last one of another ROW");
        land("33" + times("0", 9));
        x.source(2);
        walls(1, 5);
        course(LAKE, 2);
        land("33" + times("0", 9));
        walls(1, 3);
        course(LAKE, 0);
    }

    // ---- 1. A TIDE goes by

    /** Down, right along row 1 and down again: 0, 3, 4, 5, 8. */
    private static void bentRiver(String heights) {
        begin("A TIDE goes by");
        land("33" + heights);
    }

    private static void tideScours() {
        bentRiver("321" + "123" + "990");
        rule("s-2*s*(r=1)");
        course(2, 0, 3, 4, 5, 8);
        goOn("HEIGHT of each FIELD on it is 1 less (0 at least)");
        due(1, x.tides(1), "tides(1)");
        due(2, x.field(0, 0), "3 less 1");
        due(0, x.field(3, 0), "1 less 1");
        due(1, x.field(4, 0), "2 less 1");
        due(0, x.field(8, 0), "0 at least");
        x.tides(1);
        due(0, x.field(3, 0), "0 at least");
        goOn("TIDE is 1 more");
        due(2, x.count(3), "TIDE");
    }

    private static void tideSilts() {
        bentRiver("055" + "000" + "890");
        course(2, 0, 3, 4, 5, 8);
        goOn("beside one that is on it (above, below, left or right), is 1 more");
        due(1, x.tides(1), "tides(1)");
        // 1 is beside 0 and above 4, 2 above 5, 6 below 3; 7 is below 4 and beside 8.
        heights(0, 6, 6, 0, 0, 0, 9, 9, 0);
        row(30, 5);
        goOn("9 at most");
        x.tides(1);
        heights(0, 7, 7, 0, 0, 0, 9, 9, 0);
        bentRiver("055" + "000" + "890");
        x.wall(1);
        x.wall(7);
        x.tides(1);
        goOn("each FIELD without a WALL");
        heights(0, 5, 6, 0, 0, 0, 9, 9, 0);
        begin("beside one: not one further, not across, not at the other end of the rows");
        land("44" + times("0", 16));
        x.tides(1);
        heights(0, 1, 0, 0, 0, 1, 0, 0, 0, 1, 0, 0, 0, 1, 0, 0);
        land("44" + times("0", 16));
        x.source(3);
        x.tides(1);
        heights(0, 0, 1, 0, 0, 0, 1, 0, 0, 0, 1, 0, 0, 0, 1, 0);
        land("44" + times("0", 16));
        x.source(1);
        x.tides(1);
        heights(1, 0, 1, 0, 1, 0, 1, 0, 1, 0, 1, 0, 1, 0, 1, 0);
        begin("beside one: not where it only touches by a corner");
        land("33" + times("0", 9));
        walls(1, 3);
        x.tides(1);
        heights(3, 0, 0, 0, 0, 0, 0, 0, 0);
    }

    private static void tideOfALake() {
        begin("a LAKE: HEIGHT of the FIELD where it SITS DOWN is 3 more (behind that; 9 at most)");
        int[] then = {3, 3, 4, 5, 6, 7, 8, 9, 9, 9};
        for (int height = 0; height <= 9; height++) {
            land("22" + height + "000");
            walls(1, 2);
            due(0, x.tides(1), "tides(1)");
            heights(then[height], 0, 0, 0);
            row(then[height], 1);
            due(1, x.count(4), "LAKES");
        }
        begin("3 more where it SITS DOWN, not at SOURCE");
        land("22" + "5500");
        walls(2, 3);
        x.tides(1);
        heights(4, 7, 0, 0);
    }

    private static void tideOfNoCourse() {
        begin("A TIDE without a COURSE");
        land("221111");
        x.tides(1);
        x.wall(0);
        due(0, x.tides(1), "tides(1)");
        heights(0, 2, 0, 2);
        row(4, 0);
        due(0, x.count(7), "THE BED is the FIELDS of THE COURSE");
        due(1, x.count(4), "LAKES is 1 more, if it is one");
        due(2, x.count(3), "TIDE is 1 more");
    }

    private static void tideLeavesABed() {
        begin("THE BED (at first none)");
        for (int i = 0; i < 4; i++) {
            due(0, x.field(i, 2), "field(" + i + ", 2)");
        }
        goOn("THE BED is the FIELDS of THE COURSE");
        x.tides(1);
        int[] first = {1, 0, 1, 0};
        int[] second = {0, 1, 0, 1};
        for (int i = 0; i < 4; i++) {
            due(first[i], x.field(i, 2), "field(" + i + ", 2)");
        }
        x.source(1);
        for (int i = 0; i < 4; i++) {
            due(first[i], x.field(i, 2), "field(" + i + ", 2), the source moved");
        }
        rule("s");
        x.tides(1);
        for (int i = 0; i < 4; i++) {
            due(second[i], x.field(i, 2), "field(" + i + ", 2), of the latest alone");
        }
    }

    private static void lakes() {
        begin("LAKES (at first 0) is 1 more, if it is one");
        due(0, x.count(4), "LAKES");
        x.tides(3);
        due(0, x.count(4), "LAKES");
        walls(1, 2);
        x.tides(3);
        due(3, x.count(4), "LAKES");
        goOn("LAKES (0 .. 9999)");
        for (int i = 0; i < 37; i++) {
            year(times("n9", 30), 30);
        }
        due(9993, x.count(4), "LAKES");
        x.tides(5);
        due(9998, x.count(4), "LAKES");
        x.tides(1);
        due(9999, x.count(4), "LAKES");
        x.tides(1);
        due(9999, x.count(4), "LAKES are 9999 at most");
        x.tides(60);
        due(9999, x.count(4), "LAKES are 9999 at most");
        due(3 + 9993 - 3 + 5 + 1 + 1 + 60 + 3, x.count(3), "TIDE goes on");
        due(9999, x.undo() < 0 ? 0 : x.count(4), "LAKES as ahead of it");
    }

    private static void ships() {
        begin("a SHIP of DRAUGHT 1 .. 9: HEIGHT of no FIELD on it is above 9 less DRAUGHT");
        for (int height = 0; height <= 9; height++) {
            land("22" + "0" + "0" + height + "0");
            x.wall(1);
            due(9 - height, x.draught(), "draught() over " + height);
            if (height < 9) {
                timetable("" + (9 - height), 1, 1);
                row(0);
            }
            if (height > 0) {
                timetable("" + (10 - height), 1, 0);
                row(NONE);
            }
        }
        goOn("a SHIP comes in, if THE COURSE comes to THE SEA");
        land("220000");
        walls(1, 2);
        due(0, x.draught(), "draught() of a lake");
        timetable("1", 1, 0);
        row(NONE);
    }

    // ---- 2. ROW

    private static void rowIsToldLast() {
        begin("ROW: numbers told last by a call that says so");
        row();
        x.open(2, 1, 5);
        row(3, 4);
        x.sign(0);
        x.end(1);
        x.land();
        land("33" + times("1", 9));
        force("1", 1);
        rule("h");
        x.field(0, 0);
        x.field(0, 3);
        x.dislikes(0, 0);
        x.sheet(0, 9, 1, 0);
        x.sheet(2, -1, 1, 0);
        x.sheet(3, 0, 0, 0);
        x.heap(0, 5);
        x.cut(0, 1);
        x.wall(0);
        x.source(1);
        x.undo();
        x.seen(0, 0, 0);
        x.forget();
        x.marked(0, 0);
        x.wiped();
        x.bar(9, 9);
        x.keep(0);
        x.again(0);
        x.count(0);
        x.row(0);
        row(3, 4);
        goOn("ROW: a longer and a shorter one");
        x.undo();
        due(0, x.wall(0), "wall(0)");
        x.sheet(0, 0, 0, 0);
        course(0, 0, 3, 6);
        x.draught();
        row(0);
        noRow(1);
    }

    private static void sets() {
        begin("Sets (of FIELDS, COLUMNS) are bits");
        land("66" + times("0", 36));
        long column = 1L | 1L << 6 | 1L << 12 | 1L << 18 | 1L << 24 | 1L << 30;
        long all = (1L << 36) - 1;
        due(all ^ column, x.dry(1), "dry(1)");
        x.source(5);
        due(all ^ column << 5, x.dry(1), "dry(1)");
        due(1 << 5, x.mouths(1), "mouths(1)");
        due(63, x.fits(), "fits()");
        due(2, x.arms(), "arms()");
        row(1L << 4 | 1L << 11);
        land("62" + times("0", 12));
        walls(3, 5, 7);
        due(1, x.arms(), "arms()");
        row(1L << 2);
    }

    private static void fractions() {
        begin("Fractions are told in lowest terms, upper and lower number (0 by 1)");
        due(0, x.open(1, 1, 5), "open(1, 1, 5)");
        row(1, 2);
        x.open(1, 1, 0);
        row(0, 1);
        x.open(1, 2, 7);
        row(0, 1);
        x.open(1, 1, 10);
        row(1, 1);
        x.open(12, 12, 10);
        row(1, 1);
        x.open(1, 1, 3);
        row(3, 10);
        x.open(2, 2, 6);
        row(9, 25);
    }
}
