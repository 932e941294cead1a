/** Promises 1 to 22: each sentence that names a boundary case has a test here; RefusedTest has what refusals leave. */
public final class EdgesTest extends Bench {
    private static final int LEAST = Integer.MIN_VALUE;
    private static final int MOST = Integer.MAX_VALUE;

    public static void main(String[] args) {
        newObject();
        signBytes();
        signIsFull();
        endOfText();
        landWrong();
        landAnew();
        forceWrong();
        ruleWrong();
        fieldThere();
        dislikesThere();
        sheetEntries();
        sheetRefused();
        tidesBounds();
        cutBounds();
        heapBounds();
        wallBounds();
        sourceBounds();
        yearSigns();
        yearIsLong();
        yearActs();
        yearRefused();
        undoKeeps();
        undoAsAhead();
        undoForgotten();
        courseEdges();
        aheadBounds();
        sitsBounds();
        altersBounds();
        mouthsBounds();
        dryBounds();
        stop();
    }

    private static void newObject() {
        begin("1: LAND of two ROWS and COLUMNS");
        int[] counts = {2, 2, 0, 0, 0, 0, 0, 0, 0, 0, 0, 0, 0, 0};
        for (int i = 0; i < counts.length; i++) {
            due(counts[i], x.count(i), "count(" + i + ")");
        }
        heights(0, 0, 0, 0);
        noField(4, 0);
        RiverThinksAgain first = x;
        x.wall(0);
        begin("1: A new object has nothing of another");
        due(0, x.count(6), "WALLS");
        due(1, first.count(6), "WALLS of the first");
    }

    // ---- land, tides

    private static void signBytes() {
        begin("2: of v the highest byte first");
        due(4, x.sign(0x32323132), "sign()");
        due(8, x.sign(0x33340000), "sign()");
        x.end(6);
        due(4, x.land(), "land()");
        heights(1, 2, 3, 4);
        goOn("2: signs above 127 are signs of their own");
        x.sign(0x3232b030);
        x.sign(0x3030b0b0);
        x.end(6);
        due(-3, x.land(), "land() with the sign 176");
        x.sign(0xb2323030);
        due(-1, x.land(), "land() with the sign 178");
        x.sign(0xb5000000);
        x.end(1);
        due(-1, x.force(), "force() of the sign 181");
        due(4, x.sign(LEAST), "sign(least)");
        due(8, x.sign(MOST), "sign(most)");
        due(12, x.sign(-1), "sign(-1)");
        due(16, x.sign(0), "sign(0)");
    }

    private static void signIsFull() {
        begin("2: Refused: there would be more than 80");
        for (int n = 4; n <= 80; n += 4) {
            due(n, x.sign(0x31313131), "sign()");
        }
        due(NONE, x.sign(0x31313131), "80 and 4");
        due(80, x.count(13), "signs");
        for (int n = 79; n > 76; n--) {
            x.end(n);
            due(NONE, x.sign(0x31313131), n + " and 4");
            due(n, x.count(13), "signs");
        }
        x.end(76);
        due(80, x.sign(0x31313131), "76 and 4");
        x.force();
        due(4, x.sign(0x31313131), "behind a call that reads it");
    }

    private static void endOfText() {
        begin("3: false if it has not so many, or n is below 0");
        due(true, x.end(0), "end(0) of none");
        due(false, x.end(1), "end(1) of none");
        due(false, x.end(-1), "end(-1) of none");
        x.sign(0x32323030);
        due(false, x.end(5), "end(5) of 4");
        due(false, x.end(-1), "end(-1)");
        due(false, x.end(LEAST), "end(least)");
        due(false, x.end(MOST), "end(most)");
        due(4, x.count(13), "signs");
        goOn("3: THE TEXT has its first n signs alone");
        due(true, x.end(4), "end(4) of 4");
        due(4, x.count(13), "signs");
        due(true, x.end(3), "end(3) of 4");
        due(3, x.count(13), "signs");
        due(7, x.sign(0x39393900), "sign()");
        due(true, x.end(6), "end(6) of 7");
        due(false, x.end(7), "end(7) of 6");
        due(4, x.land(), "land() of 220999");
        heights(0, 9, 9, 9);
        x.sign(0);
        due(true, x.end(0), "end(0) of 4");
        due(0, x.count(13), "signs");
    }

    private static void landWrong() {
        begin("4: the sign at p can't stand there");
        landIsWrong("x20000", 0);
        landIsWrong("2x0000", 1);
        landIsWrong("22x000", 2);
        landIsWrong("22000x", 5);
        landIsWrong("22-000", 2);
        landIsWrong("22 000", 2);
        landIsWrong("2200" + (char) 0 + "0", 4);
        landIsWrong("x", 0);
        landIsWrong("22xxxx", 2);
        landIsWrong("72" + times("0", 14), 0);
        landIsWrong("27" + times("0", 14), 1);
        landIsWrong("66" + times("0", 35) + "x", 37);
        goOn("4: its end, if it ends too early");
        landIsWrong("", 0);
        landIsWrong("2", 1);
        landIsWrong("6", 1);
        landIsWrong("22", 2);
        landIsWrong("22000", 5);
        landIsWrong("66" + times("0", 35), 37);
        goOn("4: one too many: at it");
        landIsWrong("2200000", 6);
        landIsWrong("220000x", 6);
        landIsWrong("220000" + times("0", 74), 6);
        landIsWrong("66" + times("0", 37), 38);
        landIsWrong("66" + times("0", 78), 38);
        goOn("4: it comes first, one too many behind it or not");
        landIsWrong("220x000", 3);
        goOn("4: how many FIELDS");
        for (int rows = 2; rows <= 6; rows++) {
            for (int columns = 2; columns <= 6; columns++) {
                land("" + rows + columns + times("7", rows * columns));
                due(7 * rows * columns, x.count(5), "HEIGHT of all together");
                noField(rows * columns, 0);
            }
        }
    }

    /** All that land() does away with is there; two rows and three columns. */
    private static void used() {
        land("23" + "123456");
        walls(2, 5);
        x.keep(0);
        x.keep(2);
        x.source(1);
        x.tides(1);
        x.source(2);
        x.tides(1);
        x.source(1);
        x.tides(1);
        x.seen(0, 0, 0);
        x.marked(0, 0);
    }

    private static void landAnew() {
        begin("4: THE TEXT is LAND anew");
        used();
        due(1, x.count(4), "LAKES ahead of it");
        due(8, x.count(11), "what can be undone ahead of it");
        due(1, x.field(1, 2), "THE BED ahead of it");
        land("32" + "654321");
        heights(6, 5, 4, 3, 2, 1);
        goOn("4: there are no WALLS, no BED, SOURCE, TIDE and LAKES are 0");
        for (int i = 0; i < 6; i++) {
            due(0, x.field(i, 1), "field(" + i + ", 1)");
            due(0, x.field(i, 2), "field(" + i + ", 2)");
        }
        int[] counts = {3, 2, 0, 0, 0, 21, 0, 0};
        for (int i = 0; i < counts.length; i++) {
            due(counts[i], x.count(i), "count(" + i + ")");
        }
        goOn("4: nothing can be undone");
        due(0, x.count(11), "count(11)");
        due(NONE, x.undo(), "undo()");
        goOn("4: nothing is kept");
        due(false, x.again(0), "again(0)");
        due(false, x.again(1), "again(1)");
        due(false, x.again(2), "again(2)");
        goOn("4: nothing was seen or marked");
        due(0, x.count(9), "count(9)");
        due(0, x.count(10), "count(10)");
        due(0, x.forget(), "forget()");
        due(0, x.wiped(), "wiped()");
        due(3, x.fits(), "fits()");
        due(64, x.laws(), "laws()");
        goOn("4: a land as the one that was");
        used();
        land("23" + "123456");
        heights(1, 2, 3, 4, 5, 6);
        due(0, x.count(6) + x.count(7) + x.count(2) + x.count(3) + x.count(4) + x.count(11), "all is anew");
        goOn("4: TIDES and THE RULE are not of LAND");
        force("37", 2);
        rule("h*100");
        land("22" + "5000");
        due(3, x.count(8), "FORCE");
        due(500, x.dislikes(0, 0), "DISLIKE");
        goOn("4: a smaller one has nothing of a greater one");
        land("66" + times("9", 36));
        land("22" + "0000");
        due(0, x.count(5), "HEIGHT of all together");
        land("66" + times("0", 36));
        due(0, x.count(5), "HEIGHT of all together");
    }

    private static void forceWrong() {
        begin("5: the sign at p can't stand there");
        force("x", -1);
        force("1x", -2);
        force("1x2y", -2);
        force("-1", -1);
        force("1 ", -2);
        force(times("1", 19) + "x", -20);
        goOn("5: its end for none");
        force("", -1);
        goOn("5: a twenty-first sign: at it");
        force(times("1", 21), -21);
        force(times("1", 20) + "x", -21);
        force(times("1", 80), -21);
        due(0, x.count(8), "FORCE as at first");
        goOn("5: THE TEXT is TIDES: how many signs");
        for (int n = 20; n >= 1; n--) {
            force(times("" + n % 10, n), n);
            due(n % 10, x.count(8), "FORCE");
        }
        goOn("5: it is no LAND: all else stays");
        x.tides(1);
        x.keep(0);
        force("8", 1);
        due(1, x.count(3), "TIDE");
        due(1, x.count(11), "what can be undone");
        due(true, x.again(0), "again(0)");
    }

    private static void ruleWrong() {
        begin("6: the sign at p can't stand there");
        String[] texts = {"x", "hh", "h1", "1h", "h(", "(h)(", "h)", ")", "()", "+h", "*", "h+*h", "h+)", "h<<s", "h<s>w",
            "H", "h ", " h", "1234", "(((((h", "h,s", "h.s", "h^s", "h%s", "h!s"};
        int[] places = {0, 1, 1, 1, 1, 3, 1, 0, 1, 0, 0, 2, 2, 2, 3, 0, 1, 0, 3, 4, 1, 1, 1, 1, 1};
        for (int i = 0; i < texts.length; i++) {
            ruleIsWrong(texts[i], places[i]);
        }
        goOn("6: its end, if it ends too early");
        String[] early = {"h+", "h-", "h*", "h/", "h<", "h>", "h=", "-", "(", "(h", "((h)", "h+(", "h+(s<", "((((h)))"};
        for (String text : early) {
            ruleIsWrong(text, text.length());
        }
        String forty = times("h+", 20);
        ruleIsWrong(forty, 40);
        ruleIsWrong(times("-", 40), 40);
        ruleIsWrong("(" + times("h+", 19) + "h", 40);
        goOn("6: 40, if it has more and the first 40 could go on or end");
        ruleIsWrong(forty + "h", 40);
        ruleIsWrong(forty + "x", 40);
        ruleIsWrong(forty + times("x", 40), 40);
        ruleIsWrong("-" + times("h+", 19) + "h" + "+h", 40);
        ruleIsWrong("-" + times("h+", 19) + "h" + "x", 40);
        ruleIsWrong("-" + times("h+", 19) + "h" + "h", 40);
        ruleIsWrong("(" + times("h+", 19) + "h" + ")", 40);
        ruleIsWrong(times("1+", 18) + "1234" + "567", 39);
        ruleIsWrong(times("h+", 19) + "hx" + "h", 39);
        ruleIsWrong("x" + times("h+", 25), 0);
        goOn("6: 40 signs are a rule");
        land("223000");
        dislike("-" + times("h+", 19) + "h", 3 * 18, 0, 0);
        dislike(times("1+", 18) + "1234".substring(1), 18 + 234, 0, 0);
        goOn("6: an empty one: none: 0");
        dislike("h*9", 27, 0, 0);
        dislike("", 5, 0, 1);
    }

    private static void fieldThere() {
        begin("7: NoSuchElementException: none such, another what");
        for (int size = 2; size <= 6; size += 2) {
            land("" + size + size + times("4", size * size));
            due(4, x.field(0, 0), "field(0, 0)");
            due(4, x.field(size * size - 1, 0), "HEIGHT of the last");
            for (int what = 0; what <= 3; what++) {
                noField(-1, what);
                noField(size * size, what);
                noField(LEAST, what);
                noField(MOST, what);
                noField(64, what);
            }
            noField(0, -1);
            noField(0, 4);
            noField(0, LEAST);
            noField(0, MOST);
            noField(-1, 4);
        }
        begin("7: what 0, 1, 2, 3");
        land("23" + "100" + "000");
        x.wall(3);
        x.tides(1);
        x.source(2);
        // It went by 0, 1 and 4; it goes by 2 and 5 now.
        int[][] want = {{0, 0, 1, 0}, {0, 0, 1, 0}, {1, 0, 0, 1}, {0, 1, 0, 0}, {0, 0, 1, 0}, {1, 0, 0, 1}};
        rule("s");
        for (int f = 0; f < 6; f++) {
            for (int what = 0; what <= 3; what++) {
                due(want[f][what], x.field(f, what), "field(" + f + ", " + what + ")");
            }
        }
    }

    private static void dislikesThere() {
        begin("8: NoSuchElementException: none such, another way");
        for (int way = 0; way <= 1; way++) {
            noDislike(-1, way);
            noDislike(4, way);
            noDislike(36, way);
            noDislike(LEAST, way);
            noDislike(MOST, way);
        }
        noDislike(0, -1);
        noDislike(0, 2);
        noDislike(0, LEAST);
        noDislike(0, MOST);
        noDislike(4, 2);
        goOn("8: way 0: from above, 1: from beside");
        land("22" + "1234");
        for (int f = 0; f < 4; f++) {
            due(f + 1, x.dislikes(f, 0), "dislikes(" + f + ", 0)");
            due(f + 3, x.dislikes(f, 1), "dislikes(" + f + ", 1)");
        }
        goOn("8: of a FIELD with a WALL, or on THE COURSE");
        x.wall(3);
        due(4, x.dislikes(3, 0), "dislikes(3, 0)");
        x.wall(0);
        due(1, x.dislikes(0, 0), "dislikes(0, 0)");
    }

    private static void sheet(int want, int kind, int n, int f, int step) {
        due(want, x.sheet(kind, n, f, step), "sheet(" + kind + ", " + n + ", " + f + ", " + step + ")");
    }

    private static void sheetEntries() {
        begin("9: bytes (kind 0): the lowest bits, with their sign; put to 0 .. 9");
        int[][] bytes = {{0, 0}, {9, 9}, {10, 9}, {-1, 0}, {127, 9}, {128, 0}, {255, 0}, {256, 0}, {261, 5}, {-256, 0},
            {-251, 5}, {-129, 9}, {-128, 0}, {LEAST, 0}, {MOST, 0}, {65536 + 7, 7}};
        for (int[] entry : bytes) {
            sheet(entry[1], 0, 1, entry[0], 0);
            heights(entry[1], 0, 0, 0);
        }
        goOn("9: shorts (1)");
        int[][] shorts = {{0, 0}, {9, 9}, {10, 9}, {-1, 0}, {128, 9}, {255, 9}, {32767, 9}, {32768, 0}, {65535, 0},
            {65536, 0}, {65541, 5}, {-32768, 0}, {-32769, 9}, {-65531, 5}, {LEAST, 0}, {MOST, 0}};
        for (int[] entry : shorts) {
            sheet(entry[1], 1, 1, entry[0], 0);
            heights(entry[1], 0, 0, 0);
        }
        goOn("9: ints (2)");
        int[][] ints = {{0, 0}, {9, 9}, {10, 9}, {-1, 0}, {128, 9}, {32768, 9}, {65536, 9}, {LEAST, 0}, {MOST, 9}};
        for (int[] entry : ints) {
            sheet(entry[1], 2, 1, entry[0], 0);
            heights(entry[1], 0, 0, 0);
        }
        goOn("9: of n entries f, f + step, ..");
        sheet(1 + 3 + 5 + 7, 2, 4, 1, 2);
        heights(1, 3, 5, 7);
        sheet(7 + 4 + 1, 1, 4, 7, -3);
        heights(7, 4, 1, 0);
        sheet(9, 2, 4, MOST, 1);
        heights(9, 0, 0, 0);
        sheet(9, 2, 2, LEAST, -1);
        heights(0, 9, 0, 0);
        sheet(2 + 3 + 4 + 5, 0, 4, 2, 257);
        heights(2, 3, 4, 5);
        goOn("9: those behind it have 0: the sum of all");
        sheet(0, 0, 0, 5, 5);
        heights(0, 0, 0, 0);
        sheet(15, 0, 3, 5, 0);
        heights(5, 5, 5, 0);
        goOn("9: more entries than FIELDS");
        sheet(20, 0, 5, 5, 0);
        sheet(20, 0, 36, 5, 0);
        land("66" + times("1", 36));
        sheet(36 * 9, 2, 36, 9, 1);
        sheet(35 * 9, 2, 35, 9, 1);
        due(0, x.field(35, 0), "field(35, 0)");
    }

    private static void sheetRefused() {
        begin("9: NONE: another kind, n above 36 (these first)");
        land("221234");
        sheet(NONE, -1, 1, 5, 0);
        sheet(NONE, 4, 1, 5, 0);
        sheet(NONE, LEAST, 1, 5, 0);
        sheet(NONE, MOST, 1, 5, 0);
        sheet(NONE, 4, -1, 5, 0);
        sheet(NONE, -1, 37, 5, 0);
        for (int kind = 0; kind <= 3; kind++) {
            sheet(NONE, kind, 37, 5, 0);
            sheet(NONE, kind, MOST, 5, 0);
        }
        heights(1, 2, 3, 4);
        goOn("9: -2: n below 0 (of kinds 0 .. 2; nothing changes)");
        for (int kind = 0; kind <= 2; kind++) {
            sheet(-2, kind, -1, 5, 0);
            sheet(-2, kind, LEAST, 5, 0);
        }
        heights(1, 2, 3, 4);
        goOn("9: -3: missing (all 0)");
        int[] entries = {-1, 0, 1, 36, LEAST};
        for (int n : entries) {
            sheet(20, 0, 4, 5, 0);
            sheet(-3, 3, n, 5, 0);
            heights(0, 0, 0, 0);
        }
        goOn("9: HEIGHT alone: it is no LAND, and no act");
        land("221234");
        x.wall(1);
        x.tides(1);
        x.sheet(0, 4, 6, 0);
        due(1, x.count(6), "WALLS");
        due(2, x.count(7), "THE BED");
        due(1, x.count(3), "TIDE");
        due(2, x.count(11), "what can be undone");
        due(6, x.field(1, 0), "HEIGHT of a FIELD with a WALL");
    }

    // ---- tides go by

    private static void tidesBounds() {
        begin("10: n TIDES (0 .. 60) go by");
        due(0, x.tides(0), "tides(0)");
        row(0, 0);
        due(0, x.count(3), "TIDE");
        due(60, x.tides(60), "tides(60)");
        row(18, 2);
        due(60, x.count(3), "TIDE");
        due(1, x.tides(1), "tides(1)");
        due(61, x.count(3), "TIDE");
        goOn("10: Refused: another n");
        int[] others = {-1, 61, LEAST, MOST};
        for (int n : others) {
            due(NONE, x.tides(n), "tides(" + n + ")");
        }
        due(61, x.count(3), "TIDE");
        due(3, x.count(11), "what can be undone");
        row(18, 2);
        begin("10: in how many it came to THE SEA");
        // By turns below and, between walls, beside: a lake in each second tide.
        force("01", 2);
        x.wall(3);
        rule("s-2*s*(f=0)");
        due(0, x.tides(1), "tides(1)");
        due(3, x.tides(6), "tides(6)");
        due(4, x.tides(7), "tides(7)");
        goOn("10: HEIGHT of all together then, how many FIELDS are on THE BED");
        row(x.count(5), x.count(7));
        begin("10: in none of them");
        x.wall(0);
        due(0, x.tides(60), "tides(60)");
        row(0, 0);
        due(60, x.count(4), "LAKES");
    }

    private static void cutBounds() {
        begin("11: n (1 .. 9) is cut off a FIELD: its HEIGHT");
        land("22" + "9519");
        due(8, x.cut(0, 1), "cut(0, 1)");
        due(0, x.cut(3, 9), "cut(3, 9)");
        due(0, x.cut(1, 5), "cut(1, 5)");
        heights(8, 0, 1, 0);
        goOn("11: -2: there is not so much");
        due(-2, x.cut(0, 9), "cut(0, 9) off 8");
        due(-2, x.cut(2, 2), "cut(2, 2) off 1");
        due(-2, x.cut(3, 1), "cut(3, 1) off 0");
        heights(8, 0, 1, 0);
        due(3, x.count(11), "what can be undone");
        goOn("11: NONE: others");
        int[][] others = {{-1, 1}, {4, 1}, {LEAST, 1}, {MOST, 1}, {36, 1}, {0, 0}, {0, -1}, {0, 10}, {0, LEAST},
            {0, MOST}, {1, 10}, {4, 10}};
        for (int[] o : others) {
            due(NONE, x.cut(o[0], o[1]), "cut(" + o[0] + ", " + o[1] + ")");
        }
        due(3, x.count(11), "what can be undone");
        heights(8, 0, 1, 0);
        goOn("11: a FIELD with a WALL, too");
        x.wall(0);
        due(0, x.cut(0, 8), "cut(0, 8)");
    }

    private static void heapBounds() {
        begin("12: n (1 .. 9) is heaped on a FIELD: its HEIGHT");
        land("22" + "0480");
        due(1, x.heap(0, 1), "heap(0, 1)");
        due(9, x.heap(1, 5), "heap(1, 5)");
        due(9, x.heap(3, 9), "heap(3, 9)");
        heights(1, 9, 8, 9);
        goOn("12: -3: it would be more than 9");
        due(-3, x.heap(0, 9), "heap(0, 9) on 1");
        due(-3, x.heap(2, 2), "heap(2, 2) on 8");
        due(-3, x.heap(3, 1), "heap(3, 1) on 9");
        heights(1, 9, 8, 9);
        due(3, x.count(11), "what can be undone");
        goOn("12: NONE: others");
        int[][] others = {{-1, 1}, {4, 1}, {LEAST, 1}, {MOST, 1}, {36, 1}, {0, 0}, {0, -1}, {0, 10}, {0, LEAST},
            {0, MOST}, {1, 10}, {4, 10}};
        for (int[] o : others) {
            due(NONE, x.heap(o[0], o[1]), "heap(" + o[0] + ", " + o[1] + ")");
        }
        due(3, x.count(11), "what can be undone");
        heights(1, 9, 8, 9);
        goOn("12: a FIELD with a WALL, too");
        x.wall(0);
        due(9, x.heap(0, 8), "heap(0, 8)");
    }

    private static void wallBounds() {
        begin("13: A WALL is built on a FIELD, or taken away: how many WALLS there are");
        land("33" + times("0", 9));
        walls(0, 1, 2, 3, 4, 5, 6, 8);
        goOn("13: -2: there are 8 others");
        due(-2, x.wall(7), "a ninth one");
        due(0, x.field(7, 1), "field(7, 1)");
        due(8, x.count(11), "what can be undone");
        goOn("13: or taken away, with 8 of them, too");
        due(7, x.wall(8), "wall(8)");
        due(8, x.wall(7), "wall(7)");
        due(-2, x.wall(8), "wall(8)");
        goOn("13: NONE: none such, with 8 of them, too");
        int[] others = {-1, 9, 36, 64, LEAST, MOST};
        for (int field : others) {
            due(NONE, x.wall(field), "wall(" + field + ")");
        }
        due(8, x.count(6), "WALLS");
        goOn("13: how many there are, down to 0");
        for (int i = 7; i >= 0; i--) {
            due(i, x.wall(i), "wall(" + i + ")");
        }
        land("22" + "0000");
        walls(0, 1, 2, 3);
        due(NONE, x.wall(4), "wall(4)");
    }

    private static void sourceBounds() {
        begin("14: SOURCE is in another COLUMN: the one that it was");
        land("26" + times("0", 12));
        due(0, x.source(5), "source(5)");
        due(5, x.source(0), "source(0)");
        due(0, x.source(1), "source(1)");
        due(1, x.source(4), "source(4)");
        goOn("14: -2: it is there");
        due(-2, x.source(4), "source(4)");
        due(4, x.count(11), "what can be undone");
        goOn("14: NONE: none such");
        int[] others = {-1, 6, LEAST, MOST};
        for (int column : others) {
            due(NONE, x.source(column), "source(" + column + ")");
        }
        due(4, x.count(2), "SOURCE");
        due(4, x.count(11), "what can be undone");
        land("62" + times("0", 12));
        due(NONE, x.source(2), "source(2) of two COLUMNS");
        due(-2, x.source(0), "source(0)");
        goOn("14: THE BED stays");
        x.tides(1);
        due(0, x.source(1), "source(1)");
        due(1, x.field(0, 2), "field(0, 2)");
    }

    private static void yearSigns() {
        begin("15: the sign at p can't stand there");
        land("33" + times("5", 9));
        String[] texts = {"x", "N1", "1", " ", "nx", "n-1", "n1x", "n12", "cx", "c0x", "c00x", "c00-", "c0011", "hx", "h0x",
            "h00x", "wx", "w0x", "w00x", "w000", "sx", "s1x", "s12", "nn", "c0n", "n1 n1", "n" + (char) 177, "w00c0h"};
        int[] places = {0, 0, 0, 0, 1, 1, 2, 2, 1, 2, 3, 3, 4, 1, 2, 3, 1, 2, 3, 3, 1, 2, 2, 1, 2, 2, 1, 5};
        for (int i = 0; i < texts.length; i++) {
            year(texts[i], -1 - places[i]);
        }
        goOn("15: a digit 1 .. 9 (cut(), heap())");
        year("c000", -4);
        year("h000", -4);
        year("n1c110", -6);
        year("c001h001c009", 2);
        row(1, 0);
        year("h004c009", 2);
        row(0, 0);
        goOn("15: its end, if it ends too early");
        String[] early = {"n", "c", "c0", "c00", "h", "h0", "h00", "w", "w0", "s", "n1s", "w00c11"};
        for (String text : early) {
            year(text, -1 - text.length());
        }
        goOn("15: nothing is done then");
        due(0, x.count(3) + x.count(6), "TIDE and WALLS");
        due(2, x.count(11), "what can be undone");
    }

    private static void yearIsLong() {
        begin("15: 60, if it has more and the first 60 could go on or end");
        String sixty = times("w00", 20);
        year(sixty + "w", -61);
        year(sixty + "w00", -61);
        year(sixty + "x", -61);
        year(sixty + times("w00", 6) + "w0", -61);
        year(times("w00", 19) + "n1n" + "1", -61);
        year(times("w00", 19) + "c00" + "1", -61);
        year(times("w00", 19) + "c00" + "x", -61);
        year(times("w00", 19) + "w0x" + "1", -60);
        year(times("w00", 19) + "n11" + "1", -60);
        year("x" + times("w00", 25), -1);
        goOn("15: its end, if it ends too early, at 60");
        year(times("w00", 19) + "n1n", -61);
        year(times("w00", 19) + "c00", -61);
        due(0, x.count(6) + x.count(11) + x.count(12), "nothing is done then");
        goOn("15: 60 signs are a year");
        year(sixty, 20);
        row(0, 0);
        due(0, x.count(6), "WALLS");
        year(times("n9", 30), 30);
        row(0, 270);
        due(2, x.count(11), "what can be undone");
    }

    private static void yearActs() {
        begin("15: THE TEXT tells A YEAR (an empty one: nothing)");
        year("", 0);
        row(0, 0);
        due(0, x.count(11), "what can be undone");
        goOn("15: n and a digit (tides())");
        for (int n = 0; n <= 9; n++) {
            land("220000");
            year("n" + n, 1);
            row(0, n);
            due(n, x.count(3), "TIDE");
            due(1, x.count(11), "what can be undone");
        }
        goOn("15: c, h, two digits (ROW, COLUMN) and a digit 1 .. 9");
        for (int n = 1; n <= 9; n++) {
            land("23" + "000000");
            year("h12" + n, 1);
            due(n, x.field(5, 0), "heaped");
            year("c12" + n, 1);
            due(0, x.field(5, 0), "cut");
        }
        goOn("15: w and two digits (wall())");
        land("32" + "000000");
        year("w20", 1);
        due(1, x.field(4, 1), "field(4, 1)");
        year("w20w21w01", 3);
        due(0, x.field(4, 1), "field(4, 1)");
        due(1, x.field(5, 1), "field(5, 1)");
        due(1, x.field(1, 1), "field(1, 1)");
        goOn("15: s and a digit (source())");
        year("s1", 1);
        due(1, x.count(2), "SOURCE");
        goOn("15: they are done one by one: how many were done; 0; TIDE then");
        land("33" + times("0", 9));
        year("h004c003n2s1w00n1", 6);
        row(0, 3);
        due(1, x.count(11), "what can be undone");
    }

    private static void yearRefused() {
        String[] acts = {"c001", "h009h001", "w30", "w03", "w33", "w99", "c301", "c031", "h301", "h031", "s0", "s3", "s9"};
        int[] done = {2, 3, 2, 2, 2, 2, 2, 2, 2, 2, 2, 2, 2};
        for (int i = 0; i < acts.length; i++) {
            begin("15: they are done one by one, till one is refused: " + acts[i]);
            land("33" + times("0", 9));
            year("n1n0" + acts[i] + "n5w22", done[i]);
            row(1, 1);
            due(0, x.count(6), "WALLS");
            due(1, x.count(11), "what can be undone");
            due(0, x.undo(), "undo()");
            due(0, x.count(3) + x.count(5), "as ahead of it");
            goOn("15: the first is refused: nothing to undo: " + acts[i]);
            year(acts[i].substring(done[i] == 3 ? 4 : 0) + "n5", done[i] == 3 ? 2 : 0);
            row(done[i] == 3 ? 0 : 1, done[i] == 3 ? 5 : 0);
            due(done[i] == 3 ? 1 : 0, x.count(11), "what can be undone");
        }
        begin("15: a ninth WALL is refused");
        land("33" + times("0", 9));
        year("w00w01w02w10w11w12w20w21w22w00", 8);
        row(1, 0);
        due(8, x.count(6), "WALLS");
        begin("15: the last is refused");
        year("n1s0", 1);
        row(1, 1);
    }

    private static void undoKeeps() {
        begin("16: Refused: none");
        due(NONE, x.undo(), "undo()");
        goOn("16: of 15 that are kept, the latest ones");
        land("66" + times("0", 36));
        for (int i = 0; i < 14; i++) {
            x.heap(i, 1);
        }
        due(14, x.count(11), "what can be undone");
        x.heap(14, 1);
        due(15, x.count(11), "what can be undone");
        x.heap(15, 1);
        due(15, x.count(11), "what can be undone");
        x.heap(16, 1);
        due(15, x.count(11), "what can be undone");
        goOn("16: how many are left that can be");
        for (int i = 14; i >= 0; i--) {
            due(i, x.undo(), "undo()");
            due(0, x.field(i + 2, 0), "the latest one");
            due(i + 2, x.count(5), "HEIGHT of all together");
            due(i, x.count(11), "what can be undone");
        }
        due(NONE, x.undo(), "undo() of the sixteenth");
        due(2, x.count(5), "HEIGHT of all together");
        goOn("16: an act behind an undo()");
        for (int i = 0; i < 40; i++) {
            x.heap(20, 1);
            x.heap(21, 1);
            x.undo();
            x.cut(20, 1);
        }
        due(15, x.count(11), "what can be undone");
        due(14, x.undo(), "undo()");
        due(1, x.field(20, 0), "field(20, 0)");
        due(0, x.field(21, 0), "field(21, 0)");
        goOn("16: such as were done");
        land("22" + "0000");
        x.tides(61);
        x.tides(-1);
        x.cut(0, 1);
        x.heap(0, 10);
        x.heap(4, 1);
        x.wall(4);
        x.source(0);
        x.source(2);
        year("c001", 0);
        year("", 0);
        year("x", -1);
        due(NONE, x.undo(), "undo()");
        goOn("16: tides(), cut(), heap(), wall(), source() or year()");
        x.sheet(0, 4, 5, 0);
        force("1", 1);
        rule("h");
        x.seen(0, 0, 0);
        x.marked(0, 0);
        x.keep(0);
        x.years(1, 60);
        x.course();
        due(NONE, x.undo(), "undo()");
        x.tides(0);
        x.cut(0, 1);
        x.heap(0, 1);
        x.wall(1);
        x.source(1);
        year("n0s1", 1);
        due(6, x.count(11), "what can be undone");
    }

    private static void undoAsAhead() {
        begin("16: HEIGHTS, WALLS, THE BED, SOURCE, TIDE, LAKES are as ahead of it");
        land("23" + "123" + "456");
        x.tides(1);
        walls(3, 5);
        int[] heights = new int[6];
        int[] beds = new int[6];
        for (int i = 0; i < 6; i++) {
            heights[i] = x.field(i, 0);
            beds[i] = x.field(i, 2);
        }
        year("s2n2h009w04n1s1", 2);
        row(1, 3);
        year("s1w11n1s0", 4);
        row(0, 4);
        due(5, x.count(11), "what can be undone");
        x.undo();
        due(3, x.count(3), "TIDE");
        x.undo();
        for (int i = 0; i < 6; i++) {
            due(heights[i], x.field(i, 0), "field(" + i + ", 0)");
            due(beds[i], x.field(i, 2), "field(" + i + ", 2)");
            due(i == 3 || i == 5 ? 1 : 0, x.field(i, 1), "field(" + i + ", 1)");
        }
        due(0, x.count(2), "SOURCE");
        due(1, x.count(3), "TIDE");
        due(0, x.count(4), "LAKES");
        goOn("16: LAKES as ahead of it");
        x.wall(0);
        x.tides(7);
        due(7, x.count(4), "LAKES");
        x.undo();
        due(0, x.count(4), "LAKES");
        due(1, x.count(3), "TIDE");
        goOn("16: all else stays");
        x.wall(0);
        force("89", 2);
        rule("h*2");
        x.seen(3, 0, 1);
        x.marked(1, 2);
        x.open(1, 1, 5);
        x.sign(0);
        x.undo();
        due(9, x.count(8), "FORCE of TIDE 1");
        due(2 * heights[0], x.dislikes(0, 1), "DISLIKE");
        due(1, x.count(9), "what was seen");
        due(1, x.count(10), "marks");
        due(4, x.count(13), "signs of THE TEXT");
        row(1, 2);
    }

    private static void undoForgotten() {
        begin("16: land() and again() forget them");
        land("22" + "0000");
        x.tides(1);
        land("22" + "0000");
        due(NONE, x.undo(), "undo() behind land()");
        x.keep(1);
        x.tides(1);
        due(true, x.again(1), "again(1)");
        due(0, x.count(11), "what can be undone");
        due(NONE, x.undo(), "undo() behind again()");
        goOn("16: if they are not refused");
        x.tides(1);
        landIsWrong("22", 2);
        landIsWrong("2200000", 6);
        due(false, x.again(0), "again(0)");
        due(false, x.again(3), "again(3)");
        due(1, x.count(11), "what can be undone");
        due(0, x.undo(), "undo()");
        due(0, x.count(3), "TIDE");
    }

    // ---- where it goes

    private static void courseEdges() {
        begin("17: the COLUMN where it comes to THE SEA; its FIELDS in turn");
        land("66" + times("0", 36));
        for (int column = 5; column >= 0; column--) {
            x.source(column);
            course(column, column, column + 6, column + 12, column + 18, column + 24, column + 30);
        }
        goOn("17: the most FIELDS that it can have");
        rule("-s");
        course(5, 0, 1, 2, 3, 4, 5, 11, 10, 9, 8, 7, 6, 12, 13, 14, 15, 16, 17, 23, 22, 21, 20, 19, 18, 24, 25, 26, 27, 28,
            29, 35);
        goOn("17: -2: it is a LAKE");
        walls(6, 7, 8, 9, 10, 11);
        course(LAKE, 0, 1, 2, 3, 4, 5);
        x.wall(0);
        course(LAKE);
        noRow(0);
    }

    private static void aheadBounds() {
        begin("18: THE COURSE in n TIDES (0: of this one .. 99)");
        int[] tides = {0, 1, 8, 9, 10, 98, 99};
        for (int n : tides) {
            due(0, x.ahead(n), "ahead(" + n + ")");
            row(2, 2 * Math.min(9, n));
        }
        goOn("18: NONE: another n");
        int[] others = {-1, 100, LEAST, MOST};
        for (int n : others) {
            due(NONE, x.ahead(n), "ahead(" + n + ")");
        }
        row(2, 18);
        lastTideTurns();
        goOn("18: THE COURSE in 99 TIDES");
        due(0, x.ahead(98), "ahead(98)");
        due(LAKE, x.ahead(99), "ahead(99)");
        goOn("18: if nothing else is done: it changes nothing");
        due(0, x.count(3) + x.count(5) + x.count(7) + x.count(4), "all is as it was");
        begin("18: -2: it is a LAKE");
        x.wall(0);
        due(LAKE, x.ahead(0), "ahead(0)");
        row(0, 0);
        due(LAKE, x.ahead(99), "ahead(99)");
        row(0, 0);
    }

    /** Of each 140 tides it goes beside in one alone, tide 99, and sits down at 1 then. */
    private static void lastTideTurns() {
        begin("");
        force(times("0", 19) + "1", 20);
        x.wall(3);
        rule("(f=1)*(t=1)*(1-2*s)");
    }

    private static void sitsBounds() {
        lastTideTurns();
        goOn("19: In how many TIDES (0: in this one .. 99)");
        due(99, x.sits(), "sits()");
        row(1);
        x.tides(40);
        due(59, x.sits(), "sits()");
        x.tides(59);
        due(0, x.sits(), "sits()");
        row(1);
        goOn("19: -2: in none of these");
        x.tides(1);
        due(-2, x.sits(), "sits() from tide 100");
        x.tides(39);
        x.open(1, 1, 5);
        due(-2, x.sits(), "sits() from tide 139, 100 ahead of tide 239");
        row(1, 2);
        x.tides(1);
        due(99, x.sits(), "sits() from tide 140");
        goOn("19: the FIELD where it SITS DOWN (NONE: it has none)");
        x.wall(2);
        due(0, x.sits(), "sits()");
        row(1);
        x.wall(1);
        due(0, x.sits(), "sits()");
        row(0);
        x.wall(0);
        due(0, x.sits(), "sits()");
        row(NONE);
    }

    private static void altersBounds() {
        begin("20: NONE: another n");
        int[] others = {0, -1, 100, LEAST, MOST};
        for (int n : others) {
            due(NONE, x.alters(n), "alters(" + n + ")");
        }
        row();
        goOn("20: -2: in none");
        x.open(1, 1, 5);
        due(-2, x.alters(1), "alters(1)");
        due(-2, x.alters(99), "alters(99)");
        row(1, 2);
        lastTideTurns();
        goOn("20: In which of the next n TIDES (1 .. 99; 0 this one)");
        due(-2, x.alters(99), "alters(99), tide 99 is the hundredth");
        x.tides(1);
        due(-2, x.alters(98), "alters(98)");
        due(98, x.alters(99), "alters(99)");
        goOn("20: the COLUMN where it comes to THE SEA then (-2: it is a LAKE)");
        row(LAKE);
        x.wall(3);
        due(98, x.alters(99), "alters(99)");
        row(1);
        x.tides(60);
        x.tides(37);
        due(-2, x.alters(1), "alters(1)");
        due(1, x.alters(2), "alters(2)");
        row(1);
        goOn("20: another one than that of this TIDE");
        x.tides(1);
        due(-2, x.alters(1), "alters(1)");
        due(1, x.alters(2), "alters(2)");
        row(0);
        begin("20: another one (as a row of FIELDS)");
        // Each time to the same mouth, by way of 0 and 3, or straight.
        land("33" + times("0", 9));
        x.source(1);
        walls(6, 8);
        rule("s-2*s*(t=2)*(r=0)");
        due(-2, x.alters(2), "alters(2)");
        due(2, x.alters(3), "alters(3)");
        row(1);
        begin("20: a LAKE of no FIELDS is no other one than itself");
        x.wall(0);
        due(-2, x.alters(99), "alters(99)");
    }

    private static void mouthsBounds() {
        begin("21: NONE: another n");
        int[] others = {0, -1, 100, LEAST, MOST};
        for (int n : others) {
            due(NONE, x.mouths(n), "mouths(" + n + ")");
        }
        row();
        goOn("21: the next n TIDES (1 .. 99)");
        due(1, x.mouths(1), "mouths(1)");
        row(1, 0, 0);
        due(1, x.mouths(99), "mouths(99)");
        row(99, 0, 0);
        lastTideTurns();
        goOn("21: by COLUMNS how often; then in how many it is a LAKE");
        due(1, x.mouths(99), "mouths(99)");
        row(99, 0, 0);
        x.tides(1);
        due(1, x.mouths(98), "mouths(98)");
        row(98, 0, 0);
        due(1, x.mouths(99), "mouths(99)");
        row(98, 0, 1);
        x.wall(3);
        due(3, x.mouths(99), "mouths(99)");
        row(98, 1, 0);
        x.wall(0);
        due(0, x.mouths(99), "mouths(99)");
        row(0, 0, 99);
        due(1, x.count(3), "it changes nothing");
        begin("21: six COLUMNS");
        land("26" + times("0", 12));
        x.source(5);
        due(32, x.mouths(2), "mouths(2)");
        row(0, 0, 0, 0, 0, 2, 0);
    }

    private static void dryBounds() {
        begin("22: NONE: another n");
        int[] others = {0, -1, 100, LEAST, MOST};
        for (int n : others) {
            due(NONE, x.dry(n), "dry(" + n + ")");
        }
        row();
        goOn("22: the next n TIDES (1 .. 99)");
        due(2 + 8, x.dry(1), "dry(1)");
        row(2, 2);
        due(2 + 8, x.dry(99), "dry(99)");
        row(2, 2);
        lastTideTurns();
        goOn("22: FIELDS on which it never is, how many on which it always is");
        x.tides(1);
        due(2 + 8, x.dry(98), "dry(98)");
        row(2, 2);
        due(8, x.dry(99), "dry(99)");
        row(1, 1);
        x.wall(0);
        due(15, x.dry(99), "dry(99) of no COURSE");
        row(4, 0);
        due(1, x.count(3), "it changes nothing");
    }
}
