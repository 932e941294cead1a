/** For each promise of the document: ordinary inputs, edges, wrong inputs; answers reckoned by hand. */
public final class PromisesTest extends Bench {
    public static void main(String[] args) {
        promise1();
        promise2And3();
        promise4();
        promise5();
        promise6();
        promise7And8();
        promise9();
        promise10();
        promise11And12();
        promise13And14();
        promise15();
        promise16();
        promise17And18();
        promise19To22();
        promise23And24();
        promise25And26();
        promise27();
        promise28();
        promise29And30();
        promise31To34();
        promise35To37();
        promise38And39();
        promise40();
        promise41();
        promise42();
        promise43And44();
        promise45And46();
        stop();
    }

    // ---- land, tides

    private static void promise1() {
        begin(1);
        int[] counts = {2, 2, 0, 0, 0, 0, 0, 0, 0, 0, 0, 0, 0, 0};
        for (int i = 0; i < counts.length; i++) {
            due(counts[i], x.count(i), "count(" + i + ")");
        }
        heights(0, 0, 0, 0);
        due(0, x.field(3, 1), "field(3, 1)");
        due(0, x.field(0, 2), "field(0, 2)");
        due(NONE, x.undo(), "undo()");
        due(false, x.again(0), "again(0)");
        due(0, x.course(), "course()");
        row(0, 2);
        due(2, x.dislikes(1, 1), "the rule is h+s*2-w");
    }

    private static void promise2And3() {
        begin(2);
        due(4, x.sign(0x32323132), "sign");
        due(8, x.sign(0x3334ff80), "sign");
        due(true, x.end(6), "end(6)");
        due(4, x.land(), "land() of 221234");
        heights(1, 2, 3, 4);
        due(0, x.count(13), "a call that reads the text empties it");
        for (int n = 4; n <= 80; n += 4) {
            due(n, x.sign(-1), "sign(-1)");
        }
        due(NONE, x.sign(0), "an eighty-first sign");
        due(80, x.count(13), "signs of the text");
        due(true, x.end(77), "end(77)");
        due(NONE, x.sign(0), "77 signs and four more");
        due(true, x.end(76), "end(76)");
        due(80, x.sign(0), "76 signs and four more");
        begin(3);
        x.sign(0);
        due(false, x.end(5), "end(5) of 4");
        due(false, x.end(-1), "end(-1)");
        due(false, x.end(Integer.MAX_VALUE), "end(greatest)");
        due(4, x.count(13), "signs of the text");
        due(true, x.end(4), "end(4) of 4");
        due(true, x.end(1), "end(1) of 4");
        due(1, x.count(13), "signs of the text");
        due(false, x.end(4), "end(4) of 1");
        due(true, x.end(0), "end(0)");
        due(true, x.end(0), "end(0) of none");
    }

    private static void promise4() {
        begin(4);
        String[] texts = {"", "1", "7", "x", "2", "21", "27", "2z", "22", "22000", "22x000", "2200000", "22000x",
            "2200009", "66" + times("0", 35), "66" + times("0", 37), "220000" + times("z", 20)};
        int[] places = {0, 0, 0, 0, 1, 1, 1, 1, 2, 5, 2, 6, 5, 6, 37, 38, 6};
        for (int i = 0; i < texts.length; i++) {
            text(texts[i]);
            due(-1 - places[i], x.land(), "land() of " + texts[i]);
            due(0, x.count(13), "signs of the text");
        }
        land("66" + times("5", 36));
        due(180, x.count(5), "count(5)");
        land("23123456");
        due(2, x.count(0), "rows");
        due(3, x.count(1), "columns");
        heights(1, 2, 3, 4, 5, 6);
        text("12");
        x.force();
        rule("h");
        x.course();
        x.wall(0);
        x.source(2);
        x.tides(1);
        x.source(0);
        x.tides(1);
        x.keep(0);
        x.seen(0, 0, 0);
        x.marked(0, 0);
        text("2212345");
        due(-7, x.land(), "land() with a sign too many");
        int[] before = {2, 3, 0, 2, 1, x.count(5), 1, 0, 1, 1, 1, 5, 2, 0};
        for (int i = 0; i < before.length; i++) {
            due(before[i], x.count(i), "behind a refused land() count(" + i + ")");
        }
        due(true, x.again(0), "again(0) behind a refused land()");
        x.heap(1, 1);
        land("320123456789".substring(0, 8));
        int[] counts = {3, 2, 0, 0, 0, 15, 0, 0, 1, 0, 0, 0, 2, 0};
        for (int i = 0; i < counts.length; i++) {
            due(counts[i], x.count(i), "behind land() count(" + i + ")");
        }
        due(false, x.again(0), "again(0) behind land()");
        due(4, x.dislikes(4, 1), "the rule stays");
    }

    private static void promise5() {
        begin(5);
        String[] texts = {"", "x", "12x", "1234567890123456789x", times("1", 21), times("1", 20) + "x",
            times("2", 40), "-1"};
        int[] places = {0, 0, 2, 19, 20, 20, 20, 0};
        for (int i = 0; i < texts.length; i++) {
            text(texts[i]);
            due(-1 - places[i], x.force(), "force() of " + texts[i]);
            due(0, x.count(13), "signs of the text");
            due(0, x.count(8), "the force stays");
        }
        text("307");
        due(3, x.force(), "force() of 307");
        int[] forces = {3, 0, 7, 3, 0};
        for (int force : forces) {
            due(force, x.count(8), "count(8)");
            x.tides(1);
        }
        text("98765432109876543210");
        due(20, x.force(), "force() of twenty");
        due(4, x.count(8), "count(8) in tide 5");
        text("5");
        due(1, x.force(), "force() of 5");
        due(5, x.count(8), "count(8)");
        due(5, x.count(11), "force() can't be undone");
    }

    private static void promise6() {
        begin(6);
        land("22" + "7352");
        ruleIsWrong("z", 0);
        ruleIsWrong("h+", 2);
        ruleIsWrong("h+*", 2);
        ruleIsWrong("hh", 1);
        ruleIsWrong("h h", 1);
        ruleIsWrong("1234", 3);
        ruleIsWrong("h1", 1);
        ruleIsWrong("1h", 1);
        ruleIsWrong("1(", 1);
        ruleIsWrong(")", 0);
        ruleIsWrong("h)", 1);
        ruleIsWrong("(h", 2);
        ruleIsWrong("()", 1);
        ruleIsWrong("(", 1);
        ruleIsWrong("-", 1);
        ruleIsWrong("+h", 0);
        ruleIsWrong("h<s<w", 3);
        ruleIsWrong("h<s=w", 3);
        ruleIsWrong("h+s>w*2=1", 7);
        ruleIsWrong("(h<s<w)", 4);
        ruleIsWrong("h<(s<w)<r", 7);
        ruleIsWrong("h<", 2);
        ruleIsWrong("<h", 0);
        ruleIsWrong("(((((h)))))", 4);
        ruleIsWrong("((((h))))(", 9);
        ruleIsWrong("h" + (char) 232, 1);
        ruleIsWrong("h" + (char) 0, 1);
        ruleIsWrong("H", 0);
        ruleIsWrong(times("-", 40), 40);
        ruleIsWrong(times("h+", 20), 40);
        ruleIsWrong(times("h+", 20) + "h", 40);
        ruleIsWrong(times("h+", 20) + "z", 40);
        ruleIsWrong(times("h+", 19) + "h)h", 39);
        ruleIsWrong(times("h+", 19) + "(h" + "+", 40);
        ruleIsWrong(times("h+", 19) + "(h", 40);
        ruleIsWrong(times("-", 40) + times("h", 40), 40);
        due(7, x.dislikes(0, 0), "a refused rule changes nothing");
        promise6Values();
    }

    private static void promise6Values() {
        dislike("((((h))))", 7, 0, 0);
        dislike("(((h)+(h))*((h)))", 98, 0, 0);
        dislike("1<2", 1, 0, 0);
        dislike("2<1", 0, 0, 0);
        dislike("2>1", 1, 0, 0);
        dislike("2=2", 1, 0, 0);
        dislike("2>2", 0, 0, 0);
        dislike("2<2", 0, 0, 0);
        dislike("-h", -7, 0, 0);
        dislike("h", 7, 0, 0);
        dislike("(h+1)", 8, 0, 0);
        dislike("h", 7, 0, 0);
        dislike("1+1=2", 1, 0, 0);
        dislike("1<2+(3<4)", 1, 0, 0);
        dislike("10-3-2", 5, 0, 0);
        dislike("10-(3-2)", 9, 0, 0);
        dislike("2+3*4", 14, 0, 0);
        dislike("7/2*2", 6, 0, 0);
        dislike("-7/2", -3, 0, 0);
        dislike("7/-2", -3, 0, 0);
        dislike("5/0", 0, 0, 0);
        dislike("5/(1-1)+1", 1, 0, 0);
        dislike("--5", 5, 0, 0);
        dislike("---h", -7, 0, 0);
        dislike("2--3", 5, 0, 0);
        dislike("2*-3", -6, 0, 0);
        dislike("-2*-3", 6, 0, 0);
        dislike("-(h+1)", -8, 0, 0);
        dislike("007", 7, 0, 0);
        dislike("999*999*999*999", (int) (999L * 999 * 999 * 999), 0, 0);
        dislike("-128*256*256*256/-1", Integer.MIN_VALUE, 0, 0);
        dislike("128*256*256*256<0", 1, 0, 0);
        dislike(times("h+", 19) + "h", 140, 0, 0);
        dislike(times("-", 39) + "h", -7, 0, 0);
        dislike(times("h-", 19) + "-h", 7 - 18 * 7 + 7, 0, 0);
        dislike("s", 1, 0, 1);
        dislike("s", 0, 3, 0);
        dislike("h*100+r*10+c", 211, 3, 0);
        dislike("r*10+c", 10, 2, 0);
        dislike("", 9, 0, 1);
        text("48");
        x.force();
        x.tides(1);
        dislike("f*10+t", 81, 0, 0);
        dislike("w", 1, 0, 0);
        dislike("w", 1, 2, 0);
        dislike("w", 0, 1, 0);
        x.tides(60);
        dislike("f*10+t", 85, 0, 0);
        due(0, x.count(13), "signs of the text");
        rule("");
        due(x.field(0, 0) + 2 - x.field(0, 2), x.dislikes(0, 1), "an empty one: h+s*2-w");
    }

    private static void promise7And8() {
        begin(7);
        land("23" + "421" + "930");
        x.wall(1);
        x.tides(1);
        heights(3, 2, 1, 8, 4, 0);
        int[][] want = {{0, 1, 1}, {1, 0, 0}, {0, 0, 0}, {0, 1, 1}, {0, 0, 0}, {0, 0, 0}};
        for (int f = 0; f < 6; f++) {
            for (int what = 1; what <= 3; what++) {
                due(want[f][what - 1], x.field(f, what), "field(" + f + ", " + what + ")");
            }
        }
        noField(-1, 0);
        noField(6, 0);
        noField(6, 3);
        noField(Integer.MIN_VALUE, 1);
        noField(Integer.MAX_VALUE, 2);
        noField(0, 4);
        noField(0, -1);
        begin(8);
        land("23" + "421" + "930");
        x.tides(1);
        due(3 - 1, x.dislikes(0, 0), "dislikes(0, 0)");
        due(3 + 2 - 1, x.dislikes(0, 1), "dislikes(0, 1)");
        due(9, x.dislikes(3, 0), "dislikes(3, 0)");
        due(2 - 1, x.dislikes(4, 0), "dislikes(4, 0)");
        due(1 + 2, x.dislikes(5, 1), "dislikes(5, 1)");
        x.wall(5);
        due(1 + 2, x.dislikes(5, 1), "dislikes of a wall");
        noDislike(-1, 0);
        noDislike(6, 0);
        noDislike(0, 2);
        noDislike(0, -1);
        noDislike(Integer.MAX_VALUE, 0);
    }

    private static void promise9() {
        begin(9);
        due(9, x.sheet(0, 4, 127, 1), "bytes of 127 ..");
        heights(9, 0, 0, 0);
        due(28, x.sheet(0, 4, 257 + 65536, 8), "bytes of 1, 9, 17, 25");
        heights(1, 9, 9, 9);
        due(9, x.sheet(1, 2, 32767, 1), "shorts of 32767, -32768");
        heights(9, 0, 0, 0);
        due(7, x.sheet(1, 1, 65536 * 3 + 7, 0), "a short of its lowest bits");
        due(9, x.sheet(2, 3, Integer.MAX_VALUE, 1), "ints that go round");
        heights(9, 0, 0, 0);
        due(1, x.sheet(2, 3, -1, 1), "ints from -1 on");
        heights(0, 0, 1, 0);
        due(6, x.sheet(2, 4, 3, -1), "falling ones");
        heights(3, 2, 1, 0);
        due(10, x.sheet(2, 36, 1, 1), "more entries than fields");
        heights(1, 2, 3, 4);
        due(-2, x.sheet(0, -1, 5, 5), "n below 0");
        due(-2, x.sheet(2, Integer.MIN_VALUE, 5, 5), "n below 0");
        due(NONE, x.sheet(4, 1, 5, 5), "another kind");
        due(NONE, x.sheet(-1, 1, 5, 5), "another kind");
        due(NONE, x.sheet(4, -1, 5, 5), "another kind, n below 0");
        due(NONE, x.sheet(1, 37, 5, 5), "37 entries");
        due(NONE, x.sheet(3, 37, 5, 5), "37 missing ones");
        heights(1, 2, 3, 4);
        due(0, x.count(11), "sheet() can't be undone");
        due(-3, x.sheet(3, -1, 5, 5), "a missing one");
        heights(0, 0, 0, 0);
        due(0, x.sheet(0, 0, 5, 5), "no entries");
        due(5, x.sheet(0, 1, 5, 5), "one entry");
        heights(5, 0, 0, 0);
        due(0, x.count(12), "sheet() tells no row");
    }

    // ---- tides go by

    /** Two rows of three, walls below 0 and 2; below first, from tide 2 on beside first: then a lake at 0. */
    private static void turningRiver() {
        land("23000000");
        x.wall(3);
        x.wall(5);
        x.source(1);
        rule("s=(t<2)");
    }

    private static void promise10() {
        begin(10);
        land("33" + "900" + "990" + "909");
        due(1, x.tides(1), "tides(1)");
        // 0 1 2 5 8: scoured; 3, 4 and 7 lie beside.
        heights(8, 0, 0, 9, 9, 0, 9, 1, 8);
        row(44, 5);
        due(1, x.count(3), "count(3)");
        due(0, x.count(4), "count(4)");
        due(0, x.tides(0), "tides(0)");
        row(44, 5);
        due(2, x.count(11), "tides(0) can be undone");
        due(NONE, x.tides(-1), "tides(-1)");
        due(NONE, x.tides(61), "tides(61)");
        row(44, 5);
        due(60, x.tides(60), "tides(60)");
        due(61, x.count(3), "count(3)");
        begin(10);
        turningRiver();
        due(2, x.tides(3), "tides(3), the third a lake");
        heights(4, 0, 3, 0, 1, 0);
        row(8, 2);
        due(1, x.count(4), "count(4)");
        due(1, x.field(0, 2), "field(0, 2)");
        due(0, x.field(4, 2), "field(4, 2)");
        begin(10);
        land("229000");
        x.wall(1);
        x.wall(2);
        due(0, x.tides(1), "a lake");
        heights(9, 0, 0, 0);
        x.wall(0);
        due(0, x.tides(2), "no course at all");
        row(9, 0);
        due(3, x.count(4), "count(4)");
        heights(9, 0, 0, 0);
        for (int i = 0; i < 170; i++) {
            x.tides(60);
        }
        due(9999, x.count(4), "lakes are 9999 at most");
        due(3 + 170 * 60, x.count(3), "count(3)");
    }

    private static void promise11And12() {
        begin(11);
        land("225090");
        due(NONE, x.cut(4, 1), "cut(4, 1)");
        due(NONE, x.cut(-1, 1), "cut(-1, 1)");
        due(NONE, x.cut(0, 0), "cut(0, 0)");
        due(NONE, x.cut(0, 10), "cut(0, 10)");
        due(NONE, x.cut(4, 10), "cut(4, 10)");
        due(-2, x.cut(0, 6), "cut(0, 6)");
        due(-2, x.cut(1, 1), "cut(1, 1)");
        due(0, x.count(11), "what can be undone");
        due(2, x.cut(0, 3), "cut(0, 3)");
        due(0, x.cut(2, 9), "cut(2, 9)");
        heights(2, 0, 0, 0);
        x.wall(0);
        due(1, x.cut(0, 1), "cut(0, 1) at a wall");
        begin(12);
        land("225090");
        due(NONE, x.heap(4, 1), "heap(4, 1)");
        due(NONE, x.heap(-1, 1), "heap(-1, 1)");
        due(NONE, x.heap(0, 0), "heap(0, 0)");
        due(NONE, x.heap(0, 10), "heap(0, 10)");
        due(-3, x.heap(0, 5), "heap(0, 5)");
        due(-3, x.heap(2, 1), "heap(2, 1)");
        due(0, x.count(11), "what can be undone");
        due(9, x.heap(0, 4), "heap(0, 4)");
        due(9, x.heap(1, 9), "heap(1, 9)");
        due(1, x.heap(3, 1), "heap(3, 1)");
        heights(9, 9, 9, 1);
    }

    private static void promise13And14() {
        begin(13);
        land("33000000000");
        due(NONE, x.wall(9), "wall(9)");
        due(NONE, x.wall(-1), "wall(-1)");
        for (int i = 0; i < 8; i++) {
            due(i + 1, x.wall(i), "wall(" + i + ")");
        }
        due(-2, x.wall(8), "a ninth wall");
        due(8, x.count(6), "count(6)");
        due(8, x.count(11), "what can be undone");
        due(7, x.wall(3), "wall(3) again");
        due(0, x.field(3, 1), "field(3, 1)");
        due(8, x.wall(8), "wall(8)");
        begin(14);
        land("23000000");
        due(NONE, x.source(3), "source(3)");
        due(NONE, x.source(-1), "source(-1)");
        due(-2, x.source(0), "source(0)");
        due(0, x.count(11), "what can be undone");
        due(0, x.source(2), "source(2)");
        due(2, x.source(1), "source(1)");
        due(1, x.count(2), "count(2)");
        due(1, x.course(), "course()");
        row(1, 4);
        x.wall(0);
        due(1, x.source(0), "source(0), a wall");
        due(LAKE, x.course(), "course()");
        row();
    }

    private static void promise15() {
        begin(15);
        x.draught();
        row(0);
        String[] texts = {"x", "n", "nx", "n1x", "c", "c0", "c00", "c000", "c00x", "cx", "h000", "w", "w0", "w0x", "s",
            "sx", "n12", "w00s", "N1", times("n1", 29) + "w00", times("n1", 30) + "x", times("n1", 30) + "n1",
            times("n1", 29) + "nw", times("n1", 29) + "c000", times("n1", 29) + "n", times("w00", 19) + "c002"};
        int[] places = {0, 1, 1, 2, 1, 2, 3, 3, 3, 1, 3, 1, 2, 2, 1, 1, 2, 4, 0, 60, 60, 60, 59, 60, 59, 60};
        for (int i = 0; i < texts.length; i++) {
            year(texts[i], -1 - places[i]);
        }
        row(0);
        due(0, x.count(11), "what can be undone");
        due(0, x.count(3), "count(3)");
        year("", 0);
        row(0, 0);
        due(0, x.count(11), "nothing can be undone");
        year(times("n0", 30), 30);
        row(0, 0);
        due(1, x.count(11), "a year is undone as one");
        begin(15);
        land("33000000000");
        year("h004c001h129w20s2n3", 6);
        row(0, 3);
        due(2, x.count(2), "count(2)");
        due(1, x.count(6), "count(6)");
        due(1, x.field(6, 1), "field(6, 1)");
        due(4 - 1 + 3, x.field(0, 0), "field(0, 0), thrice beside the course");
        due(1, x.count(11), "a year is undone as one");
        due(0, x.undo(), "undo()");
        due(0, x.count(5) + x.count(6) + x.count(2) + x.count(3), "all is as ahead of it");
        // What is refused ends the year: not so much, more than 9, no such field or column, there already.
        String[] refused = {"n1c221n1", "n1h229h229n1", "n1w03n1", "n1w30n1", "n1c301n1", "n1h031n1", "n1s3n1", "n1s0n1",
            "n1s9n1"};
        for (int i = 0; i < refused.length; i++) {
            begin(15);
            land("33000000000");
            year(refused[i], i == 1 ? 2 : 1);
            row(1, 1);
            due(1, x.count(11), "what can be undone");
        }
        begin(15);
        land("33000000000");
        year("w00w01w02w10w11w12w20w21w22", 8);
        row(1, 0);
        year("w22n1", 0);
        row(1, 0);
        due(1, x.count(11), "a year without an act can't be undone");
        due(0, x.count(3), "count(3)");
    }

    private static void promise16() {
        begin(16);
        land("23111111");
        due(NONE, x.undo(), "undo()");
        x.tides(2);
        x.cut(5, 1);
        x.heap(5, 3);
        x.wall(1);
        x.source(1);
        year("n1", 1);
        x.cut(0, 9);
        x.heap(0, 99);
        due(6, x.count(11), "what can be undone");
        due(3, x.count(3), "count(3)");
        due(1, x.count(4), "count(4)");
        due(0, x.count(7), "count(7)");
        due(5, x.undo(), "undo() of year()");
        heights(0, 3, 1, 0, 3, 3);
        due(1, x.count(2), "count(2)");
        due(1, x.count(6), "count(6)");
        due(2, x.count(3), "count(3)");
        due(0, x.count(4), "count(4)");
        due(2, x.count(7), "count(7)");
        due(4, x.undo(), "undo() of source()");
        due(0, x.count(2), "count(2)");
        due(1, x.count(6), "count(6)");
        due(3, x.undo(), "undo() of wall()");
        due(0, x.count(6), "count(6)");
        due(3, x.field(5, 0), "field(5, 0)");
        due(2, x.undo(), "undo() of heap()");
        due(0, x.field(5, 0), "field(5, 0)");
        due(1, x.undo(), "undo() of cut()");
        due(1, x.field(5, 0), "field(5, 0)");
        heights(0, 3, 1, 0, 3, 1);
        due(0, x.undo(), "undo() of tides()");
        heights(1, 1, 1, 1, 1, 1);
        due(0, x.count(7), "count(7)");
        due(0, x.count(3), "count(3)");
        due(NONE, x.undo(), "undo() of none");
        begin(16);
        land("66" + times("0", 36));
        for (int i = 0; i < 20; i++) {
            x.heap(i, 1);
        }
        due(15, x.count(11), "fifteen are kept");
        for (int i = 14; i >= 0; i--) {
            due(i, x.undo(), "undo()");
        }
        due(NONE, x.undo(), "undo() of the sixteenth");
        due(5, x.count(5), "the first five stay");
        x.heap(0, 1);
        due(1, x.count(11), "what can be undone");
        text("2");
        x.land();
        due(1, x.count(11), "a refused land() forgets none");
        due(false, x.again(0), "again(0)");
        due(1, x.count(11), "a refused again() forgets none");
        land("220000");
        due(NONE, x.undo(), "land() forgets them");
    }

    // ---- where it goes

    private static void promise17And18() {
        begin(17);
        land("33" + "900" + "990" + "909");
        due(2, x.course(), "course()");
        row(0, 1, 2, 5, 8);
        land("33" + "000" + "999" + "999");
        due(2, x.course(), "below is 9, beside is 2");
        row(0, 1, 2, 5, 8);
        x.wall(5);
        due(LAKE, x.course(), "it does not go back");
        row(0, 1, 2);
        x.wall(2);
        due(1, x.course(), "course() between walls");
        row(0, 1, 4, 7);
        x.source(1);
        due(0, x.course(), "course() to the left");
        row(1, 0, 3, 6);
        x.wall(1);
        due(LAKE, x.course(), "a wall at the source");
        row();
        land("23" + "303" + "999");
        x.source(1);
        rule("0");
        due(1, x.course(), "of equal ones the one below");
        rule("-s");
        due(0, x.course(), "of equal ones the left one");
        row(1, 0, 3);
        begin(18);
        turningRiver();
        due(1, x.ahead(0), "ahead(0)");
        row(2, 0);
        due(1, x.ahead(1), "ahead(1)");
        row(2, 2);
        due(LAKE, x.ahead(2), "ahead(2)");
        row(2, 4);
        due(NONE, x.ahead(-1), "ahead(-1)");
        due(NONE, x.ahead(100), "ahead(100)");
        row(2, 4);
        due(LAKE, x.ahead(93), "tide 93 by 7 is 2");
        due(1, x.ahead(99), "tide 99 by 7 is 1");
        due(0, x.count(3), "a question changes nothing");
        due(0, x.count(5), "a question changes nothing");
        begin(18);
        x.wall(0);
        due(LAKE, x.ahead(3), "ahead(3) of no course");
        row(0, 0);
    }

    private static void promise19To22() {
        begin(19);
        turningRiver();
        due(2, x.sits(), "sits()");
        row(0);
        due(0, x.count(3) + x.count(4), "a question changes nothing");
        x.tides(1);
        due(1, x.sits(), "sits() a tide later");
        rule("s");
        due(-2, x.sits(), "sits() of none");
        row(0);
        x.wall(1);
        due(0, x.sits(), "sits() of no course");
        row(NONE);
        begin(19);
        land("220000");
        rule("s=(t<2)");
        x.wall(3);
        due(2, x.sits(), "sits()");
        row(1);
        promise19Last();
        begin(20);
        turningRiver();
        due(NONE, x.alters(0), "alters(0)");
        due(NONE, x.alters(100), "alters(100)");
        due(-2, x.alters(1), "alters(1)");
        due(-2, x.alters(2), "alters(2)");
        due(0, x.count(12), "no row yet");
        due(2, x.alters(3), "alters(3)");
        row(LAKE);
        x.wall(3);
        due(2, x.alters(99), "alters(99)");
        row(0);
        due(0, x.count(3), "a question changes nothing");
        begin(21);
        turningRiver();
        due(NONE, x.mouths(0), "mouths(0)");
        due(NONE, x.mouths(100), "mouths(100)");
        due(2, x.mouths(3), "mouths(3)");
        row(0, 2, 0, 1);
        x.wall(3);
        due(3, x.mouths(8), "mouths(8)");
        row(5, 3, 0, 0);
        x.wall(1);
        due(0, x.mouths(99), "mouths(99)");
        row(0, 0, 0, 99);
        begin(22);
        turningRiver();
        due(NONE, x.dry(0), "dry(0)");
        due(NONE, x.dry(100), "dry(100)");
        due(4 + 8 + 32, x.dry(3), "dry(3)");
        row(3, 1);
        due(1 + 4 + 8 + 32, x.dry(1), "dry(1)");
        row(4, 2);
        due(1 + 4 + 8 + 32, x.dry(2), "dry(2)");
        row(4, 2);
        begin(22);
        land("66" + times("0", 36));
        due((1L << 36) - 1 - (1L | 1L << 6 | 1L << 12 | 1L << 18 | 1L << 24 | 1L << 30), x.dry(99), "dry(99)");
        row(30, 6);
    }

    // The forces come round by 20, t by 7: the tides 99 and 119 are the first where f is 1 and t is 1, or 0.
    private static void promise19Last() {
        begin(19);
        text(times("0", 19) + "1");
        x.force();
        x.wall(3);
        rule("(f=1)*(t=1)*(1-2*s)+s*(t<0)");
        due(0, x.ahead(98), "ahead(98)");
        due(99, x.sits(), "sits() in the last one");
        row(1);
        rule("(f=1)*(t=0)*(1-2*s)+s*(t<0)");
        due(-2, x.sits(), "sits() in tide 119");
        x.tides(20);
        due(99, x.sits(), "sits() in tide 119");
    }

    // ---- walls that turn it

    private static void promise23And24() {
        begin(23);
        land("33000000000");
        x.source(1);
        due(NONE, x.sends(3), "sends(3)");
        due(NONE, x.sends(-1), "sends(-1)");
        due(0, x.sends(1), "sends(1)");
        row();
        due(1, x.sends(0), "sends(0)");
        row(4);
        due(2, x.sends(2), "sends(2)");
        row(0, 4);
        due(0, x.count(6), "a question changes nothing");
        x.wall(0);
        due(1, x.sends(2), "sends(2)");
        row(4);
        x.wall(1);
        due(-2, x.sends(1), "sends(1) from a wall");
        row(4);
        land("66" + times("0", 36));
        due(-2, x.sends(5), "sends(5) by no three");
        due(3, x.sends(3), "sends(3)");
        row(6, 7, 8);
        int[] aside = {5, 11, 17, 23, 29, 35, 4, 10};
        for (int field : aside) {
            x.wall(field);
        }
        due(1, x.sends(1), "a ninth wall");
        row(6);
        begin(24);
        land("33000000000");
        x.source(1);
        due(2, x.stops(), "stops()");
        row(3, 4);
        x.wall(0);
        x.wall(2);
        due(1, x.stops(), "stops()");
        row(4);
        x.wall(4);
        due(0, x.stops(), "stops() of a lake");
        row();
        land("66" + times("0", 36));
        x.source(3);
        due(3, x.stops(), "stops() by three");
        row(1, 8, 9);
        x.wall(3);
        due(0, x.stops(), "a wall at the source");
        row();
    }

    private static void promise25And26() {
        begin(25);
        due(2, x.longest(), "longest(): a wall below, round it");
        row(3, 2);
        due(0, x.count(6), "a question changes nothing");
        x.wall(1);
        x.wall(2);
        due(3, x.longest(), "longest() of a lake");
        row(1, 1);
        x.wall(3);
        due(-2, x.longest(), "longest() of none");
        row(1, 1);
        begin(25);
        x.wall(0);
        due(1, x.longest(), "a wall at the source");
        row(0, 0);
        x.source(1);
        x.wall(0);
        due(3, x.longest(), "from column 1");
        row(3, 2);
        x.wall(1);
        due(0, x.longest(), "a wall at the source");
        row(0, 0);
        land("36" + times("0", 18));
        int[] walls = {6, 7, 8, 9, 10, 12, 13, 14};
        for (int field : walls) {
            x.wall(field);
        }
        due(15, x.longest(), "a ninth wall, the first that does not shorten it");
        row(8, 8);
        begin(26);
        due(-2, x.least(), "least() of nothing to cut");
        land("22" + "0309");
        due(-2, x.least(), "below is 0");
        land("22" + "0550");
        due(3, x.least(), "beside 5 + 2, below 5: 1 + 2 less");
        row(1);
        heights(0, 5, 5, 0);
        land("22" + "0350");
        due(1, x.least(), "beside 3 + 2, below 5");
        row(1);
        land("22" + "0930");
        due(9, x.least(), "beside 9 + 2, below 3");
        row(1);
        land("22" + "3005");
        x.source(1);
        due(1, x.least(), "beside 3 + 2, below 5, from column 1");
        row(0);
        land("22" + "0340");
        due(2, x.least(), "beside 3 + 2, below 4");
        row(1);
        x.wall(1);
        due(-2, x.least(), "a wall beside");
        row(1);
        land("23" + "202" + "555");
        x.source(1);
        rule("h");
        due(0, x.course(), "course() by h");
        due(1, x.least(), "the first of as little");
        row(2);
    }

    // ---- ships

    private static void promise27() {
        begin(27);
        land("32" + "39" + "59" + "59");
        due(4, x.draught(), "draught()");
        row(2);
        land("32" + "99" + "59" + "59");
        due(0, x.draught(), "a field of 9");
        row(0);
        land("32" + "00" + "09" + "00");
        due(9, x.draught(), "a deep one");
        row(0);
        x.wall(2);
        x.wall(3);
        due(0, x.draught(), "a lake");
        row(0);
        x.heap(1, 1);
        due(0, x.draught(), "a lake");
        row(1);
        x.wall(0);
        due(0, x.draught(), "no course");
        row(NONE);
    }

    private static void promise28() {
        begin(28);
        timetable("1234", 3, 3);
        row(NONE, 0, 1, 2);
        timetable("9", 1, 1);
        row(0);
        String[] texts = {"", "0", "10", "1x", "123456789", "12345678x", "1234567x9", "12345678901"};
        int[] places = {0, 0, 1, 1, 8, 8, 7, 8};
        for (int i = 0; i < texts.length; i++) {
            timetable(texts[i], 20, -1 - places[i]);
        }
        timetable("1", 0, -100);
        timetable("1", 21, -100);
        timetable("x", -1, -100);
        row(0);
        // Its bar of 5 is scoured tide by tide: ships of 4, 5, 6, 7, 8, 9 come in.
        land("22" + "5050");
        timetable("5", 1, 0);
        row(NONE);
        timetable("9544", 2, 2);
        row(NONE, NONE, 0, 1);
        timetable("4954", 2, 2);
        row(NONE, NONE, 1, 0);
        timetable("987654", 6, 6);
        row(5, 4, 3, 2, 1, 0);
        timetable("99", 20, 2);
        row(5, 6);
        timetable("11111111", 20, 8);
        row(0, 1, 2, 3, 4, 5, 6, 7);
        due(0, x.count(3), "a question changes nothing");
        x.wall(0);
        timetable("11", 20, 0);
        row(NONE, NONE);
    }

    private static void promise29And30() {
        begin(29);
        land("33" + "090" + "080" + "000");
        due(NONE, x.way(0), "way(0)");
        due(NONE, x.way(10), "way(10)");
        due(3, x.way(9), "way(9)");
        row(0, 3, 6);
        x.wall(6);
        due(4, x.way(1), "way(1)");
        row(0, 3, 4, 7);
        due(-2, x.way(2), "way(2)");
        row(0, 3, 4, 7);
        x.source(1);
        due(-2, x.way(1), "the source is too high");
        x.cut(1, 1);
        due(3, x.way(1), "way(1)");
        row(1, 4, 7);
        x.wall(1);
        due(-2, x.way(1), "a wall at the source");
        land("33000000000");
        x.source(1);
        x.wall(7);
        due(4, x.way(9), "of as few the least row");
        row(1, 0, 3, 6);
        land("45" + "09000" + "09090" + "00090" + "99990");
        due(12, x.way(1), "up again");
        row(0, 5, 10, 11, 12, 7, 2, 3, 4, 9, 14, 19);
        begin(30);
        due(2, x.arms(), "arms()");
        row(6);
        x.wall(2);
        due(1, x.arms(), "arms()");
        row(2);
        x.wall(1);
        due(0, x.arms(), "no way");
        row(0);
        x.wall(0);
        x.wall(1);
        x.wall(2);
        due(0, x.arms(), "a wall at the source");
        row(0);
        land("33999999999");
        x.source(1);
        due(3, x.arms(), "arms()");
        row(1 + 4 + 16);
        land("43" + times("0", 12));
        x.source(1);
        x.wall(6);
        x.wall(8);
        due(1, x.arms(), "a narrow");
        row(16);
        x.wall(6);
        x.wall(2);
        due(2, x.arms(), "arms()");
        row(1 + 16);
    }

    // ---- which source it was

    private static void promise31To34() {
        begin(31);
        land("33000000000");
        due(NONE, x.seen(-1, 0, 0), "seen(-1, 0, 0)");
        due(NONE, x.seen(21, 0, 0), "seen(21, 0, 0)");
        due(NONE, x.seen(0, -1, 0), "seen(0, -1, 0)");
        due(NONE, x.seen(0, 9, 0), "seen(0, 9, 0)");
        due(NONE, x.seen(0, 0, -1), "seen(0, 0, -1)");
        due(NONE, x.seen(0, 0, 2), "seen(0, 0, 2)");
        for (int i = 1; i <= 10; i++) {
            due(i, x.seen(i * 2, 8, 1), "seen()");
        }
        due(NONE, x.seen(0, 0, 0), "an eleventh");
        due(10, x.count(9), "count(9)");
        due(4, x.fits(), "fits()");
        goOn("promise 32");
        due(10, x.forget(), "forget()");
        due(0, x.forget(), "forget() of none");
        due(0, x.count(9), "count(9)");
        due(1, x.seen(0, 0, 0), "seen() anew");
        begin(33);
        land("33000000000");
        due(7, x.fits(), "nothing was seen");
        row(3);
        x.seen(0, 0, 1);
        due(1, x.fits(), "fits()");
        row(1);
        x.seen(0, 1, 1);
        due(0, x.fits(), "fits() of none");
        row(0);
        due(-2, x.reed(0), "reed(0) of none");
        row(0);
        x.forget();
        x.seen(0, 4, 0);
        due(5, x.fits(), "fits()");
        row(2);
        x.wall(2);
        x.seen(20, 5, 0);
        due(5, x.fits(), "a source at a wall has no course");
        x.seen(20, 8, 1);
        due(0, x.fits(), "fits() of none");
        due(0, x.count(3) + x.count(2), "a question changes nothing");
        // From the next tide on it goes left: from column 1 and 2 by column 0, from 0 by column 2.
        begin(33);
        land("23000000");
        rule("s=(t<1)");
        x.seen(1, 3, 1);
        due(6, x.fits(), "fits() a tide ahead");
        x.seen(0, 4, 1);
        due(2, x.fits(), "fits() now and a tide ahead");
        begin(34);
        due(NONE, x.reed(-1), "reed(-1)");
        due(NONE, x.reed(21), "reed(21)");
        due(0, x.reed(20), "reed(20)");
        row(1);
        land("33000000000");
        due(0, x.reed(0), "reed(0)");
        row(2);
        x.seen(0, 0, 0);
        due(1, x.reed(0), "reed(0)");
        row(1);
        x.seen(0, 1, 0);
        due(0, x.reed(0), "reed(0) with one left");
        row(1);
        land("24" + times("0", 8));
        rule("-s");
        due(3, x.reed(0), "reed(0)");
        row(2);
        due(0, x.count(3) + x.count(2), "a question changes nothing");
    }

    // ---- laws of choosing

    private static void promise35To37() {
        begin(35);
        land("23000000");
        due(NONE, x.marked(-1, 0), "marked(-1, 0)");
        due(NONE, x.marked(3, 0), "marked(3, 0)");
        due(NONE, x.marked(6, 0), "marked(6, 0)");
        due(NONE, x.marked(0, -1), "marked(0, -1)");
        due(NONE, x.marked(0, 3), "marked(0, 3)");
        for (int i = 1; i <= 10; i++) {
            due(i, x.marked(i % 3, 0), "marked()");
        }
        due(NONE, x.marked(0, 0), "an eleventh");
        due(10, x.count(10), "count(10)");
        goOn("promise 36");
        due(10, x.wiped(), "wiped()");
        due(0, x.wiped(), "wiped() of none");
        due(0, x.count(10), "count(10)");
        begin(37);
        land("23" + "503" + "429");
        due(64, x.laws(), "no marks");
        row(0, 0, 0);
        x.marked(1, 0);
        due(64, x.laws(), "below is the least and the first");
        row(0, 0, 0);
        x.marked(0, 2);
        due(48, x.laws(), "right, if b is below 4 a");
        row(1, 0, 0);
        x.marked(1, 2);
        due(0, x.laws(), "no law fits");
        row();
        x.wiped();
        x.marked(0, 1);
        due(0, x.laws(), "there is no field to the left");
        row();
        begin(37);
        x.marked(1, 1);
        x.tides(1);
        // Below 1 + 0, left 0 and the bed: left, if b - c is below a.
        due(6 + 10 + 13 + 15, x.laws(), "as it is when it is asked");
        row(0, 0, 1);
        x.wall(1);
        due(44, x.laws(), "a wall there aside");
        x.wall(0);
        due(0, x.laws(), "a wall to the left");
        x.wall(0);
        x.wall(3);
        due(64, x.laws(), "a wall below");
        row(0, 0, 0);
        x.wall(0);
        due(0, x.laws(), "it sits down");
        row();
        rule("0");
        x.wall(0);
        due(64, x.laws(), "whatever the rule is");
    }

    // ---- harbours, tides by chance, another rule

    private static void promise38And39() {
        begin(38);
        int[][] bars = {{0, 1, 0}, {0, 9, 0}, {1, 1, 1}, {60, 1, 1}, {3, 2, 0}, {4, 2, 1}, {5, 2, 1}, {6, 2, 0},
            {3, 3, 3}, {4, 3, 0}, {6, 3, 1}, {7, 3, 3}, {9, 9, 9}, {-1, 1, NONE}, {61, 1, NONE}, {5, 0, NONE},
            {5, 10, NONE}, {61, 10, NONE}};
        for (int[] bar : bars) {
            due(bar[2], x.bar(bar[0], bar[1]), "bar(" + bar[0] + ", " + bar[1] + ")");
        }
        due(0, x.count(12), "bar() tells no row");
        begin(39);
        long most = 1000000000000L;
        long[][] chances = {{3, 2, 5, 3, 8}, {12, 1, 1, 717570463519L, most}, {12, 12, 10, 1, 1}, {1, 1, 3, 3, 10},
            {4, 2, 0, 0, 1}, {2, 2, 4, 4, 25}, {5, 6, 10, 0, 1}, {12, 12, 1, 1, most}, {1, 12, 5, 0, 1},
            {4, 2, 5, 1, 2}};
        for (long[] c : chances) {
            due(0, x.open((int) c[0], (int) c[1], (int) c[2]), "open()");
            row(c[3], c[4]);
        }
        int[][] others = {{0, 1, 5}, {13, 1, 5}, {1, 0, 5}, {1, 13, 5}, {1, 1, -1}, {1, 1, 11}};
        for (int[] o : others) {
            due(NONE, x.open(o[0], o[1], o[2]), "open() of others");
        }
        row(1, 2);
    }

    private static void promise40() {
        begin(40);
        land("23000000");
        x.source(1);
        law("-s", 0);
        row(3, 2);
        law("", 1);
        row(2, 2);
        law("s*c+(1-s)*2", 0);
        law("s*(2-c)+(1-s)*2", 2);
        row(3, 2);
        due(1, x.course(), "the rule stays");
        rule("-s");
        law("", 1);
        row(2, 3);
        law("h(", -10001);
        row(2, 3);
        x.wall(3);
        law("0-s", LAKE);
        row(2, 2);
        law("s", 1);
        row(2, 2);
        x.wall(1);
        law("s", LAKE);
        row(0, 0);
    }

    // ---- rests, years

    private static void promise41() {
        begin(41);
        due(NONE, x.rests(-1), "rests(-1)");
        due(NONE, x.rests(21), "rests(21)");
        due(0, x.count(12), "no row yet");
        int[] pairs = {2, 2, 2, 2, 2, 4, 4, 12, 12, 12, 11, 11, 11, 11, 11, 11, 11, 11, 11, 10, 10};
        for (int v = 0; v <= 20; v++) {
            due(pairs[v], x.rests(v), "rests(" + v + ")");
            if (v < 8) {
                row(0, 0);
            } else {
                row(0, 9);
            }
        }
    }

    private static void promise42() {
        begin(42);
        due(NONE, x.years(1, 0), "years(1, 0)");
        due(NONE, x.years(1, 61), "years(1, 61)");
        due(0, x.count(12), "no row yet");
        // By 14: five tides. By 1: 1 is cut off field 2. By 5: a wall at field 1, a tide. By 17: a wall at 0, a tide.
        due(5, x.years(14, 5), "years(14, 5)");
        row(10, 0);
        due(0, x.years(1, 1), "years(1, 1), nothing to cut");
        row(0, 0);
        due(1, x.years(5, 2), "years(5, 2)");
        row(1, 0);
        x.wall(1);
        due(1, x.years(5, 2), "years(5, 2), the wall is taken away");
        row(2, 0);
        due(0, x.years(17, 2), "years(17, 2)");
        row(0, 1);
        land("229999");
        due(0, x.years(1, 1), "years(1, 1)");
        row(35, 0);
        due(true, x.years(14, 60) >= 0, "years(14, 60)");
        due(36, x.count(5), "nothing is changed");
        due(0, x.count(3) + x.count(4) + x.count(6) + x.count(11), "nothing is changed");
    }

    // ---- kept

    private static void promise43And44() {
        begin(43);
        land("23111111");
        due(false, x.keep(-1), "keep(-1)");
        due(false, x.keep(3), "keep(3)");
        due(false, x.keep(64), "keep(64)");
        due(false, x.again(0), "again(0) of nothing");
        due(true, x.keep(0), "keep(0)");
        x.tides(2);
        x.wall(5);
        x.source(2);
        due(true, x.keep(2), "keep(2)");
        due(3, x.count(11), "keep() forgets nothing");
        int sum = x.count(5);
        x.wall(2);
        x.tides(1);
        due(1, x.count(4), "count(4)");
        goOn("promise 44");
        due(false, x.again(1), "again(1)");
        due(false, x.again(-1), "again(-1)");
        due(false, x.again(3), "again(3)");
        due(false, x.again(64), "again(64)");
        due(false, x.again(-64), "again(-64)");
        due(5, x.count(11), "a refused again() forgets nothing");
        due(true, x.again(2), "again(2)");
        int[] counts = {2, 3, 2, 2, 0, sum, 1, 2, 0, 0, 0, 0, 2, 0};
        for (int i = 0; i < counts.length; i++) {
            due(counts[i], x.count(i), "count(" + i + ")");
        }
        due(NONE, x.undo(), "undo() behind again()");
        x.heap(0, 1);
        due(true, x.again(0), "again(0)");
        heights(1, 1, 1, 1, 1, 1);
        due(0, x.count(2) + x.count(3) + x.count(6) + x.count(7), "all is as it was kept");
        due(true, x.again(2), "again(2) once more");
        due(sum, x.count(5), "count(5)");
        due(true, x.keep(0), "keep(0) anew");
        x.tides(1);
        x.again(0);
        due(sum, x.count(5), "count(5)");
        text("2");
        x.land();
        due(true, x.again(0), "again(0) behind a refused land()");
        land("220000");
        due(false, x.again(0), "again(0) behind land()");
    }

    private static void promise45And46() {
        begin(45);
        land("34" + times("1", 12));
        text("05");
        x.force();
        x.source(2);
        x.wall(0);
        x.tides(1);
        x.seen(0, 0, 1);
        x.seen(0, 1, 1);
        x.marked(0, 0);
        x.sign(0);
        // 2, 6 and 10 are scoured; 1, 3, 5, 7, 9, 11 lie beside.
        int[] counts = {3, 4, 2, 1, 0, 12 - 3 + 6, 1, 3, 5, 2, 1, 3, 2, 4};
        for (int i = 0; i < counts.length; i++) {
            due(counts[i], x.count(i), "count(" + i + ")");
        }
        due(-100, x.count(-1), "count(-1)");
        due(-100, x.count(14), "count(14)");
        due(-100, x.count(Integer.MIN_VALUE), "count(least)");
        x.source(0);
        x.tides(2);
        due(2, x.count(4), "count(4)");
        begin(46);
        noRow(0);
        x.course();
        due(0, x.row(0), "row(0)");
        due(2, x.row(1), "row(1)");
        noRow(2);
        noRow(-1);
        noRow(Integer.MAX_VALUE);
        noRow(Integer.MIN_VALUE);
        x.count(0);
        x.wall(3);
        x.ahead(100);
        row(0, 2);
        due(1, x.stops(), "stops()");
        row(2);
        x.open(12, 12, 1);
        due(1000000000000L, x.row(1), "row(1) of a long");
    }
}
