/** The promises of the document, one method each: ordinary inputs, the edges that it names, wrong inputs. */
public final class PromiseTests {
    private static final int NONE = -1, UNKNOWN = -101, OUTSIDE = -102, STATE = -103, FULL = -104;
    private static final int SET = 0, COPY = 1, ADD = 2, AND = 3, UNLIKE = 4, HALF = 5;
    private static final int JUMP = 6, IF = 7, TELL = 8, FROM = 9, TO = 10, END = 11;
    private static final int LEAST = Integer.MIN_VALUE, MOST = Integer.MAX_VALUE;
    private static int wrong = 0;
    private static int asked = 0;

    public static void main(String[] args) {
        promise1();
        promise2();
        promise3();
        promise4();
        promise5();
        promise6();
        promise7();
        promise8();
        promise9and10();
        promise11();
        promise12();
        promise13();
        promise13checks();
        promise14();
        promise15();
        promise16();
        promise17();
        promise18();
        promise19();
        promise20();
        promise20ties();
        promise21();
        promise22();
        promise23();
        promise24();
        promise25();
        longestRun();
        twelveUnlike();
        sixtiethSearch();
        widthsInTurn();
        refusalsChangeNothing();
        System.out.println("PromiseTests: " + asked + " answers, " + wrong + " wrong");
        if (wrong != 0) {
            System.exit(1);
        }
    }

    private static void due(String what, long got, long want) {
        asked++;
        if (got != want) {
            wrong++;
            System.out.println(what + ": answered " + got + ", due is " + want);
        }
    }

    /** Orders as triples. */
    private static StruckBits program(int... orders) {
        StruckBits x = new StruckBits();
        for (int i = 0; i < orders.length; i += 3) {
            due("order " + i / 3, x.order(orders[i], orders[i + 1], orders[i + 2]), i / 3 + 1);
        }
        return x;
    }

    private static void promise1() {
        StruckBits x = new StruckBits();
        due("1 orders", x.size(0), 0);
        due("1 cells with a check", x.size(1), 0);
        due("1 searches", x.size(2), 0);
        due("1 run", x.run(), 0);
        due("1 ticks", x.ticks(), 0);
        due("1 costs", x.costs(), 0);
        for (int c = 0; c < 8; c++) {
            due("1 after", x.after(c), 0);
            due("1 chosen", x.chosen(c), NONE);
            due("1 cell", x.cell(c, 9), 0);
            due("1 check", x.check(c, 0), 0);
        }
        due("1 another object is not touched", new StruckBits().cell(0, 0), 0);
    }

    private static void promise2() {
        int[][] good = {
            {SET, 0, 0}, {SET, 7, 255}, {COPY, 0, 7}, {ADD, 7, 0}, {AND, 7, 7}, {UNLIKE, 0, 0}, {HALF, 7, LEAST},
            {JUMP, 0, MOST}, {JUMP, 19, -1}, {IF, 7, 19}, {IF, 0, 0}, {TELL, 7, 8}, {FROM, 7, 7}, {TO, 7, 7},
            {END, MOST, LEAST}, {END, -1, 300}};
        int[][] bad = {
            {-1, 0, 0}, {12, 0, 0}, {LEAST, 0, 0}, {MOST, 0, 0}, {SET, -1, 0}, {SET, 8, 0}, {SET, 0, -1}, {SET, 0, 256},
            {COPY, 8, 0}, {COPY, 0, 8}, {COPY, -1, 0}, {COPY, 0, -1}, {ADD, 8, 0}, {ADD, 0, 8}, {AND, 8, 0}, {AND, 0, 8},
            {UNLIKE, 8, 0}, {UNLIKE, 0, 8}, {HALF, 8, 0}, {HALF, -1, 0}, {JUMP, 20, 0}, {JUMP, -1, 0}, {IF, 8, 0},
            {IF, 0, 20}, {IF, 0, -1}, {TELL, 8, 0}, {TELL, -1, 0}, {FROM, 8, 0}, {FROM, 0, 8}, {TO, 8, 0}, {TO, 0, 8}};
        StruckBits x = new StruckBits();
        for (int i = 0; i < good.length; i++) {
            due("2 good order " + i, x.order(good[i][0], good[i][1], good[i][2]), i + 1);
        }
        for (int i = 0; i < bad.length; i++) {
            due("2 bad order " + i, x.order(bad[i][0], bad[i][1], bad[i][2]), OUTSIDE);
            due("2 bad order, changed " + i, x.change(0, bad[i][0], bad[i][1], bad[i][2]), OUTSIDE);
        }
        due("2 still so many", x.size(0), good.length);
        for (int n = good.length + 1; n <= 20; n++) {
            due("2 up to 20", x.order(END, 0, 0), n);
        }
        due("2 full", x.order(END, 0, 0), FULL);
        due("2 outside comes first", x.order(SET, 0, 256), OUTSIDE);
        due("2 still 20", x.size(0), 20);
    }

    private static void promise3() {
        StruckBits x = program(TELL, 0, 0, TELL, 1, 0);
        x.cell(2, 77);
        due("3 run before", x.told(1), 0);
        due("3 change", x.change(1, TELL, 2, 5), 1);
        due("3 changed", x.told(1), 77);
        due("3 the other is not", x.told(0), 0);
        due("3 still two", x.size(0), 2);
        due("3 unknown", x.change(2, TELL, 2, 0), UNKNOWN);
        due("3 unknown below", x.change(-1, TELL, 2, 0), UNKNOWN);
        due("3 unknown comes first", x.change(2, 12, 0, 0), UNKNOWN);
        due("3 unknown far", x.change(MOST, TELL, 0, 0), UNKNOWN);
        due("3 outside", x.change(1, IF, 0, 20), OUTSIDE);
        due("3 nothing changed", x.told(1), 77);
    }

    private static void promise4() {
        StruckBits x = program(TELL, 0, 0, END, 0, 0);
        x.cell(0, 5);
        x.check(0, 1);
        due("4 told", x.told(0), 5);
        due("4 clear", x.clear(), 2);
        due("4 no orders", x.size(0), 0);
        due("4 nothing told", x.many(), 0);
        due("4 ends at once", x.ticks(), 0);
        due("4 clear again", x.clear(), 0);
        due("4 no order to tell of", x.about(0, 0), UNKNOWN);
        due("4 cells stay", x.after(0), 5);
        due("4 checks stay", x.size(1), 1);
        due("4 orders count anew", x.order(TELL, 0, 0), 1);
    }

    private static void promise5() {
        StruckBits x = program(TELL, 7, 0, SET, 7, 9);
        due("5 cell", x.cell(7, 255), 0);
        due("5 the run tells it", x.told(0), 255);
        due("5 as told, not as left", x.cell(7, 3), 255);
        due("5 told anew", x.told(0), 3);
        due("5 unknown", x.cell(8, 0), UNKNOWN);
        due("5 unknown below", x.cell(-1, 0), UNKNOWN);
        due("5 unknown first", x.cell(MOST, 256), UNKNOWN);
        due("5 outside", x.cell(7, 256), OUTSIDE);
        due("5 outside below", x.cell(7, -1), OUTSIDE);
        due("5 still", x.cell(7, 0), 3);
    }

    private static void promise6() {
        StruckBits x = new StruckBits();
        due("6 check", x.check(4, 3), 0);
        due("6 was 3", x.check(4, 1), 3);
        due("6 was 1", x.check(4, 2), 1);
        due("6 unknown", x.check(8, 1), UNKNOWN);
        due("6 unknown first", x.check(-1, 4), UNKNOWN);
        due("6 outside", x.check(4, 4), OUTSIDE);
        due("6 outside below", x.check(4, -1), OUTSIDE);
        due("6 still 2", x.check(4, 0), 2);
    }

    private static void promise7() {
        due("7 ends with END", program(END, 0, 0, JUMP, 1, 0).run(), 0);
        due("7 ends behind the last", program(SET, 0, 0).run(), 0);
        due("7 ends far away", program(JUMP, 19, 0, SET, 0, 1).run(), 0);
        due("7 endless", program(JUMP, 0, 0).run(), 2);
        StruckBits from = program(FROM, 0, 1);
        from.cell(1, 7);
        due("7 from cell 7", from.run(), 0);
        from.cell(1, 8);
        due("7 from no cell", from.run(), 1);
        StruckBits to = program(TO, 0, 1);
        to.cell(0, 8);
        due("7 to no cell", to.run(), 1);
        to.cell(0, 7);
        due("7 to cell 7", to.run(), 0);
        due("7 a crash comes before what follows", program(SET, 1, 9, FROM, 0, 1, END, 0, 0).run(), 1);
        due("7 END at tick 99", hundredth(END).run(), 0);
        due("7 the row's end behind tick 99", hundredth(SET).run(), 0);
        due("7 a next order behind tick 99", hundredth(JUMP).run(), 2);
    }

    /** A run whose tick 99 is the last order's: three ticks, a loop of three 32 times, then that order. */
    private static StruckBits hundredth(int lastOp) {
        return program(SET, 0, 32, SET, 1, 255, SET, 2, 0, ADD, 0, 1, UNLIKE, 3, 3, IF, 0, 3, lastOp, 0, 0);
    }

    private static void promise8() {
        due("8 END takes a tick", program(END, 0, 0).ticks(), 1);
        due("8 the row's end takes none", program(SET, 0, 0).ticks(), 1);
        due("8 a jump takes one", program(JUMP, 19, 0).ticks(), 1);
        due("8 a crash takes its own", program(SET, 1, 8, FROM, 0, 1).ticks(), 2);
        due("8 endless", program(JUMP, 0, 0).ticks(), 100);
        due("8 just 100", hundredth(END).ticks(), 100);
        due("8 just 100, without END", hundredth(SET).ticks(), 100);
        StruckBits x = program(IF, 0, 2, END, 0, 0, SET, 0, 0, JUMP, 0, 0);
        due("8 if is 0", x.ticks(), 2);
        x.cell(0, 200);
        due("8 if is not 0", x.ticks(), 5);
    }

    private static void promise9and10() {
        StruckBits x = program(ADD, 0, 1, TELL, 0, 0, AND, 0, 2, TELL, 0, 0, UNLIKE, 0, 3, TELL, 0, 0, HALF, 0, 0,
            TELL, 0, 0, COPY, 4, 0, TELL, 4, 0, FROM, 5, 6, TELL, 5, 0, TO, 6, 1, TELL, 3, 0);
        x.cell(0, 200);
        x.cell(1, 101);
        x.cell(2, 60);
        x.cell(3, 255);
        x.cell(6, 3);
        due("9 many", x.many(), 7);
        int[] row = {45, 44, 211, 105, 105, 255, 101};
        for (int i = 0; i < row.length; i++) {
            due("10 told " + i, x.told(i), row[i]);
        }
        due("10 none behind", x.told(7), NONE);
        due("10 none ahead", x.told(-1), NONE);
        due("10 none at all", x.told(LEAST), NONE);
        due("10 none at all", x.told(MOST), NONE);
        StruckBits loop = program(TELL, 0, 0, JUMP, 0, 0);
        due("9 a TELL behind 12 crashes", loop.run(), 1);
        due("9 12 stay", loop.many(), 12);
        due("9 in the tick of the 13th", loop.ticks(), 25);
        due("10 the 12th", loop.told(11), 0);
        due("10 no 13th", loop.told(12), NONE);
        due("9 none", new StruckBits().many(), 0);
    }

    private static void promise11() {
        StruckBits x = program(SET, 0, 5, TO, 0, 1, SET, 2, 9, FROM, 3, 2, SET, 4, 4);
        x.cell(1, 66);
        x.cell(3, 33);
        due("11 crashes", x.run(), 1);
        due("11 set", x.after(0), 5);
        due("11 TO writes", x.after(5), 66);
        due("11 nothing comes of a crash", x.after(3), 33);
        due("11 nothing behind a crash", x.after(4), 0);
        due("11 unknown", x.after(8), UNKNOWN);
        due("11 unknown below", x.after(-1), UNKNOWN);
        StruckBits endless = program(ADD, 0, 1, JUMP, 0, 0);
        endless.cell(1, 3);
        due("11 endless: 50 times", endless.after(0), 150);
        endless.cell(1, 6);
        due("11 modulo 256", endless.after(0), 300 - 256);
    }

    private static void promise12() {
        StruckBits x = program(SET, 0, 1, COPY, 1, 0, ADD, 0, 1, TO, 2, 3, FROM, 4, 5, IF, 6, 19, END, 0, 0);
        x.cell(2, 4);
        int[][] due = {
            // ahead of ticks 0 to 6
            {1, 0, 0, 1, 1, 1, 1},
            {1, 1, 0, 1, 1, 1, 1},
            {0, 0, 0, 0, 1, 1, 1},
            {0, 0, 0, 0, 1, 1, 1},
            {1, 1, 1, 1, 1, 1, 1},
            {0, 0, 0, 0, 0, 1, 1},
            {0, 0, 0, 0, 0, 0, 1},
            {1, 1, 1, 1, 1, 1, 1}};
        due("12 ticks", x.ticks(), 7);
        for (int c = 0; c < 8; c++) {
            for (int t = 0; t < 7; t++) {
                // cell 0 is named by cell 5, so the FROM of tick 4 reads it
                int want = c == 0 && t >= 1 && t <= 4 ? 0 : due[c][t];
                due("12 dead(" + c + ", " + t + ")", x.dead(c, t), want);
            }
        }
        due("12 outside", x.dead(0, 7), OUTSIDE);
        due("12 outside below", x.dead(0, -1), OUTSIDE);
        due("12 unknown", x.dead(8, 0), UNKNOWN);
        due("12 unknown first", x.dead(-1, 99), UNKNOWN);
        StruckBits endless = program(JUMP, 0, 0);
        due("12 unknown before state", endless.dead(8, 0), UNKNOWN);
        due("12 state before outside", endless.dead(0, 500), STATE);
        due("12 no tick at all", new StruckBits().dead(0, 0), OUTSIDE);
    }

    private static void promise13() {
        StruckBits x = program(TELL, 0, 0, AND, 1, 2, TELL, 1, 0, FROM, 3, 4, IF, 5, 5, END, 0, 0);
        x.cell(2, 15);
        x.cell(4, 6);
        due("13 told otherwise", x.flip(0, 0, 1, 0), 5);
        due("13 dead behind", x.flip(0, 0, 1, 1), 0);
        due("13 masked", x.flip(1, 4, 1, 0), 1);
        due("13 masked by two", x.flip(1, 6, 2, 1), 1);
        due("13 one of two comes through", x.flip(1, 3, 2, 1), 5);
        due("13 written: read as new", x.flip(1, 7, 1, 2), 5);
        due("13 from another cell: masked", x.flip(4, 0, 1, 0), 1);
        due("13 from no cell", x.flip(4, 3, 1, 0), 3);
        due("13 from no cell, two bits", x.flip(4, 2, 2, 3), 3);
        due("13 read by FROM, not told", x.flip(6, 7, 1, 3), 1);
        due("13 if", x.flip(5, 7, 1, 0), 1);
        due("13 never used", x.flip(7, 0, 1, 0), 0);
        StruckBits loop = program(IF, 0, 0, TELL, 0, 0);
        due("13 endless", loop.flip(0, 3, 1, 0), 4);
        due("13 unknown first", loop.flip(8, 9, 9, 9), UNKNOWN);
        due("13 unknown below", loop.flip(-1, 0, 1, 0), UNKNOWN);
        due("13 w 0", loop.flip(0, 0, 0, 0), OUTSIDE);
        due("13 w 3", loop.flip(0, 0, 3, 0), OUTSIDE);
        due("13 k 8", loop.flip(0, 8, 1, 0), OUTSIDE);
        due("13 k 7 of one", loop.flip(0, 7, 1, 0), 4);
        due("13 k 7 of two", loop.flip(0, 7, 2, 0), OUTSIDE);
        due("13 k 6 of two", loop.flip(0, 6, 2, 0), 4);
        due("13 k below", loop.flip(0, -1, 1, 0), OUTSIDE);
        due("13 k far", loop.flip(0, LEAST, 2, 0), OUTSIDE);
        due("13 t far", loop.flip(0, 0, 1, 2), OUTSIDE);
        due("13 t below", loop.flip(0, 0, 1, -1), OUTSIDE);
        due("13 last t", loop.flip(0, 0, 1, 1), 5);
        loop.cell(0, 1);
        due("13 state", loop.flip(0, 0, 1, 0), STATE);
        due("13 state before t", loop.flip(0, 0, 1, 500), STATE);
        due("13 k before state", loop.flip(0, 8, 1, 0), OUTSIDE);
        due("13 unknown before state", loop.flip(8, 0, 1, 0), UNKNOWN);
    }

    private static void promise13checks() {
        StruckBits x = program(TELL, 0, 0, SET, 1, 0, ADD, 2, 2, TELL, 2, 0, TO, 3, 4, END, 0, 0);
        x.cell(3, 6);
        // no check, parity, double, sum
        kinds(x, 0, 1, 0, 5, 2, 2, 2);
        kinds(x, 0, 2, 0, 5, 5, 2, 2);
        kinds(x, 0, 1, 1, 0, 0, 0, 2);
        kinds(x, 0, 1, 5, 0, 0, 0, 2);
        kinds(x, 1, 1, 0, 0, 0, 0, 0);
        kinds(x, 1, 1, 1, 0, 0, 0, 0);
        kinds(x, 1, 2, 2, 0, 0, 0, 2);
        kinds(x, 2, 1, 0, 5, 2, 2, 5);
        kinds(x, 2, 2, 3, 5, 5, 2, 2);
        // TO writes the cell that cell 3 names: cell 3 itself is still struck
        kinds(x, 3, 1, 0, 1, 2, 2, 2);
        kinds(x, 4, 2, 0, 1, 1, 2, 2);
        // cell 6 is written by TO without being read
        kinds(x, 6, 1, 4, 0, 0, 0, 0);
        kinds(x, 6, 1, 5, 0, 0, 0, 2);
        // a sum catches only as the run ends
        StruckBits loop = program(IF, 0, 0, TELL, 0, 0);
        kinds(loop, 0, 1, 0, 4, 2, 2, 4);
        kinds(loop, 0, 2, 0, 4, 4, 2, 4);
        StruckBits crash = program(FROM, 1, 0);
        due("13 crash", crash.flip(0, 4, 1, 0), 3);
        crash.check(0, 3);
        due("13 a sum does not catch a crash", crash.flip(0, 4, 1, 0), 3);
        due("13 but what ends", crash.flip(0, 1, 1, 0), 2);
        // FROM reads the cell named, too, which may be the struck one
        StruckBits named = program(FROM, 1, 0, TELL, 1, 0);
        named.cell(0, 6);
        kinds(named, 6, 1, 0, 5, 2, 2, 2);
        // a check of another cell catches nothing
        named.check(0, 2);
        kinds(named, 6, 1, 0, 5, 2, 2, 2);
        // a copy of a struck cell is not struck
        StruckBits copy = program(COPY, 1, 0, SET, 0, 0, TELL, 1, 0);
        copy.check(1, 2);
        kinds(copy, 0, 1, 0, 5, 2, 2, 5);
    }

    private static void kinds(StruckBits x, int c, int w, int t, int... due) {
        for (int check = 0; check < 4; check++) {
            x.check(c, check);
            due("13 flip(" + c + ", 0, " + w + ", " + t + ") under check " + check, x.flip(c, 0, w, t), due[check]);
        }
        x.check(c, 0);
    }

    private static void promise14() {
        StruckBits x = program(TELL, 0, 0, TELL, 1, 0, IF, 2, 4, TELL, 0, 0, TELL, 0, 0, IF, 3, 7, END, 0, 0, TELL, 0, 0,
            TELL, 0, 0, TELL, 0, 0);
        x.cell(1, 4);
        x.cell(4, 1);
        due("14 told", x.many(), 4);
        due("14 three places", x.harm(0, 0, 1, 0), 3);
        due("14 two places", x.harm(0, 0, 2, 1), 2);
        due("14 one place", x.harm(1, 0, 1, 1), 1);
        due("14 a place less", x.harm(2, 0, 1, 0), 1);
        due("14 places more", x.harm(3, 5, 1, 0), 3);
        due("14 dead", x.harm(7, 0, 1, 0), 0);
        due("14 as flip", x.harm(8, 0, 1, 0), UNKNOWN);
        due("14 as flip", x.harm(0, 8, 1, 0), OUTSIDE);
        due("14 as flip", x.harm(0, 0, 3, 0), OUTSIDE);
        due("14 as flip", x.harm(0, 0, 1, x.ticks()), OUTSIDE);
        x.check(0, 1);
        due("14 caught", x.harm(0, 0, 1, 0), 0);
        due("14 not caught", x.harm(0, 0, 2, 0), 3);
        StruckBits loop = program(TELL, 1, 0, IF, 0, 1);
        due("14 endless", loop.harm(0, 0, 1, 0), 0);
        StruckBits crash = program(TELL, 0, 0, FROM, 1, 0);
        due("14 a crash is no silent one", crash.harm(0, 7, 1, 0), 0);
        due("14 a silent one", crash.harm(0, 2, 1, 0), 1);
        crash.cell(0, 9);
        due("14 state", crash.harm(0, 2, 1, 0), STATE);
    }

    private static void promise15() {
        StruckBits x = program(SET, 7, 0, IF, 0, 1, TELL, 1, 0, FROM, 2, 3, END, 0, 0);
        due("15 dead: the whole run", x.lasts(7, 0, 1, 0), 5);
        due("15 from the last tick", x.lasts(7, 0, 1, 4), 1);
        due("15 endless: to tick 99", x.lasts(0, 0, 1, 1), 99);
        due("15 endless, struck ahead", x.lasts(0, 0, 1, 0), 100);
        due("15 crash: its own, too", x.lasts(3, 7, 1, 1), 3);
        due("15 silent", x.lasts(1, 0, 1, 2), 3);
        x.check(0, 1);
        due("15 caught in tick 1", x.lasts(0, 0, 1, 0), 2);
        due("15 caught at once", x.lasts(0, 0, 1, 1), 1);
        due("15 not caught", x.lasts(0, 0, 2, 1), 99);
        x.check(1, 3);
        due("15 caught by a sum", x.lasts(1, 0, 1, 2), 3);
        due("15 as flip", x.lasts(8, 0, 1, 0), UNKNOWN);
        due("15 as flip", x.lasts(0, 7, 2, 0), OUTSIDE);
        due("15 as flip", x.lasts(0, 0, 1, 5), OUTSIDE);
        x.cell(0, 1);
        due("15 state", x.lasts(0, 0, 1, 0), STATE);
    }

    private static void promise16() {
        StruckBits x = program(TELL, 0, 0, IF, 1, 1, FROM, 2, 3, END, 0, 0);
        // 4 ticks, 8 bits a cell
        due("16 silent of 0", x.count(0, 1, 5), 8);
        due("16 dead of 0", x.count(0, 1, 0), 8);
        due("16 masked of 0, which FROM names", x.count(0, 1, 1), 16);
        due("16 endless", x.count(1, 1, 4), 16);
        due("16 dead of 1", x.count(1, 1, 0), 16);
        due("16 crashes", x.count(3, 1, 3), 15);
        due("16 crashes of two", x.count(3, 2, 3), 15);
        due("16 silent of all", x.count(8, 1, 5), 8);
        due("16 endless of all, two bits", x.count(8, 2, 4), 14);
        due("16 none caught", x.count(8, 1, 2), 0);
        due("16 unknown", x.count(9, 1, 0), UNKNOWN);
        due("16 unknown below", x.count(-1, 1, 0), UNKNOWN);
        due("16 unknown first", x.count(9, 3, 6), UNKNOWN);
        due("16 w", x.count(0, 0, 0), OUTSIDE);
        due("16 w", x.count(0, 3, 0), OUTSIDE);
        due("16 kind", x.count(0, 1, 6), OUTSIDE);
        due("16 kind below", x.count(0, 1, -1), OUTSIDE);
        due("16 counted", x.size(2), 10);
        x.cell(1, 1);
        due("16 state", x.count(8, 1, 0), STATE);
        due("16 outside before state", x.count(8, 1, 6), OUTSIDE);
        due("16 not counted", x.size(2), 10);
        x.cell(1, 0);
        for (int n = 11; n <= 60; n++) {
            due("16 up to 60", x.count(8, 1, 5), 8);
        }
        due("16 full", x.count(8, 1, 5), FULL);
        due("16 full of all()", x.all(1), FULL);
        due("16 full of worst()", x.worst(1, 0), FULL);
        due("16 full of best()", x.best(1, 0), FULL);
        due("16 outside before full", x.count(8, 0, 5), OUTSIDE);
        x.cell(1, 1);
        due("16 state before full", x.count(8, 1, 5), STATE);
        due("16 still 60", x.size(2), 60);
    }

    private static void promise17() {
        StruckBits x = program(TELL, 0, 0, TELL, 0, 0, TELL, 1, 0);
        // cell 0: 8 flips of harm 2, 8 of harm 1, then dead; cell 1: 24 of harm 1
        due("17 one bit", x.all(1), 16 + 8 + 24);
        due("17 two bits", x.all(2), 14 + 7 + 21);
        x.check(1, 1);
        due("17 parity", x.all(1), 24);
        due("17 parity, two bits", x.all(2), 42);
        due("17 w", x.all(0), OUTSIDE);
        due("17 w", x.all(3), OUTSIDE);
        due("17 counted", x.size(2), 4);
        x.order(JUMP, 3, 0);
        due("17 state", x.all(1), STATE);
        due("17 outside first", x.all(LEAST), OUTSIDE);
        due("17 not counted", x.size(2), 4);
        due("17 nothing", new StruckBits().all(1), 0);
    }

    private static void promise18() {
        StruckBits x = program(TELL, 1, 0, TELL, 0, 0, TELL, 0, 0);
        // harm 2: cell 0 ahead of ticks 0, 1; harm 1: cell 1 at 0, cell 0 at 2
        for (int k = 0; k < 8; k++) {
            due("18 first, t 0", x.worst(1, k), k);
            due("18 then t 1", x.worst(1, 8 + k), 64 + k);
            due("18 then harm 1", x.worst(1, 16 + k), 8 + k);
            due("18 then t 2", x.worst(1, 24 + k), 128 + k);
        }
        due("18 none", x.worst(1, 32), NONE);
        due("18 none far", x.worst(1, MOST), NONE);
        due("18 none below", x.worst(1, -1), NONE);
        due("18 none below", x.worst(1, LEAST), NONE);
        due("18 two bits", x.worst(2, 6), 6);
        due("18 two bits", x.worst(2, 7), 64);
        due("18 last of two bits", x.worst(2, 27), 134);
        due("18 none of two bits", x.worst(2, 28), NONE);
        due("18 NONE counts, too", x.size(2), 40);
        x.check(0, 2);
        due("18 not the caught ones", x.worst(2, 0), 8);
        due("18 w", x.worst(0, 0), OUTSIDE);
        due("18 w", x.worst(3, -1), OUTSIDE);
        x.order(JUMP, 3, 0);
        due("18 state", x.worst(1, 0), STATE);
        due("18 counted", x.size(2), 41);
        // of like harm and t: by cell, then bit
        StruckBits two = program(ADD, 5, 3, TELL, 5, 0);
        due("18 cell 3 first", two.worst(1, 0), 24);
        due("18 then cell 5", two.worst(1, 8), 40);
        due("18 then tick 1", two.worst(1, 16), 64 + 40);
    }

    private static void promise19() {
        StruckBits x = new StruckBits();
        x.check(0, 1);
        due("19 parity", x.costs(), 1);
        x.check(7, 2);
        due("19 double", x.costs(), 9);
        x.check(3, 3);
        due("19 sum", x.costs(), 11);
        x.check(7, 0);
        due("19 taken off", x.costs(), 3);
        for (int c = 0; c < 8; c++) {
            x.check(c, 2);
        }
        due("19 the most", x.costs(), 64);
    }

    private static void promise20() {
        StruckBits x = program(TELL, 0, 0, TELL, 0, 0, TELL, 1, 0, SET, 1, 0, TELL, 2, 0, ADD, 2, 2);
        // silent of one bit: cell 0 16, cell 1 24, cell 2 40; sum catches none of cells 1 and 2
        due("20 no money", x.best(1, 0), 80);
        due("20 one", x.best(1, 1), 40);
        chosen(x, 0, 0, 1, 0, 0, 0, 0, 0);
        due("20 two", x.best(1, 2), 16);
        chosen(x, 0, 1, 1, 0, 0, 0, 0, 0);
        due("20 all", x.best(1, 64), 0);
        chosen(x, 1, 1, 1, 0, 0, 0, 0, 0);
        due("20 two bits: 14, 21, 35", x.best(2, 1), 70);
        chosen(x, 0, 0, 0, 0, 0, 0, 0, 0);
        due("20 a sum", x.best(2, 7), 56);
        chosen(x, 3, 0, 0, 0, 0, 0, 0, 0);
        due("20 a double", x.best(2, 8), 35);
        chosen(x, 0, 0, 2, 0, 0, 0, 0, 0);
        due("20 a double and a sum", x.best(2, 10), 21);
        chosen(x, 3, 0, 2, 0, 0, 0, 0, 0);
        due("20 none is left", x.best(2, 64), 0);
        chosen(x, 3, 2, 2, 0, 0, 0, 0, 0);
        due("20 counts as four", x.size(2), 36);
        x.check(0, 2);
        due("20 the checks that are do not matter", x.best(2, 0), 70);
        due("20 price", x.best(1, 65), OUTSIDE);
        due("20 price below", x.best(1, -1), OUTSIDE);
        due("20 w", x.best(0, 1), OUTSIDE);
        due("20 w", x.best(3, 1), OUTSIDE);
        x.change(5, JUMP, 5, 0);
        due("20 state", x.best(1, 1), STATE);
        due("20 outside before state", x.best(1, 65), OUTSIDE);
        x.change(5, ADD, 2, 2);
        due("20 refused ones are not counted", x.size(2), 40);
        for (int n = 44; n <= 56; n += 4) {
            due("20 more", x.best(1, 0), 80);
            due("20 counted", x.size(2), n);
        }
        due("20 57", x.all(1), 24 + 40);
        due("20 four more would be 61", x.best(1, 2), FULL);
        chosen(x, 0, 0, 0, 0, 0, 0, 0, 0);
        due("20 three more are not", x.all(1), 64);
    }

    private static void promise20ties() {
        StruckBits even = program(SET, 7, 0, TELL, 6, 0, TELL, 7, 0);
        // silent of one bit: cell 6 ahead of ticks 0 and 1, cell 7 ahead of ticks 1 and 2, 16 each
        due("20 of like ones the less at the first cell", even.best(1, 1), 16);
        chosen(even, 0, 0, 0, 0, 0, 0, 0, 1);
        due("20 the same with sums", even.best(2, 3), 14);
        chosen(even, 0, 0, 0, 0, 0, 0, 0, 3);
        due("20 sums are cheaper than doubles", even.best(2, 64), 0);
        chosen(even, 0, 0, 0, 0, 0, 0, 3, 3);
        StruckBits named = program(FROM, 0, 2, TELL, 0, 0, SET, 2, 0, SET, 5, 0, SET, 0, 0);
        named.cell(2, 5);
        named.cell(5, 9);
        // cell 0: 8; cell 2: bits 0 to 2 name other cells, the others crash; cell 5: 8
        due("20 crashes are not silent", named.best(1, 0), 8 + 3 + 8);
        due("20 of like ones, again", named.best(1, 1), 11);
        chosen(named, 0, 0, 0, 0, 0, 1, 0, 0);
        due("20 then the other", named.best(1, 2), 3);
        chosen(named, 1, 0, 0, 0, 0, 1, 0, 0);
        StruckBits add = program(ADD, 2, 5, COPY, 3, 2, SET, 2, 0, SET, 5, 0, TELL, 3, 0);
        // of two bits: cell 2 ahead of ticks 0 and 1, cell 3 of ticks 2 to 4, cell 5 of tick 0
        due("20 doubles where a sum is too late", add.best(2, 64), 0);
        chosen(add, 0, 0, 2, 3, 0, 2, 0, 0);
        due("20 the dearest first", add.best(2, 10), 7);
        chosen(add, 0, 0, 2, 3, 0, 0, 0, 0);
    }

    private static void chosen(StruckBits x, int... due) {
        for (int c = 0; c < 8; c++) {
            due("chosen(" + c + ")", x.chosen(c), due[c]);
        }
    }

    private static void promise21() {
        StruckBits x = program(TELL, 3, 0);
        due("21 none", x.chosen(3), NONE);
        due("21 unknown before none", x.chosen(8), UNKNOWN);
        due("21 a refused one gives none", x.best(1, 65), OUTSIDE);
        due("21 still none", x.chosen(3), NONE);
        due("21 best", x.best(1, 9), 0);
        due("21 parity", x.chosen(3), 1);
        due("21 nothing", x.chosen(0), 0);
        due("21 unknown", x.chosen(8), UNKNOWN);
        due("21 unknown below", x.chosen(-1), UNKNOWN);
        due("21 best for two", x.best(2, 7), 0);
        due("21 sum", x.chosen(3), 3);
        x.clear();
        x.check(3, 2);
        due("21 stays", x.chosen(3), 3);
        due("21 refused", x.best(2, -1), OUTSIDE);
        due("21 still stays", x.chosen(3), 3);
    }

    private static void promise22() {
        StruckBits x = program(TELL, 3, 0);
        x.check(0, 2);
        x.check(3, 1);
        due("22 none", x.take(), NONE);
        due("22 nothing changed", x.costs(), 9);
        due("22 best", x.best(2, 2), 0);
        due("22 best alone takes nothing", x.costs(), 9);
        due("22 take", x.take(), 2);
        due("22 costs", x.costs(), 2);
        due("22 cell 0 lost its check", x.check(0, 0), 0);
        due("22 cell 3 has a sum", x.check(3, 2), 3);
        due("22 the advice is not touched by check", x.chosen(3), 3);
        due("22 take again", x.take(), 2);
        due("22 as before", x.check(3, 3), 3);
    }

    private static void promise23() {
        StruckBits x = program(SET, 3, 200, IF, 4, 19, JUMP, 17, 9, HALF, 2, 9, TELL, 6, 9, END, 5, 5, TO, 1, 7);
        int[][] due = {{SET, 3, 200}, {IF, 4, 19}, {JUMP, 17, 0}, {HALF, 2, 0}, {TELL, 6, 0}, {END, 0, 0}, {TO, 1, 7}};
        for (int i = 0; i < due.length; i++) {
            for (int what = 0; what < 3; what++) {
                due("23 about(" + i + ", " + what + ")", x.about(i, what), due[i][what]);
            }
        }
        due("23 unknown", x.about(7, 0), UNKNOWN);
        due("23 unknown below", x.about(-1, 0), UNKNOWN);
        due("23 unknown first", x.about(MOST, 3), UNKNOWN);
        due("23 outside", x.about(6, 3), OUTSIDE);
        due("23 outside below", x.about(6, -1), OUTSIDE);
        x.change(6, END, 1, 7);
        due("23 of a changed one", x.about(6, 2), 0);
        due("23 of a changed one", x.about(6, 1), 0);
    }

    private static void promise24() {
        StruckBits x = program(TELL, 3, 0, END, 0, 0);
        due("24 orders", x.size(0), 2);
        x.check(1, 1);
        x.check(2, 2);
        x.check(7, 3);
        due("24 checks", x.size(1), 3);
        x.check(2, 0);
        due("24 checks", x.size(1), 2);
        x.count(8, 1, 0);
        due("24 count", x.size(2), 1);
        x.worst(1, 0);
        due("24 worst", x.size(2), 2);
        x.all(1);
        due("24 all", x.size(2), 3);
        x.best(1, 0);
        due("24 best", x.size(2), 7);
        x.clear();
        due("24 clear does not touch it", x.size(2), 7);
        due("24 outside", x.size(3), OUTSIDE);
        due("24 outside below", x.size(-1), OUTSIDE);
    }

    private static void promise25() {
        long empty = 179;
        for (int c = 0; c < 8; c++) {
            empty = then(then(then(empty, 0), 0), NONE);
        }
        empty = then(then(then(empty, 0), 0), 0);
        due("25 empty", new StruckBits().digest(), empty);
        StruckBits x = program(SET, 1, 9, FROM, 0, 1, TELL, 7, 4);
        x.cell(7, 250);
        x.check(7, 2);
        long h = 179;
        for (int number : new int[] {SET, 1, 9, FROM, 0, 1, TELL, 7, 0}) {
            h = then(h, number);
        }
        for (int c = 0; c < 8; c++) {
            h = then(then(then(h, c == 7 ? 250 : 0), c == 7 ? 2 : 0), NONE);
        }
        due("25 of a crash", x.digest(), then(then(then(h, 1), 2), 0));
        x.change(0, SET, 1, 2);
        due("25 best", x.best(1, 3), 0);
        h = 179;
        for (int number : new int[] {SET, 1, 2, FROM, 0, 1, TELL, 7, 0}) {
            h = then(h, number);
        }
        for (int c = 0; c < 8; c++) {
            h = then(then(then(h, c == 7 ? 250 : 0), c == 7 ? 2 : 0), c == 7 ? 1 : 0);
        }
        due("25 with a best", x.digest(), then(then(then(h, 0), 3), 4));
    }

    private static long then(long h, long number) {
        return h * 31 + number;
    }

    private static void longestRun() {
        StruckBits x = hundredth(TELL);
        due("100 ticks", x.ticks(), 100);
        due("100: dead in the last", x.dead(5, 99), 1);
        due("100: not dead in the last", x.dead(0, 99), 0);
        due("100: no tick 100", x.dead(0, 100), OUTSIDE);
        due("100: a flip in the last", x.flip(0, 7, 1, 99), 5);
        due("100: a dead one", x.flip(5, 7, 1, 99), 0);
        due("100: lasts", x.lasts(5, 7, 1, 0), 100);
        due("100: no tick 100 of a flip", x.flip(0, 0, 1, 100), OUTSIDE);
        due("100: cell 5 is never used", x.count(5, 1, 0), 800);
        due("100: nor by two", x.count(5, 2, 0), 700);
        due("100: cell 2 is written", x.count(2, 1, 0), 800);
        // ahead of tick 0 the SET hides a flip; ahead of all others the cell is read
        due("100: dead of cell 0", x.count(0, 1, 0), 8);
        due("100: the last of the worst", x.worst(1, x.count(0, 1, 5) - 1), 64 * 99 + 7);
        x.check(5, 3);
        due("100: a sum catches them", x.count(5, 1, 2), 800);
        x.check(2, 3);
        due("100: but for those that are written", x.count(2, 1, 2), 776);
        due("100: written", x.count(2, 1, 0), 24);
        StruckBits y = hundredth(END);
        due("100: without TELL nothing is silent", y.best(1, 64), 0);
        due("100: no check is best then", y.take(), 0);
    }

    private static void twelveUnlike() {
        StruckBits x = program(TELL, 0, 0, TELL, 0, 0, TELL, 0, 0, TELL, 0, 0, TELL, 0, 0, TELL, 0, 0, TELL, 0, 0,
            TELL, 0, 0, TELL, 0, 0, TELL, 0, 0, TELL, 0, 0, TELL, 0, 0);
        for (int n = 0; n < 3; n++) {
            due("12 places", x.worst(1, 7), 7);
            due("11 places", x.worst(1, 8), 64);
            due("the last", x.worst(1, 95), 64 * 11 + 7);
        }
        due("12 unlike", x.harm(0, 6, 2, 0), 12);
    }

    private static void sixtiethSearch() {
        StruckBits x = program(TELL, 0, 0);
        for (int n = 1; n <= 14; n++) {
            x.best(1, 0);
        }
        due("56", x.size(2), 56);
        x.count(0, 1, 0);
        x.count(0, 1, 0);
        due("the 59th, of all()", x.all(1), 8);
        due("the 60th, of worst()", x.worst(1, 0), 0);
        due("no 61st", x.worst(1, 0), FULL);
        StruckBits y = program(TELL, 0, 0);
        for (int n = 1; n <= 59; n++) {
            y.worst(1, 0);
        }
        due("the 60th, of all()", y.all(2), 7);
        due("no 61st", y.all(2), FULL);
        StruckBits z = program(TELL, 0, 0);
        for (int n = 1; n <= 15; n++) {
            due("best " + n, z.best(1, 0), 8);
        }
        due("no 16th best", z.best(1, 0), FULL);
        due("60", z.size(2), 60);
    }

    /** What was found for one width, program or start says nothing of another. */
    private static void widthsInTurn() {
        StruckBits x = program(TELL, 0, 0, TELL, 1, 0);
        due("width 1", x.count(8, 1, 5), 24);
        due("width 2", x.count(8, 2, 5), 21);
        due("width 1 again", x.count(8, 1, 5), 24);
        x.order(SET, 0, 0);
        due("an order more", x.count(8, 1, 0), 8 * 8 * 3 - 24);
        x.change(1, AND, 1, 2);
        due("an order changed", x.count(8, 1, 5), 8);
        x.change(2, TELL, 1, 0);
        x.cell(1, 15);
        due("a cell changed", x.count(2, 1, 5), 8);
        x.check(0, 1);
        due("a check changed", x.count(0, 1, 2), 8);
        x.clear();
        due("all cleared", x.count(8, 1, 0), 0);
    }

    private static void refusalsChangeNothing() {
        StruckBits x = program(TELL, 3, 0, ADD, 3, 2, IF, 1, 0, END, 0, 0);
        x.best(1, 5);
        x.check(2, 3);
        long before = x.digest();
        int[] odd = {LEAST, -105, -1, 8, 9, 20, 65, 256, MOST};
        for (int o : odd) {
            x.change(o, SET, 0, 0);
            x.change(0, SET, o, 0);
            x.order(IF, o, o);
            x.cell(o, 0);
            x.cell(0, o < 0 || o > 255 ? o : 256);
            x.check(o, 1);
            x.check(0, o);
            x.told(o);
            x.after(o);
            x.dead(o, 0);
            x.dead(0, o);
            x.flip(o, o, o, o);
            x.flip(0, o, 1, 0);
            x.flip(0, 0, o, 0);
            x.flip(0, 0, 1, o);
            x.harm(0, o, 2, o);
            x.lasts(0, 0, 2, o);
            x.count(o == 8 ? 9 : o, 1, 0);
            x.count(0, o, 0);
            x.count(0, 1, o);
            x.all(o);
            x.worst(o, 0);
            x.best(o, 0);
            x.best(1, o < 0 || o > 64 ? o : 65);
            x.chosen(o);
            x.about(o, 0);
            x.about(0, o);
            x.size(o);
            due("refused calls change nothing, " + o, x.digest(), before);
        }
    }
}
