import java.util.function.Supplier;

/** Boundary cases of promises 7 to 12: the run without a flip, and what each order does; sentence by sentence. */
public final class BoundaryRun {
    private static final int NONE = Due.NONE, UNKNOWN = Due.UNKNOWN, OUTSIDE = Due.OUTSIDE, STATE = Due.STATE;
    private static final int SET = Due.SET, COPY = Due.COPY, ADD = Due.ADD, AND = Due.AND, UNLIKE = Due.UNLIKE;
    private static final int HALF = Due.HALF, JUMP = Due.JUMP, IF = Due.IF, TELL = Due.TELL;
    private static final int FROM = Due.FROM, TO = Due.TO, END = Due.END;
    private static final int LEAST = Due.LEAST, MOST = Due.MOST;
    private static final int[] NO_CELL = {LEAST, -1, 8, MOST};

    public static void main(String[] args) {
        setWrites();
        copyWrites();
        addWraps();
        andUnlikeBitByBit();
        halfRoundsDown();
        jumpGoesThere();
        ifLooksAtZero();
        tellComesBehind();
        fromNamesACell();
        toNamesACell();
        endEnds();
        beginsAtOrder0();
        cellsAsTold();
        nothingToldAtFirst();
        endsWhereNoOrderIs();
        crashesWhereNoCellIsNamed();
        nothingComesOfACrash();
        crashesBehind12Told();
        hundredTicksEnd();
        behindHundredTicks();
        crashInTheHundredth();
        answersOfRun();
        ticksOfARun();
        manyOfARun();
        toldOfARun();
        afterOfARun();
        askingChangesNothing();
        readingAndWriting();
        deadFromThatTickOn();
        deadWhereTheRunIsOver();
        deadTakesACell();
        deadNeedsAnEnd();
        deadTakesATick();
        deadOfTheLongestRun();
        Due.end("BoundaryRun");
    }

    /** 99 ticks, then one order at tick 99, and what may stand behind it; cell 1 is 255, cells 0 and 3 are 0. */
    private static StruckBits hundredth(int... rest) {
        StruckBits x = Due.program(SET, 0, 32, SET, 1, 255, SET, 2, 0, ADD, 0, 1, UNLIKE, 3, 3, IF, 0, 3);
        for (int i = 0; i < rest.length; i += 3) {
            x.order(rest[i], rest[i + 1], rest[i + 2]);
        }
        return x;
    }

    /** 12 are told in the first 38 ticks; the last order of a second loop is done in tick 98. */
    private static StruckBits hundredthOf12Told(int... rest) {
        StruckBits x = Due.program(SET, 0, 12, SET, 1, 255, TELL, 0, 0, ADD, 0, 1, IF, 0, 2,
            SET, 0, 30, ADD, 0, 1, IF, 0, 6);
        for (int i = 0; i < rest.length; i += 3) {
            x.order(rest[i], rest[i + 1], rest[i + 2]);
        }
        return x;
    }

    private static StruckBits crashing() {
        return Due.with(Due.program(TELL, 0, 0, ADD, 0, 1, FROM, 2, 3, TELL, 2, 0), 5, 6, 7, 8);
    }

    private static StruckBits endless() {
        return Due.with(Due.program(TELL, 1, 0, ADD, 0, 1, JUMP, 1, 0), 5, 6, 7, 8);
    }

    private static StruckBits ending() {
        return Due.with(Due.program(TELL, 0, 0, ADD, 0, 1, TELL, 0, 0, END, 0, 0), 5, 6, 7, 8);
    }

    private static void setWrites() {
        Due.sentence("7: SET a v (0 to 255)");
        StruckBits x = Due.with(Due.program(SET, 0, 255, SET, 7, 0), 1, 2, 3, 4, 5, 6, 7, 8);
        Due.due("255", x.after(0), 255);
        Due.due("0", x.after(7), 0);
        Due.due("another is left", x.after(1), 2);
    }

    private static void copyWrites() {
        Due.sentence("7: COPY a b (a becomes b)");
        StruckBits x = Due.with(Due.program(COPY, 0, 7, COPY, 1, 1), 1, 2, 0, 0, 0, 0, 0, 255);
        Due.due("a", x.after(0), 255);
        Due.due("b is left", x.after(7), 255);
        Due.due("of itself", x.after(1), 2);
    }

    private static void addWraps() {
        Due.sentence("7: ADD a b (a becomes a and b, modulo 256)");
        int[][] sums = {{0, 0, 0}, {255, 0, 255}, {254, 1, 255}, {255, 1, 0}, {1, 255, 0}, {128, 128, 0}, {255, 255, 254}};
        for (int[] s : sums) {
            StruckBits x = Due.with(Due.program(ADD, 0, 1), s[0], s[1]);
            Due.due(s[0] + " and " + s[1], x.after(0), s[2]);
            Due.due("b is left", x.after(1), s[1]);
        }
        Due.due("to itself", Due.with(Due.program(ADD, 0, 0), 200).after(0), 144);
        Due.due("255 to itself", Due.with(Due.program(ADD, 0, 0), 255).after(0), 254);
    }

    private static void andUnlikeBitByBit() {
        Due.sentence("7: AND a b (bit by bit), UNLIKE a b (exclusive or)");
        Due.due("and", Due.with(Due.program(AND, 0, 1), 0b11001010, 0b10101100).after(0), 0b10001000);
        Due.due("and 255", Due.with(Due.program(AND, 0, 1), 255, 255).after(0), 255);
        Due.due("and 0", Due.with(Due.program(AND, 0, 1), 255, 0).after(0), 0);
        Due.due("and itself", Due.with(Due.program(AND, 0, 0), 77).after(0), 77);
        Due.due("unlike", Due.with(Due.program(UNLIKE, 0, 1), 0b11001010, 0b10101100).after(0), 0b01100110);
        Due.due("unlike 255", Due.with(Due.program(UNLIKE, 0, 1), 0, 255).after(0), 255);
        Due.due("unlike itself", Due.with(Due.program(UNLIKE, 0, 0), 77).after(0), 0);
    }

    private static void halfRoundsDown() {
        Due.sentence("7: HALF a (a by 2, rounded down)");
        int[][] halves = {{0, 0}, {1, 0}, {2, 1}, {3, 1}, {128, 64}, {254, 127}, {255, 127}};
        for (int[] h : halves) {
            Due.due("half of " + h[0], Due.with(Due.program(HALF, 0, 0), h[0]).after(0), h[1]);
        }
    }

    private static void jumpGoesThere() {
        Due.sentence("7: JUMP t (0 to 19): ORDER t is next");
        StruckBits over = Due.program(JUMP, 2, 0, SET, 0, 1, SET, 1, 1);
        Due.due("one is left out", over.after(0), 0);
        Due.due("there it goes on", over.after(1), 1);
        Due.due("two ticks", over.ticks(), 2);
        Due.due("to itself", Due.program(JUMP, 0, 0).run(), 2);
        Due.due("behind the last", Due.program(JUMP, 1, 0).run(), 0);
        Due.due("19, which is not there", Due.program(JUMP, 19, 0, SET, 0, 1).ticks(), 1);
        StruckBits last = Due.program(JUMP, 19, 0);
        for (int n = 2; n <= 20; n++) {
            last.order(SET, 0, n);
        }
        Due.due("19, which is there", last.after(0), 20);
        Due.due("two ticks of twenty orders", last.ticks(), 2);
    }

    private static void ifLooksAtZero() {
        Due.sentence("7: IF a t: ORDER t is next, if a is not 0");
        for (int v : new int[] {0, 1, 2, 128, 255}) {
            StruckBits x = Due.with(Due.program(IF, 0, 2, SET, 1, 1, SET, 2, 1), v);
            Due.due("if " + v, x.after(1), v == 0 ? 1 : 0);
            Due.due("if " + v + ": ticks", x.ticks(), v == 0 ? 3 : 2);
            Due.due("if " + v + ": the cell is left", x.after(0), v);
        }
        StruckBits away = Due.with(Due.program(IF, 0, 19, SET, 1, 1), 255);
        Due.due("to an ORDER that is not there: it ENDS", away.run(), 0);
        Due.due("one tick", away.ticks(), 1);
        Due.due("of the last ORDER, to the first", Due.with(Due.program(HALF, 0, 0, IF, 0, 0), 4).ticks(), 6);
        Due.due("to itself, not 0", Due.with(Due.program(IF, 0, 0), 1).run(), 2);
        Due.due("to itself, 0", Due.program(IF, 0, 0).ticks(), 1);
    }

    private static void tellComesBehind() {
        Due.sentence("9: TELL a: a comes behind what was TOLD");
        StruckBits x = Due.with(Due.program(TELL, 7, 0, TELL, 0, 0, SET, 0, 9, TELL, 0, 0), 255, 0, 0, 0, 0, 0, 0, 1);
        Due.due("first", x.told(0), 1);
        Due.due("then", x.told(1), 255);
        Due.due("as it is in that tick", x.told(2), 9);
        Due.due("the cell is left", x.after(7), 1);
    }

    private static void fromNamesACell() {
        Due.sentence("7: FROM a b: a becomes the CELL whose number b is");
        for (int named = 0; named < 8; named++) {
            StruckBits x = Due.with(Due.program(SET, 1, named, FROM, 0, 1), 10, 11, 12, 13, 14, 15, 16, 17);
            Due.due("from cell " + named, x.after(0), named == 1 ? 1 : 10 + named);
            Due.due("b is left", x.after(1), named);
        }
        Due.due("a and b are one", Due.with(Due.program(FROM, 2, 2), 0, 0, 5, 0, 0, 99).after(2), 99);
        Due.due("it names itself", Due.with(Due.program(FROM, 2, 2), 0, 0, 2).after(2), 2);
    }

    private static void toNamesACell() {
        Due.sentence("7: TO a b: the CELL whose number a is becomes b");
        for (int named = 0; named < 8; named++) {
            StruckBits x = Due.program(TO, 0, 1);
            x.cell(0, named);
            x.cell(1, 255);
            Due.due("to cell " + named, x.after(named), 255);
            Due.due("a is left, if it is not named", x.after(0), named == 0 ? 255 : named);
            Due.due("b is left", x.after(1), 255);
        }
        Due.due("a and b are one", Due.with(Due.program(TO, 3, 3), 0, 0, 0, 6).after(6), 6);
    }

    private static void endEnds() {
        Due.sentence("7: it ENDS with END");
        StruckBits x = Due.program(END, 0, 0, SET, 0, 1);
        Due.due("run", x.run(), 0);
        Due.due("END takes a TICK", x.ticks(), 1);
        Due.due("nothing behind it is done", x.after(0), 0);
        Due.due("the last one", Due.program(SET, 0, 1, END, 0, 0).ticks(), 2);
        Due.due("END does not look at b", Due.program(END, 5, 5).run(), 0);
    }

    private static void beginsAtOrder0() {
        Due.sentence("7: a RUN begins at ORDER 0");
        StruckBits x = Due.program(SET, 0, 1, JUMP, 3, 0, SET, 1, 1);
        Due.due("the first is done", x.after(0), 1);
        x.change(0, JUMP, 2, 0);
        Due.due("anew from ORDER 0", x.after(0), 0);
        Due.due("and on", x.after(1), 1);
    }

    private static void cellsAsTold() {
        Due.sentence("7: CELLS being as told (0 at first)");
        StruckBits x = Due.program(ADD, 0, 1, TELL, 0, 0);
        Due.due("0 at first", x.told(0), 0);
        x.cell(1, 3);
        Due.due("as told", x.told(0), 3);
        Due.due("again: what the run leaves is not told", x.told(0), 3);
        x.order(SET, 2, 2);
        Due.due("nor by a run anew", x.told(0), 3);
    }

    private static void nothingToldAtFirst() {
        Due.sentence("7: nothing being TOLD as a RUN begins");
        StruckBits x = Due.program(TELL, 0, 0, TELL, 0, 0);
        Due.due("two", x.many(), 2);
        x.cell(0, 1);
        Due.due("two again", x.many(), 2);
        x.change(1, END, 0, 0);
        Due.due("one", x.many(), 1);
        Due.due("no second is left", x.told(1), NONE);
    }

    private static void endsWhereNoOrderIs() {
        Due.sentence("7: or as soon as the next ORDER is not there (that takes no TICK)");
        Due.due("no ORDERS: no TICK", new StruckBits().ticks(), 0);
        Due.due("no ORDERS: it ENDS", new StruckBits().run(), 0);
        Due.due("behind the last", Due.program(SET, 0, 0, SET, 0, 0).ticks(), 2);
        StruckBits twenty = new StruckBits();
        for (int n = 0; n < 20; n++) {
            twenty.order(SET, 0, n);
        }
        Due.due("behind ORDER 19", twenty.ticks(), 20);
        Due.due("it ENDS", twenty.run(), 0);
    }

    private static void crashesWhereNoCellIsNamed() {
        Due.sentence("7: it CRASHES in the TICK of a FROM or TO that names no CELL");
        for (int named : new int[] {0, 7, 8, 9, 128, 255}) {
            StruckBits from = Due.with(Due.program(FROM, 0, 1, SET, 2, 1), 0, named);
            StruckBits to = Due.with(Due.program(TO, 1, 0, SET, 2, 1), 0, named);
            Due.due("FROM " + named, from.run(), named > 7 ? 1 : 0);
            Due.due("FROM " + named + ": ticks", from.ticks(), named > 7 ? 1 : 2);
            Due.due("TO " + named, to.run(), named > 7 ? 1 : 0);
            Due.due("TO " + named + ": ticks", to.ticks(), named > 7 ? 1 : 2);
        }
    }

    private static void nothingComesOfACrash() {
        Due.sentence("11: a CRASH writes nothing, and nothing comes behind it");
        StruckBits from = Due.with(Due.program(FROM, 0, 1, SET, 2, 1), 33, 8, 44);
        Due.due("a of FROM", from.after(0), 33);
        Due.due("b of FROM", from.after(1), 8);
        Due.due("behind it", from.after(2), 44);
        StruckBits to = Due.with(Due.program(TO, 1, 0, SET, 2, 1), 33, 8, 44);
        for (int c = 0; c < 8; c++) {
            Due.due("TO: cell " + c, to.after(c), c == 0 ? 33 : c == 1 ? 8 : c == 2 ? 44 : 0);
        }
    }

    private static void crashesBehind12Told() {
        Due.sentence("7: it CRASHES in the TICK of a TELL behind 12 that were TOLD");
        for (int tells = 11; tells <= 14; tells++) {
            StruckBits x = new StruckBits();
            for (int n = 0; n < tells; n++) {
                x.order(TELL, n % 8, 0);
            }
            x.cell(3, 200);
            Due.due(tells + " TELLs", x.run(), tells > 12 ? 1 : 0);
            Due.due(tells + " TELLs: ticks", x.ticks(), Math.min(13, tells));
            Due.due(tells + " TELLs: many", x.many(), Math.min(12, tells));
            Due.due(tells + " TELLs: the 12th", x.told(11), tells < 12 ? NONE : 200);
            Due.due(tells + " TELLs: no 13th", x.told(12), NONE);
        }
    }

    private static void hundredTicksEnd() {
        Due.sentence("7: a RUN of just 100 TICKS, behind which no ORDER is next, ENDS");
        Due.due("END", hundredth(END, 0, 0).run(), 0);
        Due.due("END, ORDERS behind it", hundredth(END, 0, 0, SET, 0, 0).run(), 0);
        Due.due("the last ORDER", hundredth(SET, 0, 0).run(), 0);
        Due.due("a JUMP away", hundredth(JUMP, 19, 0, SET, 0, 0).run(), 0);
        Due.due("an IF away", hundredth(IF, 1, 19, SET, 0, 0).run(), 0);
        Due.due("its TICKS", hundredth(SET, 0, 0).ticks(), 100);
        Due.due("its TICKS, END's own too", hundredth(END, 0, 0).ticks(), 100);
        Due.due("the hundredth is done", hundredth(SET, 0, 77).after(0), 77);
        Due.due("99 TICKS", hundredth().ticks(), 99);
    }

    private static void behindHundredTicks() {
        Due.sentence("7: behind 100 TICKS, if there is a next ORDER still, it is ENDLESS");
        Due.due("END is next", hundredth(SET, 0, 0, END, 0, 0).run(), 2);
        Due.due("another is next", hundredth(SET, 0, 0, SET, 0, 5).run(), 2);
        Due.due("it is not done", hundredth(SET, 0, 0, SET, 0, 5).after(0), 0);
        Due.due("a CRASH would be next", hundredth(SET, 0, 0, FROM, 0, 1).run(), 2);
        Due.due("a TELL behind 12 would be next", hundredthOf12Told(SET, 2, 0, TELL, 0, 0).run(), 2);
        Due.due("100 TICKS", hundredth(SET, 0, 0, END, 0, 0).ticks(), 100);
        Due.due("an IF back", hundredth(IF, 1, 0).run(), 2);
        Due.due("an IF that is 0, an ORDER behind it", hundredth(IF, 0, 19, SET, 0, 0).run(), 2);
    }

    private static void crashInTheHundredth() {
        Due.sentence("7: a CRASH in the hundredth TICK is a CRASH");
        StruckBits from = hundredth(FROM, 0, 1, END, 0, 0);
        Due.due("FROM", from.run(), 1);
        Due.due("FROM: ticks", from.ticks(), 100);
        Due.due("TO", hundredth(TO, 1, 0).run(), 1);
        StruckBits tell = hundredthOf12Told(TELL, 0, 0);
        Due.due("TELL", tell.run(), 1);
        Due.due("TELL: ticks", tell.ticks(), 100);
        Due.due("TELL: 12 stay", tell.many(), 12);
    }

    private static void answersOfRun() {
        Due.sentence("7: 0 it ENDS, 1 CRASHES, 2 is ENDLESS");
        Due.still("ENDS", BoundaryRun::ending, 0, StruckBits::run);
        Due.still("CRASHES", BoundaryRun::crashing, 1, StruckBits::run);
        Due.still("ENDLESS", BoundaryRun::endless, 2, StruckBits::run);
    }

    private static void ticksOfARun() {
        Due.sentence("8: how many TICKS it takes (a CRASH's own, too)");
        Due.still("ENDS", BoundaryRun::ending, 4, StruckBits::ticks);
        Due.still("CRASHES", BoundaryRun::crashing, 3, StruckBits::ticks);
        Due.still("ENDLESS", BoundaryRun::endless, 100, StruckBits::ticks);
        Due.still("no ORDERS", StruckBits::new, 0, StruckBits::ticks);
    }

    private static void manyOfARun() {
        Due.sentence("9: how many numbers are TOLD");
        Due.still("ENDS", BoundaryRun::ending, 2, StruckBits::many);
        Due.still("CRASHES", BoundaryRun::crashing, 1, StruckBits::many);
        Due.still("ENDLESS", BoundaryRun::endless, 1, StruckBits::many);
        Due.still("no ORDERS", StruckBits::new, 0, StruckBits::many);
    }

    private static void toldOfARun() {
        Due.sentence("10: the i-th of them; NONE");
        Due.still("the first", BoundaryRun::ending, 5, x -> x.told(0));
        Due.still("the last", BoundaryRun::ending, 11, x -> x.told(1));
        Due.still("of a CRASH", BoundaryRun::crashing, 5, x -> x.told(0));
        Due.still("of an ENDLESS one", BoundaryRun::endless, 6, x -> x.told(0));
        for (int i : new int[] {LEAST, -1, 2, 11, 12, MOST}) {
            Due.still("told(" + i + ")", BoundaryRun::ending, NONE, x -> x.told(i));
        }
        Due.still("behind a CRASH's", BoundaryRun::crashing, NONE, x -> x.told(1));
        Due.still("no ORDERS", StruckBits::new, NONE, x -> x.told(0));
    }

    private static void afterOfARun() {
        Due.sentence("11: a CELL as THE RUN leaves it. UNKNOWN");
        Due.still("ENDS", BoundaryRun::ending, 11, x -> x.after(0));
        Due.still("CRASHES", BoundaryRun::crashing, 11, x -> x.after(0));
        Due.still("ENDLESS: 50 times 6 and 5, modulo 256", BoundaryRun::endless, 49, x -> x.after(0));
        Due.still("cell 7", () -> Due.program(SET, 7, 255), 255, x -> x.after(7));
        for (int c : NO_CELL) {
            Due.still("after(" + c + ")", BoundaryRun::ending, UNKNOWN, x -> x.after(c));
            Due.still("after(" + c + ") of a CRASH", BoundaryRun::crashing, UNKNOWN, x -> x.after(c));
        }
    }

    private static void askingChangesNothing() {
        Due.sentence("7 to 12: asking for THE RUN does not touch CELLS as told");
        StruckBits x = ending();
        x.run();
        x.after(0);
        x.told(1);
        x.dead(0, 0);
        Due.due("cell 0 as told", x.cell(0, 5), 5);
        Due.due("the run again", x.after(0), 11);
    }

    /** An order, whom it reads and whom it writes, as digits of cells; cell 2 names the cell given. */
    private static void uses(int op, int a, int b, int named, String reads, String writes) {
        for (int c = 0; c < 8; c++) {
            StruckBits alone = Due.program(op, a, b);
            alone.cell(2, named);
            boolean isRead = reads.indexOf('0' + c) >= 0;
            boolean isWritten = writes.indexOf('0' + c) >= 0;
            String what = "order " + op + " " + a + " " + b + ", cell 2 is " + named + ": cell " + c;
            Due.due(what + " is read", alone.dead(c, 0), isRead ? 0 : 1);
            StruckBits told = Due.program(op, a, b, TELL, c, 0);
            told.cell(2, named);
            Due.due(what + " is written", told.dead(c, 0), isWritten && !isRead ? 1 : 0);
        }
    }

    private static void readingAndWriting() {
        Due.sentence("12: READING of each ORDER, then WRITING");
        uses(SET, 1, 9, 0, "", "1");
        uses(COPY, 1, 3, 0, "3", "1");
        uses(COPY, 1, 1, 0, "1", "1");
        for (int op : new int[] {ADD, AND, UNLIKE}) {
            uses(op, 1, 3, 0, "13", "1");
            uses(op, 3, 3, 0, "3", "3");
        }
        uses(HALF, 4, 0, 0, "4", "4");
        uses(JUMP, 1, 1, 0, "", "");
        uses(IF, 3, 1, 0, "3", "");
        uses(IF, 2, 1, 1, "2", "");
        uses(TELL, 7, 0, 0, "7", "");
        uses(FROM, 1, 2, 5, "25", "1");
        uses(FROM, 5, 2, 5, "25", "5");
        uses(FROM, 2, 2, 5, "25", "2");
        uses(FROM, 1, 2, 2, "2", "1");
        uses(FROM, 1, 2, 1, "12", "1");
        uses(FROM, 2, 2, 2, "2", "2");
        uses(TO, 2, 1, 5, "21", "5");
        uses(TO, 2, 5, 5, "25", "5");
        uses(TO, 2, 2, 5, "2", "5");
        uses(TO, 2, 1, 2, "21", "2");
        uses(TO, 2, 1, 1, "21", "1");
        StruckBits end = Due.program(END, 0, 0, TELL, 0, 0);
        Due.due("END reads nothing, and nothing is read behind it", end.dead(0, 0), 1);
    }

    private static void deadFromThatTickOn() {
        Due.sentence("12: if from that TICK on THE RUN does not read it before it writes it");
        StruckBits x = Due.program(TELL, 0, 0, SET, 7, 0, SET, 0, 1, TELL, 0, 0, SET, 0, 2);
        int[] dead = {0, 1, 1, 0, 1};
        for (int t = 0; t < 5; t++) {
            Due.due("dead(0, " + t + ")", x.dead(0, t), dead[t]);
        }
        StruckBits loop = Due.with(Due.program(HALF, 0, 0, IF, 0, 0), 2);
        int[] deadOfLoop = {0, 0, 0, 0};
        for (int t = 0; t < 4; t++) {
            Due.due("in a loop, dead(0, " + t + ")", loop.dead(0, t), deadOfLoop[t]);
        }
        StruckBits way = Due.program(IF, 0, 2, END, 0, 0, TELL, 1, 0);
        Due.due("a way not gone does not read", way.dead(1, 0), 1);
        way.cell(0, 1);
        Due.due("the way gone does", way.dead(1, 0), 0);
    }

    private static void deadWhereTheRunIsOver() {
        Due.sentence("12: or is over");
        StruckBits x = Due.program(TELL, 0, 0, SET, 1, 0);
        Due.due("read in the first tick", x.dead(0, 0), 0);
        Due.due("not again till it is over", x.dead(0, 1), 1);
        Due.due("never read nor written", x.dead(7, 0), 1);
        Due.due("read in the last tick", Due.program(SET, 1, 0, TELL, 0, 0).dead(0, 1), 0);
    }

    private static void deadTakesACell() {
        Due.sentence("12: UNKNOWN: c, ahead of STATE and OUTSIDE");
        Due.still("cell 0", BoundaryRun::ending, 0, x -> x.dead(0, 0));
        Due.still("cell 7", BoundaryRun::ending, 1, x -> x.dead(7, 0));
        for (int c : NO_CELL) {
            Due.still("dead(" + c + ", 0)", BoundaryRun::ending, UNKNOWN, x -> x.dead(c, 0));
            Due.still("dead(" + c + ", 4)", BoundaryRun::ending, UNKNOWN, x -> x.dead(c, 4));
            Due.still("of a CRASH", BoundaryRun::crashing, UNKNOWN, x -> x.dead(c, 0));
            Due.still("of an ENDLESS one", BoundaryRun::endless, UNKNOWN, x -> x.dead(c, -1));
        }
    }

    private static void deadNeedsAnEnd() {
        Due.sentence("12: STATE, ahead of OUTSIDE");
        for (int t : new int[] {LEAST, -1, 0, 2, 3, 99, 100, MOST}) {
            Due.still("of a CRASH, " + t, BoundaryRun::crashing, STATE, x -> x.dead(0, t));
            Due.still("of an ENDLESS one, " + t, BoundaryRun::endless, STATE, x -> x.dead(7, t));
        }
    }

    private static void deadTakesATick() {
        Due.sentence("12: OUTSIDE: t is not 0 to T less 1");
        Supplier<StruckBits> one = () -> Due.program(END, 0, 0);
        Due.still("the first and last", one, 1, x -> x.dead(0, 0));
        Due.still("T", one, OUTSIDE, x -> x.dead(0, 1));
        Due.still("the last of four", BoundaryRun::ending, 1, x -> x.dead(0, 3));
        for (int t : new int[] {LEAST, -1, 4, 5, 99, 100, MOST}) {
            Due.still("dead(0, " + t + ")", BoundaryRun::ending, OUTSIDE, x -> x.dead(0, t));
        }
        Due.still("no TICK at all", StruckBits::new, OUTSIDE, x -> x.dead(0, 0));
        Due.still("no TICK at all, -1", StruckBits::new, OUTSIDE, x -> x.dead(0, -1));
    }

    private static void deadOfTheLongestRun() {
        Due.sentence("12: T is 100 at most");
        Supplier<StruckBits> longest = () -> hundredth(TELL, 6, 0);
        Due.still("read in TICK 99", longest, 0, x -> x.dead(6, 0));
        Due.still("read in TICK 99, ahead of it", longest, 0, x -> x.dead(6, 99));
        Due.still("not read in TICK 99", longest, 1, x -> x.dead(0, 99));
        Due.still("TICK 100", longest, OUTSIDE, x -> x.dead(6, 100));
    }
}
