import java.util.function.Supplier;

/** Boundary cases of promises 1 to 6 and 23: the program, the cells as told, the checks; sentence by sentence. */
public final class BoundaryProgram {
    private static final int NONE = Due.NONE, UNKNOWN = Due.UNKNOWN, OUTSIDE = Due.OUTSIDE, FULL = Due.FULL;
    private static final int SET = Due.SET, COPY = Due.COPY, ADD = Due.ADD, AND = Due.AND, UNLIKE = Due.UNLIKE;
    private static final int HALF = Due.HALF, JUMP = Due.JUMP, IF = Due.IF, TELL = Due.TELL;
    private static final int FROM = Due.FROM, TO = Due.TO, END = Due.END;
    private static final int LEAST = Due.LEAST, MOST = Due.MOST;

    /** Just outside of all that an order may take, and far outside. */
    private static final int[] NEVER = {LEAST, -256, -1, 256, MOST};
    private static final int[] NO_CELL = {LEAST, -1, 8, 255, MOST};
    private static final int[] NO_ORDER = {LEAST, -1, 20, MOST};

    public static void main(String[] args) {
        noOrdersAtFirst();
        cellsZeroAtFirst();
        noChecksAtFirst();
        nothingDoneAtFirst();
        objectsStandAlone();
        opsFrom0To11();
        setTakesACellAndAValue();
        twoCells();
        halfAndTellTakeACell();
        jumpTakesAnOrder();
        ifTakesACellAndAnOrder();
        whatItHasNotIsNotLookedAt();
        orderTellsHowMany();
        upTo20Orders();
        outsideBeforeFull();
        changeNamesAnOrder();
        changeTakesWhatOrderTakes();
        unknownBeforeOutsideOfChange();
        changeOfAFullProgram();
        changeForgetsWhatWas();
        clearTellsHowMany();
        clearLeavesTheRest();
        clearedOrdersAreGone();
        cellTakesACell();
        cellTakesAValue();
        cellTellsWhatItWas();
        unknownBeforeOutsideOfCell();
        checkTakesACell();
        checkTakesAKind();
        checkTellsWhatItWas();
        unknownBeforeOutsideOfCheck();
        aboutNamesAnOrder();
        aboutTakesAWhat();
        zeroOfWhatItHasNot();
        unknownBeforeOutsideOfAbout();
        Due.end("BoundaryProgram");
    }

    /** A state in which everything is used: orders, cells, checks, a best, searches. */
    private static StruckBits lived() {
        StruckBits x = Due.program(TELL, 0, 0, ADD, 0, 1, FROM, 2, 3, SET, 3, 7, TELL, 2, 0, IF, 4, 0, TO, 5, 6);
        Due.with(x, 200, 100, 9, 1, 0, 7, 77, 255);
        x.best(1, 2);
        x.check(0, 3);
        x.check(5, 1);
        x.check(7, 2);
        x.all(2);
        return x;
    }

    private static StruckBits full() {
        StruckBits x = Due.with(new StruckBits(), 3, 4);
        for (int n = 1; n <= 20; n++) {
            Due.due("order " + n + " of 20", x.order(n % 5 == 0 ? TELL : ADD, 0, n % 2), n);
        }
        return x;
    }

    private static void noOrdersAtFirst() {
        Due.sentence("1: no ORDERS");
        StruckBits x = new StruckBits();
        Due.due("size(0)", x.size(0), 0);
        Due.due("about(0, 0)", x.about(0, 0), UNKNOWN);
        Due.due("change(0, ..)", x.change(0, END, 0, 0), UNKNOWN);
        Due.due("the first order is ORDER 0", x.order(SET, 5, 6), 1);
        Due.due("about(0, 0)", x.about(0, 0), SET);
        Due.due("clear() of a new one", new StruckBits().clear(), 0);
    }

    private static void cellsZeroAtFirst() {
        Due.sentence("1: all CELLS 0");
        StruckBits x = new StruckBits();
        for (int c = 0; c < 8; c++) {
            Due.due("after(" + c + ")", x.after(c), 0);
            Due.due("cell(" + c + ", 1)", x.cell(c, 1), 0);
        }
    }

    private static void noChecksAtFirst() {
        Due.sentence("1: without CHECKS");
        StruckBits x = new StruckBits();
        Due.due("size(1)", x.size(1), 0);
        Due.due("costs()", x.costs(), 0);
        for (int c = 0; c < 8; c++) {
            Due.due("check(" + c + ", 1)", x.check(c, 1), 0);
        }
    }

    private static void nothingDoneAtFirst() {
        Due.sentence("1: a new object has no BEST, no search, and a RUN of no TICK");
        StruckBits x = new StruckBits();
        Due.due("run()", x.run(), 0);
        Due.due("ticks()", x.ticks(), 0);
        Due.due("many()", x.many(), 0);
        Due.due("told(0)", x.told(0), NONE);
        Due.due("chosen(0)", x.chosen(0), NONE);
        Due.due("take()", x.take(), NONE);
        Due.due("size(2)", x.size(2), 0);
    }

    private static void objectsStandAlone() {
        Due.sentence("1: a new object, whatever came of another");
        lived();
        full();
        StruckBits x = new StruckBits();
        Due.due("digest()", x.digest(), new StruckBits().digest());
        Due.due("size(0)", x.size(0), 0);
        Due.due("size(1)", x.size(1), 0);
        Due.due("size(2)", x.size(2), 0);
        Due.due("after(0)", x.after(0), 0);
    }

    private static void refusedOrder(int op, int a, int b) {
        String what = "order(" + op + ", " + a + ", " + b + ")";
        Due.still(what, BoundaryProgram::lived, OUTSIDE, x -> x.order(op, a, b));
    }

    private static void takenOrder(int op, int a, int b) {
        StruckBits x = new StruckBits();
        String what = "order(" + op + ", " + a + ", " + b + ")";
        Due.due(what, x.order(op, a, b), 1);
        Due.due(what + ": its number", x.about(0, 0), op);
    }

    private static void opsFrom0To11() {
        Due.sentence("2: ORDERS are 0 SET to 11 END");
        for (int op = 0; op <= 11; op++) {
            takenOrder(op, 0, 0);
        }
        for (int op : new int[] {LEAST, -1, 12, 13, MOST}) {
            refusedOrder(op, 0, 0);
        }
    }

    private static void setTakesACellAndAValue() {
        Due.sentence("2: SET a v (0 to 255); b is v");
        takenOrder(SET, 0, 0);
        takenOrder(SET, 7, 255);
        for (int v : NEVER) {
            refusedOrder(SET, 0, v);
        }
        for (int c : NO_CELL) {
            refusedOrder(SET, c, 0);
        }
    }

    private static void twoCells() {
        Due.sentence("2: COPY, ADD, AND, UNLIKE, FROM, TO a b are CELLS");
        for (int op : new int[] {COPY, ADD, AND, UNLIKE, FROM, TO}) {
            takenOrder(op, 0, 7);
            takenOrder(op, 7, 0);
            takenOrder(op, 7, 7);
            for (int c : NO_CELL) {
                refusedOrder(op, c, 0);
                refusedOrder(op, 0, c);
            }
        }
    }

    private static void halfAndTellTakeACell() {
        Due.sentence("2: HALF a, TELL a");
        for (int op : new int[] {HALF, TELL}) {
            takenOrder(op, 0, 0);
            takenOrder(op, 7, 0);
            for (int c : NO_CELL) {
                refusedOrder(op, c, 0);
            }
        }
    }

    private static void jumpTakesAnOrder() {
        Due.sentence("2: JUMP t (0 to 19); a is t");
        takenOrder(JUMP, 0, 0);
        takenOrder(JUMP, 8, 0);
        takenOrder(JUMP, 19, 0);
        for (int t : NO_ORDER) {
            refusedOrder(JUMP, t, 0);
        }
    }

    private static void ifTakesACellAndAnOrder() {
        Due.sentence("2: IF a t (0 to 19); b is t");
        takenOrder(IF, 0, 0);
        takenOrder(IF, 7, 19);
        for (int t : NO_ORDER) {
            refusedOrder(IF, 0, t);
        }
        for (int c : NO_CELL) {
            refusedOrder(IF, c, 0);
        }
    }

    private static void whatItHasNotIsNotLookedAt() {
        Due.sentence("2: what it has not is not looked at");
        for (int odd : new int[] {LEAST, -1, 1, 8, 20, 256, MOST}) {
            takenOrder(HALF, 3, odd);
            takenOrder(TELL, 3, odd);
            takenOrder(JUMP, 3, odd);
            takenOrder(END, 0, odd);
            takenOrder(END, odd, 0);
            takenOrder(END, odd, odd);
        }
    }

    private static void orderTellsHowMany() {
        Due.sentence("2: an ORDER comes behind the others: how many");
        StruckBits x = Due.program(SET, 0, 9, TELL, 0, 0);
        Due.due("the third", x.order(SET, 0, 8), 3);
        Due.due("told first", x.told(0), 9);
        Due.due("done last", x.after(0), 8);
        Due.due("ORDER 2", x.about(2, 2), 8);
    }

    private static void upTo20Orders() {
        Due.sentence("2: up to 20 ORDERS; FULL");
        StruckBits x = full();
        Due.due("20 there are", x.size(0), 20);
        Due.due("ORDER 19 is there", x.about(19, 0), TELL);
        Due.due("all are done", x.ticks(), 20);
        Due.still("the 21st", BoundaryProgram::full, FULL, y -> y.order(TELL, 0, 0));
        Due.still("the 21st, END", BoundaryProgram::full, FULL, y -> y.order(END, 0, 0));
        x.clear();
        Due.due("room again", x.order(END, 0, 0), 1);
    }

    private static void outsideBeforeFull() {
        Due.sentence("2: OUTSIDE, then FULL");
        Due.still("no such ORDER", BoundaryProgram::full, OUTSIDE, x -> x.order(12, 0, 0));
        Due.still("no such value", BoundaryProgram::full, OUTSIDE, x -> x.order(SET, 0, 256));
        Due.still("no such CELL", BoundaryProgram::full, OUTSIDE, x -> x.order(TELL, 8, 0));
    }

    private static void changeNamesAnOrder() {
        Due.sentence("3: ORDER i becomes that: 1. UNKNOWN: i");
        StruckBits x = Due.program(SET, 0, 1, SET, 1, 1, SET, 2, 1);
        Due.due("the first", x.change(0, SET, 3, 5), 1);
        Due.due("the last", x.change(2, SET, 4, 6), 1);
        Due.due("the first is done", x.after(3), 5);
        Due.due("the last is done", x.after(4), 6);
        Due.due("the one between is left", x.after(1), 1);
        Due.due("what they were is not done", x.after(0) + x.after(2), 0);
        Due.due("as many as before", x.size(0), 3);
        for (int i : new int[] {LEAST, -1, 7, 19, 20, MOST}) {
            Due.still("change(" + i + ")", BoundaryProgram::lived, UNKNOWN, y -> y.change(i, TELL, 0, 0));
        }
        Due.still("without ORDERS", StruckBits::new, UNKNOWN, y -> y.change(0, TELL, 0, 0));
    }

    private static void refusedChange(int op, int a, int b) {
        String what = "change(6, " + op + ", " + a + ", " + b + ")";
        Due.still(what, BoundaryProgram::lived, OUTSIDE, x -> x.change(6, op, a, b));
    }

    private static void changeTakesWhatOrderTakes() {
        Due.sentence("3: OUTSIDE");
        int[][] outside = {
            {-1, 0, 0}, {12, 0, 0}, {SET, 0, -1}, {SET, 0, 256}, {SET, -1, 0}, {SET, 8, 0}, {COPY, 8, 0}, {COPY, 0, -1},
            {ADD, 0, 8}, {AND, -1, 0}, {UNLIKE, 0, 8}, {HALF, 8, 0}, {JUMP, -1, 0}, {JUMP, 20, 0}, {IF, 0, -1},
            {IF, 0, 20}, {IF, 8, 0}, {TELL, 8, 0}, {TELL, -1, 0}, {FROM, 0, 8}, {FROM, 8, 0}, {TO, 8, 0}, {TO, 0, -1}};
        for (int[] o : outside) {
            refusedChange(o[0], o[1], o[2]);
        }
        int[][] within = {
            {SET, 7, 255}, {SET, 0, 0}, {COPY, 7, 0}, {ADD, 0, 7}, {AND, 7, 7}, {UNLIKE, 0, 0}, {HALF, 7, MOST}, {JUMP, 0, LEAST},
            {JUMP, 19, -1}, {IF, 7, 19}, {IF, 0, 0}, {TELL, 7, 256}, {FROM, 7, 7}, {TO, 0, 7}, {END, MOST, LEAST}};
        StruckBits x = lived();
        for (int[] o : within) {
            Due.due("change to " + o[0], x.change(6, o[0], o[1], o[2]), 1);
            Due.due("is " + o[0], x.about(6, 0), o[0]);
        }
    }

    private static void unknownBeforeOutsideOfChange() {
        Due.sentence("3: UNKNOWN, then OUTSIDE");
        Due.still("behind the last", BoundaryProgram::lived, UNKNOWN, x -> x.change(7, 12, 0, 0));
        Due.still("below 0", BoundaryProgram::lived, UNKNOWN, x -> x.change(-1, SET, 8, 256));
    }

    private static void changeOfAFullProgram() {
        Due.sentence("3: a full program is changed, too: change() has no FULL");
        StruckBits x = full();
        Due.due("ORDER 19", x.change(19, SET, 7, 255), 1);
        Due.due("it is done", x.after(7), 255);
        Due.due("still 20", x.size(0), 20);
        Due.still("ORDER 20", BoundaryProgram::full, UNKNOWN, y -> y.change(20, SET, 7, 255));
    }

    private static void changeForgetsWhatWas() {
        Due.sentence("3: ORDER i becomes that, and nothing is left of what it was");
        StruckBits x = Due.program(SET, 7, 255);
        x.change(0, HALF, 6, 9);
        Due.due("no b is left", x.about(0, 2), 0);
        x.change(0, COPY, 5, 4);
        x.change(0, END, 9, 9);
        Due.due("no a is left", x.about(0, 1), 0);
        Due.due("no b is left", x.about(0, 2), 0);
        x.change(0, END, 9, 9);
        Due.due("the same again", x.about(0, 0), END);
        Due.due("one ORDER", x.size(0), 1);
    }

    private static void clearTellsHowMany() {
        Due.sentence("4: no ORDERS: how many there were");
        Due.due("none", new StruckBits().clear(), 0);
        Due.due("one", Due.program(END, 0, 0).clear(), 1);
        StruckBits x = full();
        Due.due("20", x.clear(), 20);
        Due.due("none are left", x.size(0), 0);
        Due.due("again", x.clear(), 0);
    }

    private static void clearLeavesTheRest() {
        Due.sentence("4: no ORDERS, and nothing else is changed");
        StruckBits x = lived();
        int[] cells = {200, 100, 9, 1, 0, 7, 77, 255};
        int[] chosen = new int[8];
        for (int c = 0; c < 8; c++) {
            chosen[c] = x.chosen(c);
        }
        int costs = x.costs();
        x.clear();
        Due.due("costs", x.costs(), costs);
        Due.due("checks", x.size(1), 3);
        Due.due("searches", x.size(2), 5);
        Due.chosenAre("the best", x, chosen);
        for (int c = 0; c < 8; c++) {
            Due.due("the run leaves cell " + c, x.after(c), cells[c]);
            Due.due("cell " + c, x.cell(c, 0), cells[c]);
        }
    }

    private static void clearedOrdersAreGone() {
        Due.sentence("4: no ORDERS: those that were do not come again");
        StruckBits x = Due.program(SET, 0, 1, SET, 1, 2, JUMP, 0, 0);
        Due.due("endless", x.run(), 2);
        x.clear();
        Due.due("it ends", x.run(), 0);
        Due.due("at once", x.ticks(), 0);
        Due.due("no ORDER 0", x.about(0, 0), UNKNOWN);
        Due.due("one anew", x.order(SET, 5, 5), 1);
        Due.due("one TICK", x.ticks(), 1);
        Due.due("cell 1 is left", x.after(1), 0);
        Due.due("no ORDER 1", x.about(1, 0), UNKNOWN);
    }

    private static void cellTakesACell() {
        Due.sentence("5: a CELL, 0 to 7. UNKNOWN");
        StruckBits x = new StruckBits();
        for (int c = 0; c < 8; c++) {
            Due.due("cell(" + c + ")", x.cell(c, 10 + c), 0);
        }
        for (int c = 0; c < 8; c++) {
            Due.due("each for itself", x.after(c), 10 + c);
        }
        for (int c : NO_CELL) {
            Due.still("cell(" + c + ", 3)", BoundaryProgram::lived, UNKNOWN, y -> y.cell(c, 3));
        }
    }

    private static void cellTakesAValue() {
        Due.sentence("5: becomes v, 0 to 255. OUTSIDE");
        StruckBits x = Due.program(TELL, 7, 0);
        x.cell(7, 255);
        Due.due("255", x.told(0), 255);
        x.cell(7, 0);
        Due.due("0", x.told(0), 0);
        for (int v : NEVER) {
            Due.still("cell(0, " + v + ")", BoundaryProgram::lived, OUTSIDE, y -> y.cell(0, v));
            Due.still("cell(7, " + v + ")", BoundaryProgram::lived, OUTSIDE, y -> y.cell(7, v));
        }
    }

    private static void cellTellsWhatItWas() {
        Due.sentence("5: a CELL as told: what it was");
        StruckBits x = Due.program(SET, 0, 99);
        Due.due("0 at first", x.cell(0, 255), 0);
        Due.due("the run leaves 99", x.after(0), 99);
        Due.due("as told, not as left", x.cell(0, 255), 255);
        Due.due("the same again", x.cell(0, 0), 255);
        Due.due("0", x.cell(0, 0), 0);
    }

    private static void unknownBeforeOutsideOfCell() {
        Due.sentence("5: UNKNOWN, then OUTSIDE");
        Due.still("cell(8, 256)", BoundaryProgram::lived, UNKNOWN, x -> x.cell(8, 256));
        Due.still("cell(-1, -1)", BoundaryProgram::lived, UNKNOWN, x -> x.cell(-1, -1));
    }

    private static void checkTakesACell() {
        Due.sentence("6: CHECK of a CELL, 0 to 7. UNKNOWN");
        for (int c = 0; c < 8; c++) {
            StruckBits x = new StruckBits();
            Due.due("check(" + c + ", 2)", x.check(c, 2), 0);
            for (int other = 0; other < 8; other++) {
                Due.due("of its own cell alone", x.check(other, 0), other == c ? 2 : 0);
            }
        }
        for (int c : NO_CELL) {
            Due.still("check(" + c + ", 1)", BoundaryProgram::lived, UNKNOWN, y -> y.check(c, 1));
        }
    }

    private static void checkTakesAKind() {
        Due.sentence("6: CHECK 0 none to 3 SUM. OUTSIDE");
        StruckBits x = new StruckBits();
        for (int kind = 0; kind <= 3; kind++) {
            Due.due("check(7, " + kind + ")", x.check(7, kind), Math.max(0, kind - 1));
        }
        for (int kind : new int[] {LEAST, -1, 4, 5, MOST}) {
            Due.still("check(0, " + kind + ")", BoundaryProgram::lived, OUTSIDE, y -> y.check(0, kind));
            Due.still("check(7, " + kind + ")", BoundaryProgram::lived, OUTSIDE, y -> y.check(7, kind));
        }
    }

    private static void checkTellsWhatItWas() {
        Due.sentence("6: becomes one: what it was");
        StruckBits x = new StruckBits();
        Due.due("none", x.check(0, 3), 0);
        Due.due("the same again", x.check(0, 3), 3);
        Due.due("sum", x.check(0, 0), 3);
        Due.due("none again", x.check(0, 0), 0);
    }

    private static void unknownBeforeOutsideOfCheck() {
        Due.sentence("6: UNKNOWN, then OUTSIDE");
        Due.still("check(8, 4)", BoundaryProgram::lived, UNKNOWN, x -> x.check(8, 4));
        Due.still("check(-1, -1)", BoundaryProgram::lived, UNKNOWN, x -> x.check(-1, -1));
    }

    private static void aboutNamesAnOrder() {
        Due.sentence("23: of ORDER i. UNKNOWN");
        StruckBits x = full();
        Due.due("ORDER 0", x.about(0, 0), ADD);
        Due.due("ORDER 19", x.about(19, 0), TELL);
        Due.still("ORDER 20", BoundaryProgram::full, UNKNOWN, y -> y.about(20, 0));
        for (int i : new int[] {LEAST, -1, 7, MOST}) {
            Due.still("ORDER " + i, BoundaryProgram::lived, UNKNOWN, y -> y.about(i, 0));
        }
        Due.still("without ORDERS", StruckBits::new, UNKNOWN, y -> y.about(0, 0));
    }

    private static void aboutTakesAWhat() {
        Due.sentence("23: what = 0 the ORDER, 1 a, 2 b. OUTSIDE");
        Supplier<StruckBits> made = () -> Due.program(SET, 7, 255, IF, 6, 19);
        Due.still("0", made, SET, x -> x.about(0, 0));
        Due.still("1", made, 7, x -> x.about(0, 1));
        Due.still("2", made, 255, x -> x.about(0, 2));
        Due.still("1 of an IF", made, 6, x -> x.about(1, 1));
        Due.still("2 of an IF", made, 19, x -> x.about(1, 2));
        for (int what : new int[] {LEAST, -1, 3, MOST}) {
            Due.still("what " + what, made, OUTSIDE, x -> x.about(1, what));
        }
    }

    private static void zeroOfWhatItHasNot() {
        Due.sentence("23: 0 of what it has not");
        StruckBits x = Due.program(HALF, 7, 255, JUMP, 19, 255, TELL, 7, 255, END, 255, 255);
        for (int i = 0; i < 4; i++) {
            Due.due("b of ORDER " + i, x.about(i, 2), 0);
        }
        Due.due("a of HALF", x.about(0, 1), 7);
        Due.due("a of JUMP is t", x.about(1, 1), 19);
        Due.due("a of TELL", x.about(2, 1), 7);
        Due.due("a of END", x.about(3, 1), 0);
    }

    private static void unknownBeforeOutsideOfAbout() {
        Due.sentence("23: UNKNOWN, then OUTSIDE");
        Due.still("about(7, 3)", BoundaryProgram::lived, UNKNOWN, x -> x.about(7, 3));
        Due.still("about(-1, -1)", BoundaryProgram::lived, UNKNOWN, x -> x.about(-1, -1));
    }
}
