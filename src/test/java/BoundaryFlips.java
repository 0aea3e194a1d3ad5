import java.util.function.Supplier;
import java.util.function.ToIntFunction;

/** Boundary cases of promises 13 to 18: flips, their kinds, harm and length, and the searches; by sentence. */
public final class BoundaryFlips {
    private static final int NONE = Due.NONE, UNKNOWN = Due.UNKNOWN, OUTSIDE = Due.OUTSIDE, STATE = Due.STATE, FULL = Due.FULL;
    private static final int SET = Due.SET, COPY = Due.COPY, ADD = Due.ADD, AND = Due.AND, UNLIKE = Due.UNLIKE;
    private static final int HALF = Due.HALF, JUMP = Due.JUMP, IF = Due.IF, TELL = Due.TELL;
    private static final int FROM = Due.FROM, TO = Due.TO, END = Due.END;
    private static final int LEAST = Due.LEAST, MOST = Due.MOST;
    private static final int DEAD = 0, MASKED = 1, CAUGHT = 2, CRASHES = 3, ENDLESS = 4, SILENT = 5;
    private static final int NO_CHECK = 0, PARITY = 1, DOUBLE = 2, SUM = 3;
    private static final int[] NO_CELL = {LEAST, -1, 8, 9, MOST};
    private static final int[] NO_WIDTH = {LEAST, -1, 0, 3, 8, MOST};

    public static void main(String[] args) {
        bitZeroIsTheLowest();
        twoNeighbours();
        changedEitherWay();
        justAheadOfTheTick();
        struckTillWritten();
        struckThoughReadAgain();
        writtenThroughAName();
        writtenOnAnotherWay();
        noCheckCatchesNothing();
        parityCatchesOne();
        doubleCatchesTwo();
        sumCatchesAtTheEnd();
        sumNeedsTheEnd();
        caughtAsItIsRead();
        checksOfOtherCells();
        aCopyIsNotStruck();
        deadIsNotRead();
        maskedTellsTheSame();
        crashOfAFlip();
        endlessOfAFlip();
        silentTellsAnother();
        flipTakesACell();
        flipTakesAWidth();
        flipTakesABit();
        flipNeedsAnEnd();
        flipTakesATick();
        flipsOfTheLongestRun();
        harmOfPlaces();
        harmOfLongerAndShorter();
        harmOfOthers();
        lastsToTheEnd();
        lastsOfCaught();
        lastsOfCrashAndEndless();
        countOfACell();
        countTakesAWidth();
        countTakesAKind();
        countNeedsAnEnd();
        countUpTo60();
        countUnderChecks();
        kindsMakeUpAll();
        countOfNoTicks();
        allIsTheSum();
        allRefuses();
        worstFirst();
        worstNone();
        worstRefuses();
        refusedOnesAreNotCounted();
        refusalsInOrder();
        Due.end("BoundaryFlips");
    }

    /** Four ticks; cell 0 is told twice, cell 1 added, the rest is not used. */
    private static StruckBits ending() {
        return Due.with(Due.program(TELL, 0, 0, ADD, 0, 1, TELL, 0, 0, END, 0, 0), 5, 6, 7, 8);
    }

    private static StruckBits crashing() {
        return Due.with(Due.program(TELL, 0, 0, FROM, 0, 1), 5, 8);
    }

    private static StruckBits endless() {
        return Due.program(TELL, 0, 0, JUMP, 1, 0);
    }

    /** 60 searches are done. */
    private static StruckBits spent() {
        StruckBits x = ending();
        for (int n = 1; n <= 60; n++) {
            Due.due("search " + n, x.count(8, 1, SILENT), 40);
        }
        return x;
    }

    private static StruckBits spentAndEndless() {
        StruckBits x = spent();
        x.change(3, JUMP, 3, 0);
        return x;
    }

    /** One flip under each check in turn. */
    private static void under(String what, StruckBits x, int c, int k, int w, int t, int none, int parity, int twice, int sum) {
        int[] kinds = {none, parity, twice, sum};
        for (int check = 0; check < 4; check++) {
            x.check(c, check);
            Due.due(what + ", under check " + check, x.flip(c, k, w, t), kinds[check]);
        }
        x.check(c, NO_CHECK);
    }

    private static void bitZeroIsTheLowest() {
        Due.sentence("13: bit k of CELL c is changed, bit 0 the lowest");
        for (int seen = 0; seen < 8; seen++) {
            StruckBits x = Due.with(Due.program(AND, 0, 1, TELL, 0, 0), 0, 1 << seen);
            for (int k = 0; k < 8; k++) {
                Due.due("bit " + k + ", told " + (1 << seen), x.flip(0, k, 1, 0), k == seen ? SILENT : MASKED);
            }
        }
    }

    private static void twoNeighbours() {
        Due.sentence("13: bits k to k and w less 1");
        for (int seen = 0; seen < 8; seen++) {
            StruckBits x = Due.with(Due.program(AND, 0, 1, TELL, 0, 0), 0, 1 << seen);
            for (int k = 0; k < 7; k++) {
                boolean hit = k == seen || k + 1 == seen;
                Due.due("bits from " + k + ", told " + (1 << seen), x.flip(0, k, 2, 0), hit ? SILENT : MASKED);
            }
        }
    }

    private static void changedEitherWay() {
        Due.sentence("13: bits are changed: 0 to 1 and 1 to 0");
        StruckBits x = Due.with(Due.program(IF, 0, 2, TELL, 1, 0, END, 0, 0), 1);
        Due.due("1 to 0: told", x.flip(0, 0, 1, 0), SILENT);
        Due.due("1 to 3: as before", x.flip(0, 1, 1, 0), MASKED);
        Due.due("1 to 2: as before", x.flip(0, 0, 2, 0), MASKED);
        x.cell(0, 3);
        Due.due("3 to 0: told", x.flip(0, 0, 2, 0), SILENT);
        Due.due("3 to 2: as before", x.flip(0, 0, 1, 0), MASKED);
        x.cell(0, 192);
        Due.due("192 to 0: told", x.flip(0, 6, 2, 0), SILENT);
        x.cell(0, 0);
        Due.due("0 to 128: not told", x.flip(0, 7, 1, 0), SILENT);
    }

    private static void justAheadOfTheTick() {
        Due.sentence("13: just ahead of TICK t");
        StruckBits x = Due.program(SET, 0, 1, TELL, 0, 0, SET, 0, 2);
        Due.due("written in that TICK", x.flip(0, 0, 1, 0), DEAD);
        Due.due("read in that TICK", x.flip(0, 0, 1, 1), SILENT);
        Due.due("read in the TICK ahead", x.flip(0, 0, 1, 2), DEAD);
    }

    private static void struckTillWritten() {
        Due.sentence("13: till c is written it is STRUCK");
        StruckBits x = Due.with(Due.program(SET, 0, 5, TELL, 0, 0), 5);
        under("written with what it was", x, 0, 3, 1, 0, DEAD, DEAD, DEAD, DEAD);
        under("struck behind the writing", x, 0, 3, 1, 1, SILENT, CAUGHT, CAUGHT, CAUGHT);
        StruckBits last = Due.program(TELL, 1, 0, SET, 0, 0);
        under("written in the last TICK", last, 0, 0, 1, 1, DEAD, DEAD, DEAD, DEAD);
        StruckBits copied = Due.with(Due.program(COPY, 0, 1, TELL, 0, 0), 9, 9);
        under("written by COPY", copied, 0, 0, 2, 0, DEAD, DEAD, DEAD, DEAD);
        StruckBits from = Due.with(Due.program(FROM, 0, 1, TELL, 0, 0), 9, 2, 9);
        under("written by FROM", from, 0, 0, 1, 0, DEAD, DEAD, DEAD, DEAD);
        StruckBits itself = Due.program(AND, 0, 0, SET, 1, 0);
        under("read and written by one ORDER", itself, 0, 0, 1, 0, MASKED, CAUGHT, CAUGHT, MASKED);
        StruckBits copiedToItself = Due.program(COPY, 0, 0);
        under("COPY of itself writes it", copiedToItself, 0, 0, 1, 0, MASKED, CAUGHT, CAUGHT, MASKED);
    }

    private static void struckThoughReadAgain() {
        Due.sentence("13: reading does not end that it is STRUCK");
        StruckBits x = Due.program(TELL, 0, 0, TELL, 0, 0, IF, 0, 3);
        under("read three times", x, 0, 0, 1, 0, SILENT, CAUGHT, CAUGHT, CAUGHT);
        under("read three times, two bits", x, 0, 0, 2, 0, SILENT, SILENT, CAUGHT, CAUGHT);
    }

    private static void writtenThroughAName() {
        Due.sentence("13: TO writes the CELL named, as it is named in the RUN with the FLIP");
        StruckBits x = Due.with(Due.program(TO, 2, 1), 0, 0, 3);
        under("2 names 2: it is written", x, 2, 0, 1, 0, MASKED, CAUGHT, CAUGHT, MASKED);
        under("2 names 1: it is struck still", x, 2, 1, 1, 0, MASKED, CAUGHT, CAUGHT, CAUGHT);
        under("2 names 0, two bits", x, 2, 0, 2, 0, MASKED, MASKED, CAUGHT, CAUGHT);
        under("the CELL named, not read", x, 3, 0, 1, 0, DEAD, DEAD, DEAD, DEAD);
        under("b of TO", x, 1, 0, 1, 0, MASKED, CAUGHT, CAUGHT, CAUGHT);
    }

    private static void writtenOnAnotherWay() {
        Due.sentence("13: a writing that comes of the FLIP ends it, too");
        StruckBits x = Due.program(IF, 0, 2, END, 0, 0, SET, 0, 0);
        under("written on the other way", x, 0, 0, 1, 0, MASKED, CAUGHT, CAUGHT, MASKED);
        x.cell(0, 1);
        under("not written on the other way", x, 0, 0, 1, 0, MASKED, CAUGHT, CAUGHT, CAUGHT);
        under("written on this way", x, 0, 1, 1, 0, MASKED, CAUGHT, CAUGHT, MASKED);
    }

    private static void noCheckCatchesNothing() {
        Due.sentence("13: CHECK 0 none (at first)");
        StruckBits x = ending();
        Due.due("at first", x.flip(0, 0, 1, 0), SILENT);
        x.check(0, DOUBLE);
        Due.due("with a CHECK", x.flip(0, 0, 1, 0), CAUGHT);
        x.check(0, NO_CHECK);
        Due.due("none again", x.flip(0, 0, 1, 0), SILENT);
    }

    private static void parityCatchesOne() {
        Due.sentence("13: 1 PARITY: a STRUCK c, w being 1, is CAUGHT as it is read");
        StruckBits x = ending();
        x.check(0, PARITY);
        for (int k = 0; k < 8; k++) {
            Due.due("bit " + k, x.flip(0, k, 1, 0), CAUGHT);
        }
        for (int k = 0; k < 7; k++) {
            Due.due("two bits from " + k, x.flip(0, k, 2, 0), SILENT);
        }
        Due.due("not read any more", x.flip(0, 0, 1, 3), DEAD);
        x.check(7, PARITY);
        Due.due("never read", x.flip(7, 0, 1, 0), DEAD);
    }

    private static void doubleCatchesTwo() {
        Due.sentence("13: 2 DOUBLE: likewise, w being 1 or 2");
        StruckBits x = ending();
        x.check(0, DOUBLE);
        for (int k = 0; k < 8; k++) {
            Due.due("bit " + k, x.flip(0, k, 1, 0), CAUGHT);
        }
        for (int k = 0; k < 7; k++) {
            Due.due("two bits from " + k, x.flip(0, k, 2, 0), CAUGHT);
        }
        Due.due("not read any more", x.flip(0, 0, 2, 3), DEAD);
        x.check(7, DOUBLE);
        Due.due("never read", x.flip(7, 0, 2, 0), DEAD);
    }

    private static void sumCatchesAtTheEnd() {
        Due.sentence("13: 3 SUM: c is CAUGHT, if it is STRUCK still as the RUN ENDS");
        StruckBits x = ending();
        x.check(0, SUM);
        Due.due("written since", x.flip(0, 0, 1, 0), SILENT);
        Due.due("read and written in that TICK", x.flip(0, 0, 1, 1), SILENT);
        Due.due("read, not written", x.flip(0, 0, 1, 2), CAUGHT);
        Due.due("two bits", x.flip(0, 6, 2, 2), CAUGHT);
        Due.due("not even read", x.flip(0, 0, 1, 3), CAUGHT);
        x.check(7, SUM);
        Due.due("never used", x.flip(7, 0, 1, 0), CAUGHT);
        Due.due("never used, the last TICK", x.flip(7, 6, 2, 3), CAUGHT);
        StruckBits noEnd = Due.program(SET, 1, 1);
        noEnd.check(0, SUM);
        Due.due("it ENDS without END, too", noEnd.flip(0, 0, 1, 0), CAUGHT);
    }

    private static void sumNeedsTheEnd() {
        Due.sentence("13: a RUN that CRASHES or is ENDLESS does not END: SUM catches nothing");
        StruckBits crash = Due.program(FROM, 1, 0);
        crash.check(0, SUM);
        Due.due("FROM", crash.flip(0, 3, 1, 0), CRASHES);
        Due.due("FROM that names a CELL", crash.flip(0, 2, 1, 0), CAUGHT);
        StruckBits to = Due.program(TO, 0, 1);
        to.check(0, SUM);
        Due.due("TO", to.flip(0, 3, 1, 0), CRASHES);
        StruckBits loop = Due.program(IF, 0, 0);
        loop.check(0, SUM);
        Due.due("IF", loop.flip(0, 0, 1, 0), ENDLESS);
        Due.due("IF, two bits", loop.flip(0, 6, 2, 0), ENDLESS);
    }

    private static void caughtAsItIsRead() {
        Due.sentence("13: CAUGHT as it is read: nothing else comes of that TICK");
        StruckBits from = Due.program(FROM, 1, 0);
        under("FROM, which would CRASH", from, 0, 7, 1, 0, CRASHES, CAUGHT, CAUGHT, CRASHES);
        under("FROM, which would CRASH, two bits", from, 0, 6, 2, 0, CRASHES, CRASHES, CAUGHT, CRASHES);
        StruckBits to = Due.program(TO, 0, 1);
        under("TO, which would CRASH", to, 0, 7, 1, 0, CRASHES, CAUGHT, CAUGHT, CRASHES);
        StruckBits loop = Due.program(IF, 0, 0);
        under("IF, which would be ENDLESS", loop, 0, 7, 1, 0, ENDLESS, CAUGHT, CAUGHT, ENDLESS);
        StruckBits named = Due.with(Due.program(FROM, 1, 0, TELL, 1, 0), 6);
        under("the CELL that FROM names is read", named, 6, 0, 1, 0, SILENT, CAUGHT, CAUGHT, CAUGHT);
        StruckBits half = Due.program(HALF, 0, 0);
        under("HALF reads", half, 0, 7, 1, 0, MASKED, CAUGHT, CAUGHT, MASKED);
        StruckBits tell = Due.program(TELL, 0, 0);
        under("TELL reads", tell, 0, 7, 1, 0, SILENT, CAUGHT, CAUGHT, CAUGHT);
        StruckBits unlike = Due.program(UNLIKE, 1, 0);
        under("b of UNLIKE is read", unlike, 0, 7, 1, 0, MASKED, CAUGHT, CAUGHT, CAUGHT);
        under("a of UNLIKE is read", unlike, 1, 7, 1, 0, MASKED, CAUGHT, CAUGHT, MASKED);
    }

    private static void checksOfOtherCells() {
        Due.sentence("13: CHECK of a CELL: that of another CELL catches nothing");
        StruckBits x = ending();
        for (int c = 1; c < 8; c++) {
            x.check(c, c % 3 + 1);
        }
        Due.due("cell 0 has none", x.flip(0, 0, 1, 0), SILENT);
        x.check(0, PARITY);
        x.check(1, NO_CHECK);
        Due.due("cell 1 has none", x.flip(1, 0, 1, 0), SILENT);
    }

    private static void aCopyIsNotStruck() {
        Due.sentence("13: c alone is STRUCK, not what was made of it");
        StruckBits x = Due.program(COPY, 1, 0, SET, 0, 0, TELL, 1, 0);
        for (int check = 0; check < 4; check++) {
            x.check(1, check);
            Due.due("the copy has check " + check, x.flip(0, 0, 1, 0), SILENT);
        }
    }

    private static void deadIsNotRead() {
        Due.sentence("13: 0 DEAD: c was not read, STRUCK");
        StruckBits x = Due.program(SET, 0, 1, TELL, 0, 0);
        for (int check = 0; check < 4; check++) {
            x.check(0, check);
            Due.due("read behind its writing, under check " + check, x.flip(0, 0, 1, 0), DEAD);
        }
        StruckBits unused = Due.program(TELL, 0, 0);
        Due.due("not used", unused.flip(7, 7, 1, 0), DEAD);
        StruckBits read = Due.program(IF, 0, 1);
        Due.due("read, though nothing comes of it", read.flip(0, 0, 1, 0), MASKED);
        StruckBits and = Due.program(AND, 0, 1);
        Due.due("read, though the result is the same", and.flip(0, 0, 1, 0), MASKED);
    }

    private static void maskedTellsTheSame() {
        Due.sentence("13: 1 MASKED: the RUN ENDS, TOLD is the same");
        StruckBits x = Due.program(TELL, 1, 0, COPY, 2, 0, HALF, 2, 0);
        Due.due("other CELLS are left", x.flip(0, 7, 1, 0), MASKED);
        StruckBits longer = Due.with(Due.program(HALF, 0, 0, IF, 0, 0, TELL, 0, 0), 1);
        Due.due("more TICKS", longer.flip(0, 7, 1, 0), MASKED);
        StruckBits none = Due.program(IF, 0, 1);
        Due.due("nothing is told by both", none.flip(0, 0, 1, 0), MASKED);
        StruckBits rounded = Due.program(HALF, 0, 0, TELL, 0, 0);
        Due.due("bit 0 is rounded off", rounded.flip(0, 0, 1, 0), MASKED);
        Due.due("bit 1 is not", rounded.flip(0, 1, 1, 0), SILENT);
        StruckBits wraps = Due.program(ADD, 0, 0, TELL, 0, 0);
        Due.due("bit 7 goes off modulo 256", wraps.flip(0, 7, 1, 0), MASKED);
        Due.due("bit 6 does not", wraps.flip(0, 6, 1, 0), SILENT);
    }

    private static void crashOfAFlip() {
        Due.sentence("13: 3 it CRASHES");
        StruckBits from = Due.with(Due.program(FROM, 1, 0), 7);
        Due.due("FROM 7 to 15", from.flip(0, 3, 1, 0), CRASHES);
        Due.due("FROM 7 to 3", from.flip(0, 2, 1, 0), MASKED);
        Due.due("FROM 7 to 11", from.flip(0, 2, 2, 0), CRASHES);
        Due.due("FROM 7 to 135", from.flip(0, 7, 1, 0), CRASHES);
        StruckBits tells = Due.with(Due.program(TELL, 2, 0, ADD, 0, 1, IF, 0, 0), 4, 255);
        Due.due("4 to 12 are told", tells.flip(0, 3, 1, 0), SILENT);
        tells.cell(0, 5);
        Due.due("a TELL behind 12", tells.flip(0, 3, 1, 0), CRASHES);
    }

    private static void endlessOfAFlip() {
        Due.sentence("13: 4 it is ENDLESS");
        StruckBits loop = Due.with(Due.program(ADD, 0, 1, IF, 0, 0), 18, 255);
        Due.due("36 TICKS", loop.ticks(), 36);
        Due.due("18 to 50: 100 TICKS are not", loop.flip(0, 5, 1, 0), MASKED);
        loop.cell(0, 19);
        Due.due("19 to 51: a next ORDER behind 100", loop.flip(0, 5, 1, 0), ENDLESS);
        StruckBits told = Due.with(Due.program(ADD, 0, 1, IF, 0, 0, TELL, 2, 0), 18, 255);
        Due.due("18 to 50: a TELL is next behind 100", told.flip(0, 5, 1, 0), ENDLESS);
        Due.due("18 to 50, ahead of TICK 34, at 1 to 33", told.flip(0, 5, 1, 34), ENDLESS);
        Due.due("2 to 34 ahead of TICK 32: 32 and 68, then TELL", told.flip(0, 5, 1, 32), ENDLESS);
        Due.due("1 to 17 ahead of TICK 34: 34 and 34 and 1", told.flip(0, 4, 1, 34), MASKED);
        StruckBits itself = Due.program(IF, 0, 0);
        Due.due("for ever", itself.flip(0, 0, 1, 0), ENDLESS);
    }

    private static void silentTellsAnother() {
        Due.sentence("13: 5 SILENT: it ENDS, TOLD is another row");
        StruckBits x = Due.program(TELL, 0, 0);
        Due.due("another number", x.flip(0, 0, 1, 0), SILENT);
        StruckBits more = Due.program(IF, 0, 2, END, 0, 0, TELL, 1, 0);
        Due.due("one more", more.flip(0, 0, 1, 0), SILENT);
        more.cell(0, 1);
        Due.due("one less", more.flip(0, 0, 1, 0), SILENT);
        StruckBits turned = Due.with(Due.program(IF, 0, 4, TELL, 1, 0, TELL, 2, 0, END, 0, 0, TELL, 2, 0, TELL, 1, 0), 0, 1, 2);
        Due.due("the same in another order", turned.flip(0, 0, 1, 0), SILENT);
    }

    private interface Flip {
        int ask(StruckBits x, int c, int k, int w, int t);
    }

    private static final Flip[] THREE = {StruckBits::flip, StruckBits::harm, StruckBits::lasts};
    private static final String[] NAMES = {"flip", "harm", "lasts"};

    /** The same is due of flip(), harm() and lasts(). */
    private static void threeRefuse(Supplier<StruckBits> made, int want, int c, int k, int w, int t) {
        for (int i = 0; i < 3; i++) {
            Flip one = THREE[i];
            String what = NAMES[i] + "(" + c + ", " + k + ", " + w + ", " + t + ")";
            Due.still(what, made, want, x -> one.ask(x, c, k, w, t));
        }
    }

    private static void threeAnswer(Supplier<StruckBits> made, int c, int k, int w, int t, int kind, int harm, int lasts) {
        int[] wants = {kind, harm, lasts};
        for (int i = 0; i < 3; i++) {
            Flip one = THREE[i];
            String what = NAMES[i] + "(" + c + ", " + k + ", " + w + ", " + t + ")";
            Due.still(what, made, wants[i], x -> one.ask(x, c, k, w, t));
        }
    }

    private static void flipTakesACell() {
        Due.sentence("13 to 15: UNKNOWN: c, ahead of all others");
        threeAnswer(BoundaryFlips::ending, 0, 0, 1, 0, SILENT, 2, 4);
        threeAnswer(BoundaryFlips::ending, 7, 0, 1, 0, DEAD, 0, 4);
        for (int c : NO_CELL) {
            threeRefuse(BoundaryFlips::ending, UNKNOWN, c, 0, 1, 0);
            threeRefuse(BoundaryFlips::ending, UNKNOWN, c, 8, 3, 4);
            threeRefuse(BoundaryFlips::crashing, UNKNOWN, c, 0, 1, 0);
        }
        threeRefuse(BoundaryFlips::endless, UNKNOWN, 8, 8, 0, -1);
    }

    private static void flipTakesAWidth() {
        Due.sentence("13 to 15: OUTSIDE: w is 1 or 2");
        threeAnswer(BoundaryFlips::ending, 0, 0, 2, 0, SILENT, 2, 4);
        for (int w : NO_WIDTH) {
            threeRefuse(BoundaryFlips::ending, OUTSIDE, 0, 0, w, 0);
            threeRefuse(BoundaryFlips::endless, OUTSIDE, 0, 0, w, 0);
        }
    }

    private static void flipTakesABit() {
        Due.sentence("13 to 15: OUTSIDE: k is not 0 to 8 less w");
        threeAnswer(BoundaryFlips::ending, 0, 7, 1, 0, SILENT, 2, 4);
        threeAnswer(BoundaryFlips::ending, 0, 6, 2, 0, SILENT, 2, 4);
        for (int k : new int[] {LEAST, -1, 8, 9, MOST}) {
            threeRefuse(BoundaryFlips::ending, OUTSIDE, 0, k, 1, 0);
        }
        for (int k : new int[] {LEAST, -1, 7, 8, MOST}) {
            threeRefuse(BoundaryFlips::ending, OUTSIDE, 0, k, 2, 0);
            threeRefuse(BoundaryFlips::crashing, OUTSIDE, 0, k, 2, 0);
        }
    }

    private static void flipNeedsAnEnd() {
        Due.sentence("13 to 15: STATE, behind UNKNOWN and OUTSIDE of w and k, ahead of OUTSIDE of t");
        for (int t : new int[] {LEAST, -1, 0, 1, 2, 99, 100, MOST}) {
            threeRefuse(BoundaryFlips::crashing, STATE, 0, 0, 1, t);
            threeRefuse(BoundaryFlips::endless, STATE, 7, 6, 2, t);
        }
    }

    private static void flipTakesATick() {
        Due.sentence("13 to 15: OUTSIDE: t is not 0 to T less 1");
        threeAnswer(BoundaryFlips::ending, 0, 0, 1, 3, DEAD, 0, 1);
        for (int t : new int[] {LEAST, -1, 4, 5, 99, 100, MOST}) {
            threeRefuse(BoundaryFlips::ending, OUTSIDE, 0, 0, 1, t);
            threeRefuse(BoundaryFlips::ending, OUTSIDE, 7, 6, 2, t);
        }
        threeRefuse(StruckBits::new, OUTSIDE, 0, 0, 1, 0);
        threeRefuse(StruckBits::new, OUTSIDE, 0, 0, 1, -1);
    }

    /** 99 ticks of a loop, then a TELL of cell 0; 100 in all. */
    private static StruckBits longest() {
        return Due.program(SET, 0, 32, SET, 1, 255, SET, 2, 0, ADD, 0, 1, UNLIKE, 3, 3, IF, 0, 3, TELL, 0, 0);
    }

    private static void flipsOfTheLongestRun() {
        Due.sentence("13 to 15: T of 100 TICKS");
        threeAnswer(BoundaryFlips::longest, 0, 7, 1, 99, SILENT, 1, 1);
        threeAnswer(BoundaryFlips::longest, 5, 0, 1, 0, DEAD, 0, 100);
        threeRefuse(BoundaryFlips::longest, OUTSIDE, 0, 0, 1, 100);
        StruckBits x = longest();
        Due.due("one loop more", x.flip(0, 0, 1, 98), ENDLESS);
        Due.due("one loop less, 2 to 1", x.flip(0, 0, 2, 93), MASKED);
        Due.due("one loop less lasts", x.lasts(0, 0, 2, 93), 4);
        Due.due("all dead of cell 7", x.count(7, 1, DEAD), 800);
        Due.due("all dead of cell 7, two bits", x.count(7, 2, DEAD), 700);
        x.check(7, SUM);
        Due.due("all caught", x.count(7, 1, CAUGHT), 800);
    }

    private static void harmOfPlaces() {
        Due.sentence("14: HARM: how many places of both rows are unlike");
        StruckBits x = Due.program(TELL, 0, 0, TELL, 1, 0, TELL, 0, 0, TELL, 1, 0);
        Due.due("two of four", x.harm(0, 0, 1, 0), 2);
        Due.due("one of four", x.harm(0, 0, 1, 1), 1);
        Due.due("none any more", x.harm(0, 0, 1, 3), 0);
        StruckBits turned = Due.with(Due.program(IF, 0, 4, TELL, 1, 0, TELL, 2, 0, END, 0, 0, TELL, 2, 0, TELL, 1, 0), 0, 1, 2);
        Due.due("the same in another order", turned.harm(0, 0, 1, 0), 2);
        turned.cell(2, 1);
        Due.due("like ones in another order", turned.harm(0, 0, 1, 0), 0);
        StruckBits all = new StruckBits();
        for (int n = 0; n < 12; n++) {
            all.order(TELL, 0, 0);
        }
        Due.due("all 12", all.harm(0, 0, 1, 0), 12);
        Due.due("the last", all.harm(0, 6, 2, 11), 1);
    }

    private static void harmOfLongerAndShorter() {
        Due.sentence("14: each that just one of both has, too");
        StruckBits x = Due.with(Due.program(TELL, 2, 0, ADD, 0, 1, IF, 0, 0), 4, 255);
        Due.due("4 and 12 like ones", x.harm(0, 3, 1, 0), 8);
        Due.due("4 and 5", x.harm(0, 0, 1, 0), 1);
        x.cell(0, 12);
        Due.due("12 and 4 like ones", x.harm(0, 3, 1, 0), 8);
        Due.due("12 and 8", x.harm(0, 2, 1, 0), 4);
        StruckBits none = Due.program(IF, 0, 2, END, 0, 0, TELL, 1, 0);
        Due.due("none and one, which is 0", none.harm(0, 0, 1, 0), 1);
        none.cell(0, 1);
        Due.due("one, which is 0, and none", none.harm(0, 0, 1, 0), 1);
        StruckBits moved = Due.with(Due.program(IF, 0, 2, TELL, 1, 0, TELL, 2, 0), 0, 1, 2);
        Due.due("1, 2 and 2", moved.harm(0, 0, 1, 0), 2);
        moved.cell(1, 2);
        Due.due("2, 2 and 2", moved.harm(0, 0, 1, 0), 1);
    }

    private static void harmOfOthers() {
        Due.sentence("14: 0: it is not SILENT");
        StruckBits x = ending();
        Due.due("DEAD", x.harm(7, 0, 1, 0), 0);
        x.check(0, PARITY);
        Due.due("CAUGHT as it is read", x.harm(0, 0, 1, 0), 0);
        Due.due("two bits are not", x.harm(0, 0, 2, 0), 2);
        x.check(0, SUM);
        Due.due("CAUGHT at the end", x.harm(0, 0, 1, 2), 0);
        Due.due("not CAUGHT at the end", x.harm(0, 0, 1, 0), 2);
        StruckBits crash = Due.program(TELL, 0, 0, FROM, 1, 0);
        Due.due("CRASHES, told another", crash.harm(0, 7, 1, 0), 0);
        StruckBits loop = Due.program(TELL, 0, 0, IF, 0, 1);
        Due.due("ENDLESS, told another", loop.harm(0, 7, 1, 0), 0);
        StruckBits masked = Due.program(HALF, 0, 0, TELL, 0, 0);
        Due.due("MASKED", masked.harm(0, 0, 1, 0), 0);
    }

    private static void lastsToTheEnd() {
        Due.sentence("15: how many TICKS from t on (its own, too) a FLIP's RUN took");
        StruckBits x = Due.program(IF, 0, 3, SET, 1, 1, SET, 1, 2, SET, 1, 3);
        for (int t = 0; t < 4; t++) {
            Due.due("DEAD ahead of TICK " + t, x.lasts(7, 0, 1, t), 4 - t);
        }
        Due.due("a shorter way", x.lasts(0, 0, 1, 0), 2);
        x.cell(0, 1);
        Due.due("a longer way", x.lasts(0, 0, 1, 0), 4);
        Due.due("a way away", Due.with(Due.program(IF, 0, 19, END, 0, 0), 1).lasts(0, 0, 1, 0), 2);
        StruckBits struckLater = Due.with(Due.program(SET, 1, 0, SET, 1, 0, IF, 0, 9, SET, 1, 0), 1);
        Due.due("from t on, not from its reading", struckLater.lasts(0, 0, 1, 0), 4);
        Due.due("from its reading on", struckLater.lasts(0, 0, 1, 2), 2);
    }

    private static void lastsOfCaught() {
        Due.sentence("15: CAUGHT: that TICK counts");
        StruckBits x = Due.program(SET, 1, 0, SET, 1, 0, TELL, 0, 0, TELL, 0, 0, END, 0, 0);
        x.check(0, PARITY);
        Due.due("read two TICKS on", x.lasts(0, 0, 1, 0), 3);
        Due.due("read at once", x.lasts(0, 0, 1, 2), 1);
        Due.due("the second reading", x.lasts(0, 0, 1, 3), 1);
        Due.due("not read any more", x.lasts(0, 0, 1, 4), 1);
        Due.due("two bits go on", x.lasts(0, 0, 2, 0), 5);
        x.check(0, DOUBLE);
        Due.due("DOUBLE, two bits", x.lasts(0, 0, 2, 1), 2);
        x.check(0, SUM);
        Due.due("SUM: to the end", x.lasts(0, 0, 1, 0), 5);
        StruckBits last = longest();
        last.check(0, DOUBLE);
        Due.due("in TICK 99", last.lasts(0, 0, 2, 99), 1);
    }

    private static void lastsOfCrashAndEndless() {
        Due.sentence("15: a CRASH's own TICK, too; an ENDLESS one takes 100");
        StruckBits x = Due.program(SET, 1, 0, FROM, 1, 2, IF, 0, 2, END, 0, 0);
        Due.due("CRASH", x.lasts(2, 3, 1, 0), 2);
        Due.due("CRASH at once", x.lasts(2, 3, 1, 1), 1);
        Due.due("ENDLESS from 0", x.lasts(0, 0, 1, 0), 100);
        Due.due("ENDLESS from 2", x.lasts(0, 0, 1, 2), 98);
        StruckBits loop = Due.with(Due.program(ADD, 0, 1, IF, 0, 0), 18, 255);
        Due.due("100 TICKS that END", loop.lasts(0, 5, 1, 0), 100);
        StruckBits tells = Due.with(Due.program(TELL, 2, 0, ADD, 0, 1, IF, 0, 0), 5, 255);
        Due.due("CRASH of the 13th TELL", tells.lasts(0, 3, 1, 0), 37);
        Due.due("CRASH of the 13th TELL, from TICK 1", tells.lasts(0, 3, 1, 1), 36);
    }

    private static void countOfACell() {
        Due.sentence("16: FLIPS of a CELL (8: of all). UNKNOWN: c");
        StruckBits x = Due.program(TELL, 0, 0, TELL, 7, 0);
        Due.due("cell 0", x.count(0, 1, SILENT), 8);
        Due.due("cell 7", x.count(7, 1, SILENT), 16);
        Due.due("cell 1", x.count(1, 1, SILENT), 0);
        Due.due("8: all", x.count(8, 1, SILENT), 24);
        Due.due("8: all, two bits", x.count(8, 2, SILENT), 21);
        for (int c : new int[] {LEAST, -1, 9, 10, MOST}) {
            Due.still("count(" + c + ", 1, 0)", BoundaryFlips::ending, UNKNOWN, y -> y.count(c, 1, 0));
            Due.still("count(" + c + ", 0, 6)", BoundaryFlips::ending, UNKNOWN, y -> y.count(c, 0, 6));
            Due.still("of an ENDLESS one", BoundaryFlips::endless, UNKNOWN, y -> y.count(c, 1, 0));
        }
        Due.still("FULL, too", BoundaryFlips::spentAndEndless, UNKNOWN, y -> y.count(9, 3, 6));
    }

    private static void countTakesAWidth() {
        Due.sentence("16: OUTSIDE: w");
        for (int w : NO_WIDTH) {
            Due.still("count(0, " + w + ", 0)", BoundaryFlips::ending, OUTSIDE, x -> x.count(0, w, 0));
            Due.still("of all", BoundaryFlips::ending, OUTSIDE, x -> x.count(8, w, 0));
            Due.still("of a CRASH", BoundaryFlips::crashing, OUTSIDE, x -> x.count(8, w, 0));
        }
        Due.still("FULL, too", BoundaryFlips::spent, OUTSIDE, x -> x.count(8, 3, 0));
    }

    private static void countTakesAKind() {
        Due.sentence("16: OUTSIDE: kind");
        StruckBits x = ending();
        Due.due("kind 0", x.count(0, 1, 0), 8);
        Due.due("kind 5", x.count(0, 1, 5), 24);
        for (int kind : new int[] {LEAST, -1, 6, 7, MOST}) {
            Due.still("kind " + kind, BoundaryFlips::ending, OUTSIDE, y -> y.count(0, 1, kind));
            Due.still("kind " + kind + " of all", BoundaryFlips::ending, OUTSIDE, y -> y.count(8, 2, kind));
            Due.still("of an ENDLESS one", BoundaryFlips::endless, OUTSIDE, y -> y.count(0, 1, kind));
        }
        Due.still("FULL, too", BoundaryFlips::spent, OUTSIDE, y -> y.count(8, 1, 6));
    }

    private static void countNeedsAnEnd() {
        Due.sentence("16: STATE, behind UNKNOWN and OUTSIDE, ahead of FULL");
        Due.still("of a CRASH", BoundaryFlips::crashing, STATE, x -> x.count(0, 1, 0));
        Due.still("of an ENDLESS one", BoundaryFlips::endless, STATE, x -> x.count(8, 2, 5));
        Due.still("FULL, too", BoundaryFlips::spentAndEndless, STATE, x -> x.count(8, 1, 0));
    }

    private static void countUpTo60() {
        Due.sentence("16: FULL: with it there would be more than 60 of count(), all(), worst(), best(), this one counting as four");
        Due.due("60 are done", spent().size(2), 60);
        Due.still("the 61st", BoundaryFlips::spent, FULL, x -> x.count(0, 1, 0));
        StruckBits mixed = ending();
        for (int n = 0; n < 14; n++) {
            Due.due("best", mixed.best(1, 0), 40);
        }
        Due.due("56", mixed.size(2), 56);
        Due.due("57", mixed.all(1), 48);
        Due.due("58", mixed.worst(1, 0), 0);
        Due.due("59", mixed.count(0, 1, SILENT), 24);
        Due.due("a best would be the 63rd", mixed.best(1, 0), FULL);
        Due.due("60", mixed.count(0, 1, SILENT), 24);
        Due.due("61", mixed.count(0, 1, SILENT), FULL);
        sixtieth("all()", x -> x.all(1), 48);
        sixtieth("worst()", x -> x.worst(1, 0), 0);
        sixtieth("worst() that is NONE", x -> x.worst(1, MOST), NONE);
        sixtieth("count()", x -> x.count(1, 2, SILENT), 14);
    }

    private static void sixtieth(String what, ToIntFunction<StruckBits> call, int want) {
        StruckBits x = ending();
        for (int n = 1; n <= 60; n++) {
            Due.due(what + ", call " + n, call.applyAsInt(x), want);
            Due.due(what + ", counted", x.size(2), n);
        }
        Due.due(what + ", the 61st", call.applyAsInt(x), FULL);
        Due.due(what + ", still 60", x.size(2), 60);
    }

    private static void countUnderChecks() {
        Due.sentence("16: how many are of a KIND, as CHECKS are");
        StruckBits x = Due.program(SET, 0, 0, TELL, 0, 0, SET, 0, 0, END, 0, 0);
        // cell 0 ahead of ticks 0 and 2 is written unread, ahead of 1 read, then written, ahead of 3 struck to the end
        int[][] kinds = {{24, 0, 0, 0, 0, 8}, {24, 0, 8, 0, 0, 0}, {24, 0, 8, 0, 0, 0}, {16, 0, 8, 0, 0, 8}};
        for (int check = 0; check < 4; check++) {
            x.check(0, check);
            for (int kind = 0; kind < 6; kind++) {
                Due.due("check " + check + ", kind " + kind, x.count(0, 1, kind), kinds[check][kind]);
            }
        }
        x.check(0, PARITY);
        Due.due("PARITY, two bits", x.count(0, 2, SILENT), 7);
        x.check(0, DOUBLE);
        Due.due("DOUBLE, two bits", x.count(0, 2, CAUGHT), 7);
        x.check(0, SUM);
        Due.due("SUM, two bits", x.count(0, 2, CAUGHT), 7);
        Due.due("SUM, two bits, DEAD", x.count(0, 2, DEAD), 14);
    }

    private static void kindsMakeUpAll() {
        Due.sentence("16: every FLIP is of one KIND");
        StruckBits x = Due.with(Due.program(TELL, 0, 0, FROM, 1, 2, ADD, 3, 4, IF, 5, 3, TELL, 1, 0, HALF, 6, 0), 1, 2, 3, 4);
        x.check(0, PARITY);
        x.check(4, DOUBLE);
        x.check(7, SUM);
        for (int w = 1; w <= 2; w++) {
            int sum = 0;
            for (int kind = 0; kind < 6; kind++) {
                sum += x.count(8, w, kind);
            }
            Due.due("of " + w, sum, 8 * (9 - w) * x.ticks());
        }
    }

    private static void countOfNoTicks() {
        Due.sentence("16 to 18, 20: THE RUN of no TICK has no FLIPS");
        StruckBits x = new StruckBits();
        for (int kind = 0; kind < 6; kind++) {
            Due.due("kind " + kind, x.count(8, 1, kind), 0);
        }
        Due.due("all", x.all(2), 0);
        Due.due("worst", x.worst(1, 0), NONE);
        Due.due("best", x.best(1, 64), 0);
        Due.chosenAre("none needs a CHECK", x, 0, 0, 0, 0, 0, 0, 0, 0);
        Due.due("they count, too", x.size(2), 12);
    }

    private static void allIsTheSum() {
        Due.sentence("17: the sum of HARM of all FLIPS of w");
        StruckBits x = ending();
        for (int w = 1; w <= 2; w++) {
            int bits = 9 - w;
            // cell 0 ahead of tick 0 harms two places, ahead of ticks 1 and 2 one; cell 1 ahead of ticks 0 and 1 one
            Due.due("all(" + w + ")", x.all(w), bits * (2 + 1 + 1 + 1 + 1));
        }
        x.check(0, PARITY);
        Due.due("PARITY, one bit", x.all(1), 16);
        Due.due("PARITY, two bits", x.all(2), 42);
        x.check(0, SUM);
        Due.due("SUM", x.all(1), 8 * 5);
        x.check(0, DOUBLE);
        x.check(1, DOUBLE);
        Due.due("none", x.all(2), 0);
        StruckBits most = new StruckBits();
        for (int n = 0; n < 12; n++) {
            most.order(TELL, 0, 0);
        }
        Due.due("12 and 11 and so on, of eight bits", most.all(1), 8 * 78);
    }

    private static void allRefuses() {
        Due.sentence("17: OUTSIDE; STATE; FULL");
        for (int w : NO_WIDTH) {
            Due.still("all(" + w + ")", BoundaryFlips::ending, OUTSIDE, x -> x.all(w));
            Due.still("of a CRASH", BoundaryFlips::crashing, OUTSIDE, x -> x.all(w));
        }
        Due.still("OUTSIDE before FULL", BoundaryFlips::spent, OUTSIDE, x -> x.all(0));
        Due.still("STATE: CRASHES", BoundaryFlips::crashing, STATE, x -> x.all(1));
        Due.still("STATE: ENDLESS", BoundaryFlips::endless, STATE, x -> x.all(2));
        Due.still("STATE before FULL", BoundaryFlips::spentAndEndless, STATE, x -> x.all(1));
        Due.still("FULL", BoundaryFlips::spent, FULL, x -> x.all(1));
    }

    private static void worstFirst() {
        Due.sentence("18: the greatest HARM first, of like ones the least t, then c, then k: 64 t and 8 c and k");
        StruckBits x = Due.program(SET, 2, 0, TELL, 7, 0, ADD, 0, 1, TELL, 0, 0, TELL, 7, 0);
        // harm 2: cell 7 ahead of ticks 0, 1; harm 1: cells 0, 1 ahead of 0 to 2, 0 of 3, 7 of 2 to 4
        int[][] runs = {{0, 7}, {1, 7}, {0, 0}, {0, 1}, {1, 0}, {1, 1}, {2, 0}, {2, 1}, {2, 7}, {3, 0}, {3, 7}, {4, 7}};
        for (int n = 0; n < runs.length; n++) {
            int first = 64 * runs[n][0] + 8 * runs[n][1];
            Due.due("bit 0 of run " + n, x.worst(1, 8 * n), first);
            Due.due("bit 7 of run " + n, x.worst(1, 8 * n + 7), first + 7);
            Due.due("bits 0 and 1 of run " + n, x.worst(2, 7 * n), first);
            Due.due("bits 6 and 7 of run " + n, x.worst(2, 7 * n + 6), first + 6);
        }
        Due.due("the last and one", x.worst(1, 8 * runs.length), NONE);
        Due.due("the first again", x.worst(1, 0), 56);
        Due.due("the last and one, two bits", x.worst(2, 7 * runs.length), NONE);
        x.check(7, DOUBLE);
        Due.due("caught ones are left out", x.worst(2, 0), 0);
        StruckBits most = new StruckBits();
        for (int n = 0; n < 12; n++) {
            most.order(TELL, 7, 0);
        }
        for (int again = 0; again < 3; again++) {
            Due.due("HARM 12 is the greatest", most.worst(1, 0), 56);
            Due.due("the last of HARM 12", most.worst(1, 7), 63);
            Due.due("the first of HARM 11", most.worst(1, 8), 64 + 56);
            Due.due("the last of HARM 1", most.worst(1, 95), 64 * 11 + 63);
            Due.due("no more", most.worst(1, 96), NONE);
        }
    }

    private static void worstNone() {
        Due.sentence("18: NONE: there are not so many");
        StruckBits x = Due.program(TELL, 7, 0);
        Due.due("the last", x.worst(1, 7), 63);
        int[] not = {8, 9, 64, MOST, -1, LEAST};
        for (int i : not) {
            Due.due("worst(1, " + i + ")", x.worst(1, i), NONE);
        }
        Due.due("the last of two bits", x.worst(2, 6), 62);
        Due.due("no more of two bits", x.worst(2, 7), NONE);
        Due.due("NONE is no refusal: it was done", x.size(2), 3 + not.length);
        x.check(7, PARITY);
        Due.due("all are caught", x.worst(1, 0), NONE);
        Due.due("none is silent", Due.program(SET, 0, 0).worst(1, 0), NONE);
    }

    private static void worstRefuses() {
        Due.sentence("18: OUTSIDE: w; STATE; FULL");
        for (int w : NO_WIDTH) {
            Due.still("worst(" + w + ", 0)", BoundaryFlips::ending, OUTSIDE, x -> x.worst(w, 0));
            Due.still("worst(" + w + ", -1)", BoundaryFlips::ending, OUTSIDE, x -> x.worst(w, -1));
            Due.still("of an ENDLESS one", BoundaryFlips::endless, OUTSIDE, x -> x.worst(w, 0));
        }
        Due.still("OUTSIDE before FULL", BoundaryFlips::spent, OUTSIDE, x -> x.worst(3, 0));
        Due.still("STATE: CRASHES", BoundaryFlips::crashing, STATE, x -> x.worst(1, 0));
        Due.still("STATE: ENDLESS", BoundaryFlips::endless, STATE, x -> x.worst(2, MOST));
        Due.still("STATE before FULL", BoundaryFlips::spentAndEndless, STATE, x -> x.worst(1, 0));
        Due.still("FULL", BoundaryFlips::spent, FULL, x -> x.worst(1, 0));
        Due.still("FULL before NONE", BoundaryFlips::spent, FULL, x -> x.worst(1, MOST));
    }

    private static void refusedOnesAreNotCounted() {
        Due.sentence("16 to 18: a refused one does not count for FULL");
        StruckBits x = ending();
        for (int n = 0; n < 60; n++) {
            x.count(9, 1, 0);
            x.count(0, 3, 0);
            x.all(0);
            x.worst(0, 0);
            x.best(1, 65);
        }
        Due.due("none", x.size(2), 0);
        x.change(3, JUMP, 3, 0);
        x.count(8, 1, 0);
        x.all(1);
        x.worst(1, 0);
        x.best(1, 0);
        Due.due("none by STATE", x.size(2), 0);
    }

    private static void refusalsInOrder() {
        Due.sentence("13 to 18: of several refusals the first as told by each call");
        ToIntFunction<StruckBits> allWrong = x -> x.flip(8, 8, 3, 100);
        Due.still("flip: UNKNOWN first", BoundaryFlips::endless, UNKNOWN, allWrong);
        Due.still("flip: then OUTSIDE of k", BoundaryFlips::endless, OUTSIDE, x -> x.flip(7, 8, 1, 100));
        Due.still("flip: then STATE", BoundaryFlips::endless, STATE, x -> x.flip(7, 7, 1, 100));
        Due.still("flip: then OUTSIDE of t", BoundaryFlips::ending, OUTSIDE, x -> x.flip(7, 7, 1, 100));
        Due.still("count: UNKNOWN first", BoundaryFlips::spentAndEndless, UNKNOWN, x -> x.count(9, 0, 6));
        Due.still("count: then OUTSIDE", BoundaryFlips::spentAndEndless, OUTSIDE, x -> x.count(8, 0, 5));
        Due.still("count: then STATE", BoundaryFlips::spentAndEndless, STATE, x -> x.count(8, 1, 5));
        Due.still("count: then FULL", BoundaryFlips::spent, FULL, x -> x.count(8, 1, 5));
        Due.still("all: OUTSIDE first", BoundaryFlips::spentAndEndless, OUTSIDE, x -> x.all(3));
        Due.still("worst: OUTSIDE first", BoundaryFlips::spentAndEndless, OUTSIDE, x -> x.worst(3, 0));
    }
}
