import java.util.function.Supplier;

/** Boundary cases of promises 19 to 22, 24 and 25: prices, the best checks, sizes, the digest; by sentence. */
public final class BoundaryChecks {
    private static final int NONE = Due.NONE, UNKNOWN = Due.UNKNOWN, OUTSIDE = Due.OUTSIDE, STATE = Due.STATE, FULL = Due.FULL;
    private static final int SET = Due.SET, ADD = Due.ADD, HALF = Due.HALF, JUMP = Due.JUMP, IF = Due.IF;
    private static final int TELL = Due.TELL, FROM = Due.FROM, END = Due.END;
    private static final int LEAST = Due.LEAST, MOST = Due.MOST;
    private static final int PARITY = 1, DOUBLE = 2, SUM = 3, SILENT = 5;

    public static void main(String[] args) {
        pricesOfChecks();
        costsOfAllCells();
        priceFrom0To64();
        atMostThatPrice();
        fewestSilent();
        leastPriceOfThese();
        thenTheLessFirst();
        lessByCell0First();
        doubleIsLessThanSum();
        noSilentNoCheck();
        allDoubles();
        checksInUseDoNotMatter();
        bestDoesNotTake();
        bestTakesAWidth();
        bestTakesAPrice();
        bestNeedsAnEnd();
        bestCountsAsFour();
        chosenBeforeAnyBest();
        chosenTakesACell();
        chosenOfTheLatest();
        refusedBestLeavesTheLatest();
        takeBeforeAnyBest();
        takeOfTheLatest();
        takeOfNoChecks();
        takeDoesWhatBestSaid();
        sizeOfOrders();
        sizeOfCheckedCells();
        sizeOfSearches();
        sizeTakesAWhat();
        digestOfANewOne();
        digestOfEachNumber();
        digestOfCrashAndEndless();
        digestWraps();
        digestChangesNothing();
        Due.end("BoundaryChecks");
    }

    private static StruckBits ending() {
        StruckBits x = Due.with(Due.program(TELL, 0, 0, ADD, 0, 1, TELL, 0, 0, END, 0, 0), 5, 6, 7, 8);
        x.check(0, SUM);
        x.check(4, DOUBLE);
        return x;
    }

    private static StruckBits advised() {
        StruckBits x = ending();
        Due.due("of two bits: cell 1 has 14, cell 0 has 21", x.best(2, 64), 0);
        return x;
    }

    private static StruckBits crashing() {
        StruckBits x = advised();
        x.cell(6, 8);
        x.change(3, FROM, 5, 6);
        return x;
    }

    private static StruckBits endless() {
        StruckBits x = advised();
        x.change(3, JUMP, 3, 0);
        return x;
    }

    /** So many searches are done, of count() but for the first four. */
    private static StruckBits spent(int searches) {
        StruckBits x = advised();
        for (int n = 5; n <= searches; n++) {
            x.count(0, 1, 0);
        }
        Due.due("searches", x.size(2), searches);
        return x;
    }

    private static void pricesOfChecks() {
        Due.sentence("19: PRICES of CHECKS: PARITY 1, DOUBLE 8, SUM 2");
        int[] prices = {0, 1, 8, 2};
        for (int c = 0; c < 8; c++) {
            for (int kind = 0; kind < 4; kind++) {
                StruckBits x = new StruckBits();
                x.check(c, kind);
                Due.due("check(" + c + ", " + kind + ")", x.costs(), prices[kind]);
            }
        }
    }

    private static void costsOfAllCells() {
        Due.sentence("19: what CHECKS of all CELLS cost");
        Due.still("none", StruckBits::new, 0, StruckBits::costs);
        Due.still("a SUM and a DOUBLE", BoundaryChecks::ending, 10, StruckBits::costs);
        StruckBits x = new StruckBits();
        int[] prices = {1, 8, 2};
        for (int kind = 1; kind <= 3; kind++) {
            for (int c = 0; c < 8; c++) {
                x.check(c, kind);
            }
            Due.due("eight of " + kind, x.costs(), 8 * prices[kind - 1]);
        }
        x.check(0, 0);
        Due.due("one is taken off", x.costs(), 14);
        Due.due("without THE RUN's END, too", crashing().costs(), 10);
    }

    private static void priceFrom0To64() {
        Due.sentence("20: under a price (0 to 64)");
        StruckBits x = Due.program(TELL, 0, 0);
        Due.due("0", x.best(1, 0), 8);
        Due.due("0: nothing is chosen", x.chosen(0), 0);
        Due.due("64", x.best(1, 64), 0);
        for (int price : new int[] {LEAST, -1, 65, 66, MOST}) {
            Due.still("price " + price, BoundaryChecks::advised, OUTSIDE, y -> y.best(1, price));
        }
    }

    private static void atMostThatPrice() {
        Due.sentence("20: their PRICES together at most that");
        StruckBits one = Due.program(TELL, 0, 0);
        Due.due("PARITY under 0", one.best(1, 0), 8);
        Due.due("PARITY under 1", one.best(1, 1), 0);
        Due.due("SUM under 1", one.best(2, 1), 7);
        Due.due("SUM under 2", one.best(2, 2), 0);
        one.order(SET, 0, 0);
        Due.due("DOUBLE under 7", one.best(2, 7), 7);
        Due.due("DOUBLE under 8", one.best(2, 8), 0);
        StruckBits two = Due.program(TELL, 0, 0, TELL, 1, 0);
        Due.due("two PARITIES under 1", two.best(1, 1), 8);
        Due.due("two PARITIES under 2", two.best(1, 2), 0);
        Due.due("two SUMS under 3", two.best(2, 3), 7);
        Due.due("two SUMS under 4", two.best(2, 4), 0);
    }

    private static void fewestSilent() {
        Due.sentence("20: CHECKS of all CELLS with fewest SILENT FLIPS");
        StruckBits x = Due.program(TELL, 0, 0, TELL, 1, 0, TELL, 2, 0);
        // silent ones of one bit: 8, 16, 24
        Due.due("under 1", x.best(1, 1), 24);
        Due.chosenAre("the cell with most", x, 0, 0, PARITY, 0, 0, 0, 0, 0);
        Due.due("under 2", x.best(1, 2), 8);
        Due.chosenAre("the two with most", x, 0, PARITY, PARITY, 0, 0, 0, 0, 0);
        Due.due("under 3, two bits", x.best(2, 3), 21);
        Due.chosenAre("a SUM", x, 0, 0, SUM, 0, 0, 0, 0, 0);
        Due.due("under 5, two bits", x.best(2, 5), 7);
        Due.chosenAre("two SUMS", x, 0, SUM, SUM, 0, 0, 0, 0, 0);
        StruckBits mixed = Due.program(TELL, 0, 0, TELL, 1, 0, SET, 1, 0);
        Due.due("not first come: the dear one under 9", mixed.best(2, 9), 7);
        Due.chosenAre("a DOUBLE", mixed, 0, DOUBLE, 0, 0, 0, 0, 0, 0);
        Due.due("both under 10", mixed.best(2, 10), 0);
        Due.chosenAre("a SUM and a DOUBLE", mixed, SUM, DOUBLE, 0, 0, 0, 0, 0, 0);
        Due.due("what CRASHES is not SILENT", Due.program(FROM, 1, 0, TELL, 2, 0).best(1, 0), 16);
    }

    private static void leastPriceOfThese() {
        Due.sentence("20: of these those of least PRICE");
        StruckBits x = Due.program(TELL, 0, 0);
        Due.due("one bit, with money for all", x.best(1, 64), 0);
        Due.chosenAre("PARITY, not SUM nor DOUBLE", x, PARITY, 0, 0, 0, 0, 0, 0, 0);
        Due.due("two bits, with money for all", x.best(2, 64), 0);
        Due.chosenAre("SUM, not DOUBLE", x, SUM, 0, 0, 0, 0, 0, 0, 0);
        Due.due("its price", x.take(), 2);
        StruckBits four = Due.program(TELL, 0, 0, TELL, 1, 0, TELL, 2, 0, TELL, 3, 0);
        Due.due("four PARITIES", four.best(1, 63), 0);
        Due.due("are 4", four.take(), 4);
        StruckBits partly = Due.program(TELL, 0, 0, SET, 0, 0, TELL, 0, 0);
        // two bits: 7 ahead of tick 0, which a SUM misses, and 7 ahead of tick 2
        Due.due("under 7", partly.best(2, 7), 7);
        Due.chosenAre("a SUM for a half", partly, SUM, 0, 0, 0, 0, 0, 0, 0);
        Due.due("under 8", partly.best(2, 8), 0);
        Due.chosenAre("a DOUBLE for all", partly, DOUBLE, 0, 0, 0, 0, 0, 0, 0);
    }

    private static void thenTheLessFirst() {
        Due.sentence("20: of these by CELL 0's, then CELL 1's CHECK, and so on, the less first");
        // cells 0 and 7 have 16 silent ones each
        StruckBits x = Due.program(SET, 7, 0, TELL, 0, 0, TELL, 7, 0);
        Due.due("one of two PARITIES", x.best(1, 1), 16);
        Due.chosenAre("none for cell 0", x, 0, 0, 0, 0, 0, 0, 0, PARITY);
        Due.due("one of two SUMS", x.best(2, 3), 14);
        Due.chosenAre("none for cell 0", x, 0, 0, 0, 0, 0, 0, 0, SUM);
        StruckBits three = Due.program(SET, 3, 0, SET, 4, 0, TELL, 2, 0, TELL, 3, 0, TELL, 4, 0);
        // cells 2, 3 and 4 have 24 each
        Due.due("two of three PARITIES", three.best(1, 2), 24);
        Due.chosenAre("none for cell 2", three, 0, 0, 0, PARITY, PARITY, 0, 0, 0);
        Due.due("one of three PARITIES", three.best(1, 1), 48);
        Due.chosenAre("none for cells 2 and 3", three, 0, 0, 0, 0, PARITY, 0, 0, 0);
    }

    private static void lessByCell0First() {
        Due.sentence("20: of these by CELL 0's CHECK before all others");
        // of two bits: cells 0 to 3 have 70 in all for four SUMS, cell 4 has 70 for one DOUBLE
        StruckBits late = Due.program(TELL, 0, 0, TELL, 1, 0, TELL, 2, 0, TELL, 3, 0, SET, 7, 0, SET, 7, 0, SET, 7, 0,
            SET, 7, 0, SET, 7, 0, TELL, 4, 0, SET, 4, 0);
        Due.due("70 are left", late.best(2, 8), 70);
        Due.chosenAre("none for cell 0, a DOUBLE for cell 4", late, 0, 0, 0, 0, DOUBLE, 0, 0, 0);
        StruckBits early = Due.program(TELL, 1, 0, TELL, 2, 0, TELL, 3, 0, TELL, 4, 0, SET, 7, 0, SET, 7, 0, SET, 7, 0,
            SET, 7, 0, SET, 7, 0, TELL, 0, 0, SET, 0, 0);
        Due.due("70 are left", early.best(2, 8), 70);
        Due.chosenAre("none for cell 0, four SUMS", early, 0, SUM, SUM, SUM, SUM, 0, 0, 0);
    }

    private static void doubleIsLessThanSum() {
        Due.sentence("20: the less first: by the CHECK's number, not by its PRICE");
        // of two bits: cell 0 has 42 that a SUM misses and 7 that it catches; cells 1 to 3 have 42 in all
        StruckBits x = Due.program(TELL, 1, 0, TELL, 2, 0, TELL, 3, 0, SET, 7, 0, SET, 7, 0, TELL, 0, 0, SET, 0, 0, TELL, 0, 0);
        Due.due("42 are left", x.best(2, 8), 42);
        Due.chosenAre("DOUBLE is 2, SUM is 3", x, DOUBLE, 0, 0, 0, 0, 0, 0, 0);
    }

    private static void noSilentNoCheck() {
        Due.sentence("20: where nothing is SILENT the least PRICE is 0");
        StruckBits x = Due.program(SET, 0, 1, ADD, 1, 0, HALF, 1, 0);
        Due.due("one bit", x.best(1, 64), 0);
        Due.chosenAre("none", x, 0, 0, 0, 0, 0, 0, 0, 0);
        Due.due("costs", x.take(), 0);
    }

    private static void allDoubles() {
        Due.sentence("20: a price of 64 pays for eight DOUBLES");
        StruckBits x = new StruckBits();
        for (int c = 0; c < 8; c++) {
            x.order(TELL, c, 0);
        }
        for (int c = 0; c < 8; c++) {
            x.order(SET, c, 0);
        }
        Due.due("under 64", x.best(2, 64), 0);
        Due.chosenAre("all", x, DOUBLE, DOUBLE, DOUBLE, DOUBLE, DOUBLE, DOUBLE, DOUBLE, DOUBLE);
        Due.due("64", x.take(), 64);
        Due.due("under 63", x.best(2, 63), 7);
        Due.chosenAre("all but the one with fewest", x, 0, DOUBLE, DOUBLE, DOUBLE, DOUBLE, DOUBLE, DOUBLE, DOUBLE);
        Due.due("56", x.take(), 56);
    }

    private static void checksInUseDoNotMatter() {
        Due.sentence("20: THE BEST is of all CHECKS, whatever CHECKS there are");
        StruckBits bare = Due.program(TELL, 0, 0, TELL, 1, 0);
        StruckBits checked = Due.program(TELL, 0, 0, TELL, 1, 0);
        for (int c = 0; c < 8; c++) {
            checked.check(c, DOUBLE);
        }
        for (int price = 0; price <= 4; price++) {
            Due.due("under " + price, checked.best(2, price), bare.best(2, price));
            Due.due("cell 0 under " + price, checked.chosen(0), bare.chosen(0));
            Due.due("cell 1 under " + price, checked.chosen(1), bare.chosen(1));
        }
        Due.due("none is caught under 0", checked.best(1, 0), 24);
    }

    private static void bestDoesNotTake() {
        Due.sentence("20: best() leaves CHECKS as they are; take() changes them");
        StruckBits x = advised();
        Due.due("costs", x.costs(), 10);
        Due.due("cell 0", x.check(0, SUM), SUM);
        Due.due("cell 4", x.check(4, DOUBLE), DOUBLE);
    }

    private static void bestTakesAWidth() {
        Due.sentence("20: OUTSIDE: w");
        for (int w : new int[] {LEAST, -1, 0, 3, MOST}) {
            Due.still("best(" + w + ", 5)", BoundaryChecks::advised, OUTSIDE, x -> x.best(w, 5));
            Due.still("of an ENDLESS one", BoundaryChecks::endless, OUTSIDE, x -> x.best(w, 5));
        }
        Due.still("before FULL", () -> spent(60), OUTSIDE, x -> x.best(3, 5));
    }

    private static void bestTakesAPrice() {
        Due.sentence("20: OUTSIDE: price, ahead of STATE and FULL");
        for (int price : new int[] {LEAST, -1, 65, MOST}) {
            Due.still("of a CRASH", BoundaryChecks::crashing, OUTSIDE, x -> x.best(1, price));
            Due.still("before FULL", () -> spent(60), OUTSIDE, x -> x.best(1, price));
            Due.still("no best before it", BoundaryChecks::ending, OUTSIDE, x -> x.best(1, price));
        }
    }

    private static void bestNeedsAnEnd() {
        Due.sentence("20: STATE, ahead of FULL");
        Due.still("of a CRASH", BoundaryChecks::crashing, STATE, x -> x.best(1, 5));
        Due.still("of an ENDLESS one", BoundaryChecks::endless, STATE, x -> x.best(2, 5));
        Supplier<StruckBits> both = () -> {
            StruckBits x = spent(57);
            x.change(3, JUMP, 3, 0);
            return x;
        };
        Due.still("before FULL", both, STATE, x -> x.best(1, 5));
    }

    private static void bestCountsAsFour() {
        Due.sentence("20: FULL: with it there would be more than 60, this one counting as four");
        for (int done : new int[] {57, 58, 59, 60}) {
            Due.still("behind " + done, () -> spent(done), FULL, x -> x.best(1, 1));
        }
        StruckBits x = spent(56);
        Due.due("behind 56", x.best(1, 1), 16);
        Due.due("60", x.size(2), 60);
        StruckBits fifteen = ending();
        for (int n = 1; n <= 15; n++) {
            Due.due("the best " + n, fifteen.best(1, 2), 0);
            Due.due("counted", fifteen.size(2), 4 * n);
        }
        Due.due("the 16th", fifteen.best(1, 2), FULL);
        StruckBits room = spent(57);
        Due.due("a refused best leaves room for all()", room.all(1), 40);
        Due.due("and for worst()", room.worst(1, 0) >= 0 ? 1 : 0, 1);
        Due.due("and for count()", room.count(0, 1, 0), 0);
        Due.due("for no more", room.count(0, 1, 0), FULL);
    }

    private static void chosenBeforeAnyBest() {
        Due.sentence("21: NONE: there was none");
        for (int c = 0; c < 8; c++) {
            int cell = c;
            Due.still("chosen(" + c + ")", BoundaryChecks::ending, NONE, x -> x.chosen(cell));
        }
        StruckBits x = ending();
        x.best(3, 0);
        x.best(1, 65);
        Due.due("refused ones are none", x.chosen(0), NONE);
    }

    private static void chosenTakesACell() {
        Due.sentence("21: the CHECK of a CELL. UNKNOWN, ahead of NONE");
        Due.still("cell 0", BoundaryChecks::advised, DOUBLE, x -> x.chosen(0));
        Due.still("cell 7", BoundaryChecks::advised, 0, x -> x.chosen(7));
        for (int c : new int[] {LEAST, -1, 8, MOST}) {
            Due.still("chosen(" + c + ")", BoundaryChecks::advised, UNKNOWN, x -> x.chosen(c));
            Due.still("chosen(" + c + "), no best", BoundaryChecks::ending, UNKNOWN, x -> x.chosen(c));
        }
    }

    private static void chosenOfTheLatest() {
        Due.sentence("21: in the latest THE BEST");
        StruckBits x = Due.program(TELL, 0, 0, TELL, 7, 0);
        x.best(1, 64);
        Due.chosenAre("one bit", x, PARITY, 0, 0, 0, 0, 0, 0, PARITY);
        x.best(2, 64);
        Due.chosenAre("two bits", x, SUM, 0, 0, 0, 0, 0, 0, SUM);
        x.best(2, 0);
        Due.chosenAre("no money", x, 0, 0, 0, 0, 0, 0, 0, 0);
        x.best(1, 1);
        Due.chosenAre("little money", x, 0, 0, 0, 0, 0, 0, 0, PARITY);
        x.change(1, TELL, 3, 0);
        x.cell(3, 3);
        x.check(7, DOUBLE);
        x.count(8, 2, 5);
        Due.chosenAre("it stays, whatever else is changed", x, 0, 0, 0, 0, 0, 0, 0, PARITY);
        x.clear();
        Due.chosenAre("without ORDERS, too", x, 0, 0, 0, 0, 0, 0, 0, PARITY);
    }

    private static void refusedBestLeavesTheLatest() {
        Due.sentence("21: a refused best() leaves the latest");
        StruckBits x = Due.program(TELL, 0, 0, TELL, 7, 0);
        x.best(1, 64);
        x.best(2, 65);
        x.best(0, 5);
        Due.chosenAre("OUTSIDE", x, PARITY, 0, 0, 0, 0, 0, 0, PARITY);
        x.order(JUMP, 2, 0);
        Due.due("STATE", x.best(2, 5), STATE);
        Due.chosenAre("STATE", x, PARITY, 0, 0, 0, 0, 0, 0, PARITY);
        x.change(2, END, 0, 0);
        for (int n = 5; n <= 57; n++) {
            x.all(1);
        }
        Due.due("FULL", x.best(2, 5), FULL);
        Due.chosenAre("FULL", x, PARITY, 0, 0, 0, 0, 0, 0, PARITY);
    }

    private static void takeBeforeAnyBest() {
        Due.sentence("22: NONE: there was none");
        Due.still("take()", BoundaryChecks::ending, NONE, StruckBits::take);
        Due.still("take() of a new one", StruckBits::new, NONE, StruckBits::take);
    }

    private static void takeOfTheLatest() {
        Due.sentence("22: CHECKS become those of the latest THE BEST: what they cost");
        StruckBits x = Due.program(TELL, 0, 0, TELL, 7, 0, SET, 7, 0);
        for (int c = 0; c < 8; c++) {
            x.check(c, PARITY);
        }
        x.best(1, 64);
        x.best(2, 64);
        Due.due("a SUM and a DOUBLE", x.take(), 10);
        Due.due("costs", x.costs(), 10);
        Due.due("two CELLS", x.size(1), 2);
        int[] due = {SUM, 0, 0, 0, 0, 0, 0, DOUBLE};
        for (int c = 0; c < 8; c++) {
            Due.due("cell " + c, x.check(c, 0), due[c]);
        }
        Due.due("again", x.take(), 10);
        Due.due("again, cell 7", x.check(7, 0), DOUBLE);
        x.clear();
        Due.due("without ORDERS, too", x.take(), 10);
        Due.chosenAre("THE BEST stays", x, due);
    }

    private static void takeOfNoChecks() {
        Due.sentence("22: THE BEST may be no CHECKS at all");
        StruckBits x = Due.program(TELL, 0, 0);
        x.check(0, DOUBLE);
        x.check(7, SUM);
        x.best(1, 0);
        Due.due("what they cost", x.take(), 0);
        Due.due("all are taken off", x.size(1), 0);
    }

    private static void takeDoesWhatBestSaid() {
        Due.sentence("22: with CHECKS taken as many are SILENT as best() told");
        StruckBits x = Due.with(Due.program(TELL, 0, 0, ADD, 1, 0, SET, 0, 9, FROM, 2, 3, TELL, 2, 0, TELL, 1, 0), 1, 2, 3, 4);
        for (int price = 0; price <= 12; price += 3) {
            int told = x.best(2, price);
            int costs = x.take();
            Due.due("not more than " + price, costs <= price ? 1 : 0, 1);
            Due.due("under " + price, x.count(8, 2, SILENT), told);
        }
    }

    private static void sizeOfOrders() {
        Due.sentence("24: what = 0 ORDERS");
        StruckBits x = new StruckBits();
        for (int n = 0; n < 20; n++) {
            Due.due("ORDERS", x.size(0), n);
            x.order(END, 0, 0);
        }
        x.order(END, 0, 0);
        Due.due("20 at most", x.size(0), 20);
        x.clear();
        Due.due("none", x.size(0), 0);
    }

    private static void sizeOfCheckedCells() {
        Due.sentence("24: 1 CELLS with a CHECK");
        StruckBits x = new StruckBits();
        for (int c = 0; c < 8; c++) {
            Due.due("CELLS", x.size(1), c);
            x.check(c, c % 3 + 1);
        }
        Due.due("eight", x.size(1), 8);
        x.check(0, SUM);
        Due.due("another CHECK is none more", x.size(1), 8);
        x.check(0, 0);
        Due.due("CHECK 0 is none", x.size(1), 7);
    }

    private static void sizeOfSearches() {
        Due.sentence("24: 2 how often count(), worst(), all(), best() were done, as counted for FULL");
        StruckBits x = ending();
        Due.due("none", x.size(2), 0);
        x.count(8, 1, 0);
        Due.due("count() is one", x.size(2), 1);
        x.worst(1, 0);
        Due.due("worst() is one", x.size(2), 2);
        x.all(1);
        Due.due("all() is one", x.size(2), 3);
        x.best(1, 1);
        Due.due("best() is four", x.size(2), 7);
        x.flip(0, 0, 1, 0);
        x.harm(0, 0, 1, 0);
        x.lasts(0, 0, 1, 0);
        x.dead(0, 0);
        x.take();
        Due.due("no other counts", x.size(2), 7);
        x.clear();
        x.cell(0, 1);
        Due.due("nothing takes it back", x.size(2), 7);
        Due.due("60 at most", spent(60).size(2), 60);
    }

    private static void sizeTakesAWhat() {
        Due.sentence("24: OUTSIDE");
        for (int what : new int[] {LEAST, -1, 3, 4, MOST}) {
            Due.still("size(" + what + ")", BoundaryChecks::advised, OUTSIDE, x -> x.size(what));
        }
        Due.still("0", BoundaryChecks::advised, 4, x -> x.size(0));
        Due.still("1", BoundaryChecks::advised, 2, x -> x.size(1));
        Due.still("2", BoundaryChecks::advised, 4, x -> x.size(2));
    }

    private static long digestOf(int[] orders, int[] cells, int[] checks, int[] chosen, int run, int ticks, int searches) {
        long h = 179;
        for (int number : orders) {
            h = 31 * h + number;
        }
        for (int c = 0; c < 8; c++) {
            h = 31 * h + cells[c];
            h = 31 * h + checks[c];
            h = 31 * h + chosen[c];
        }
        h = 31 * h + run;
        h = 31 * h + ticks;
        return 31 * h + searches;
    }

    private static int[] eight(int... first) {
        return java.util.Arrays.copyOf(first, 8);
    }

    private static final int[] NOT_ADVISED = {NONE, NONE, NONE, NONE, NONE, NONE, NONE, NONE};

    private static void digestOfANewOne() {
        Due.sentence("25: h is 179; what chosen() tells is NONE at first");
        Due.due("new", new StruckBits().digest(), digestOf(new int[0], eight(), eight(), NOT_ADVISED, 0, 0, 0));
    }

    private static void digestOfEachNumber() {
        Due.sentence("25: of each ORDER what about() tells; of each CELL as told, its CHECK, what chosen() tells; size(2)");
        StruckBits x = Due.program(SET, 7, 255, HALF, 1, 99, TELL, 7, 99, END, 99, 99);
        int[] orders = {SET, 7, 255, HALF, 1, 0, TELL, 7, 0, END, 0, 0};
        Due.due("0 of what an ORDER has not", x.digest(), digestOf(orders, eight(), eight(), NOT_ADVISED, 0, 4, 0));
        x.cell(7, 200);
        int[] cells = {0, 0, 0, 0, 0, 0, 0, 200};
        Due.due("as told, not as left", x.digest(), digestOf(orders, cells, eight(), NOT_ADVISED, 0, 4, 0));
        x.check(0, DOUBLE);
        Due.due("a CHECK", x.digest(), digestOf(orders, cells, eight(DOUBLE), NOT_ADVISED, 0, 4, 0));
        x.count(8, 1, 0);
        Due.due("a search", x.digest(), digestOf(orders, cells, eight(DOUBLE), NOT_ADVISED, 0, 4, 1));
        x.best(1, 1);
        int[] chosen = {0, 0, 0, 0, 0, 0, 0, PARITY};
        Due.due("a best", x.digest(), digestOf(orders, cells, eight(DOUBLE), chosen, 0, 4, 5));
        x.take();
        Due.due("taken", x.digest(), digestOf(orders, cells, chosen, chosen, 0, 4, 5));
        x.clear();
        Due.due("cleared", x.digest(), digestOf(new int[0], cells, chosen, chosen, 0, 0, 5));
    }

    private static void digestOfCrashAndEndless() {
        Due.sentence("25: what run() and ticks() tell");
        int[] crash = {SET, 0, 1, FROM, 2, 1};
        StruckBits x = Due.with(Due.program(crash), 0, 8);
        Due.due("CRASHES", x.digest(), digestOf(crash, eight(0, 8), eight(), NOT_ADVISED, 1, 2, 0));
        int[] loop = {IF, 0, 0};
        StruckBits y = Due.with(Due.program(loop), 1);
        Due.due("ENDLESS", y.digest(), digestOf(loop, eight(1), eight(), NOT_ADVISED, 2, 100, 0));
        y.cell(0, 0);
        Due.due("ENDS", y.digest(), digestOf(loop, eight(), eight(), NOT_ADVISED, 0, 1, 0));
    }

    private static void digestWraps() {
        Due.sentence("25: as longs, wrapping");
        int[] orders = new int[60];
        StruckBits x = new StruckBits();
        java.math.BigInteger exact = java.math.BigInteger.valueOf(179);
        for (int i = 0; i < 20; i++) {
            orders[3 * i] = SET;
            orders[3 * i + 1] = 7;
            orders[3 * i + 2] = 255 - i;
            x.order(SET, 7, 255 - i);
        }
        int[] rest = new int[27];
        for (int c = 0; c < 8; c++) {
            rest[3 * c] = 255;
            rest[3 * c + 1] = SUM;
            rest[3 * c + 2] = NONE;
            x.cell(c, 255);
            x.check(c, SUM);
        }
        rest[25] = 20;
        for (int[] part : new int[][] {orders, rest}) {
            for (int number : part) {
                exact = exact.multiply(java.math.BigInteger.valueOf(31)).add(java.math.BigInteger.valueOf(number));
            }
        }
        Due.due("20 ORDERS", x.digest(), exact.longValue());
    }

    private static void digestChangesNothing() {
        Due.sentence("25: telling it changes nothing");
        Due.still("digest() twice", BoundaryChecks::advised, 1, x -> x.digest() == x.digest() ? 1 : 0);
    }
}
