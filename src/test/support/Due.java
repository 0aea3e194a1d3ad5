import java.util.ArrayList;
import java.util.List;
import java.util.function.Supplier;
import java.util.function.ToIntFunction;

/** What the tests of the boundary cases share: one sentence of the document at a time, and what is due there. */
final class Due {
    static final int NONE = -1, UNKNOWN = -101, OUTSIDE = -102, STATE = -103, FULL = -104;
    static final int SET = 0, COPY = 1, ADD = 2, AND = 3, UNLIKE = 4, HALF = 5;
    static final int JUMP = 6, IF = 7, TELL = 8, FROM = 9, TO = 10, END = 11;
    static final int LEAST = Integer.MIN_VALUE, MOST = Integer.MAX_VALUE;

    private static String sentence = "";
    private static int sentences = 0;
    private static int answers = 0;
    private static int wrong = 0;

    private Due() {
    }

    /** Begins the test of one sentence: the promise's number and the sentence's words. */
    static void sentence(String words) {
        sentence = words;
        sentences++;
    }

    static void due(String what, long got, long want) {
        answers++;
        if (got != want) {
            wrong++;
            System.out.println(sentence + " | " + what + ": answered " + got + ", due is " + want);
        }
    }

    /** The answer that is due, and that the call changed nothing: behind it the object answers as its twin. */
    static void still(String what, Supplier<StruckBits> made, int want, ToIntFunction<StruckBits> call) {
        StruckBits asked = made.get();
        due(what, call.applyAsInt(asked), want);
        List<Long> got = tour(asked);
        List<Long> twin = tour(made.get());
        for (int i = 0; i < twin.size(); i++) {
            due(what + ", nothing is changed, answer " + i + " of the tour", got.get(i), twin.get(i));
        }
    }

    /** Prints what there was, and ends with exit code 1 if an answer was not the one that is due. */
    static void end(String name) {
        System.out.println(name + ": " + sentences + " sentences, " + answers + " answers, " + wrong + " wrong");
        if (wrong != 0) {
            System.exit(1);
        }
    }

    /** Orders as triples. */
    static StruckBits program(int... orders) {
        StruckBits x = new StruckBits();
        for (int i = 0; i < orders.length; i += 3) {
            due("order " + i / 3, x.order(orders[i], orders[i + 1], orders[i + 2]), i / 3 + 1);
        }
        return x;
    }

    /** Cells as told, from cell 0 on. */
    static StruckBits with(StruckBits x, int... cells) {
        for (int c = 0; c < cells.length; c++) {
            x.cell(c, cells[c]);
        }
        return x;
    }

    static void chosenAre(String what, StruckBits x, int... checks) {
        for (int c = 0; c < 8; c++) {
            due(what + ": chosen(" + c + ")", x.chosen(c), checks[c]);
        }
    }

    /** Every call of the face, some 230 in all: an object has 512, and the tests need some before. */
    private static List<Long> tour(StruckBits x) {
        List<Long> found = new ArrayList<>();
        found.add(x.digest());
        plainRun(x, found);
        for (int i = 0; i <= 20; i++) {
            for (int what = 0; what < 3; what++) {
                found.add((long) x.about(i, what));
            }
        }
        someFlips(x, found);
        checks(x, found);
        program(x, found);
        found.add(x.digest());
        return found;
    }

    private static void plainRun(StruckBits x, List<Long> found) {
        found.add((long) x.run());
        found.add((long) x.ticks());
        found.add((long) x.many());
        for (int i = 0; i <= 12; i++) {
            found.add((long) x.told(i));
        }
        for (int c = 0; c < 8; c++) {
            found.add((long) x.after(c));
            found.add((long) x.dead(c, 0));
            found.add((long) x.dead(c, 2));
        }
    }

    private static void someFlips(StruckBits x, List<Long> found) {
        for (int c = 0; c < 8; c++) {
            for (int w = 1; w <= 2; w++) {
                found.add((long) x.flip(c, c * 6 / 7, w, 0));
                found.add((long) x.flip(c, 3, w, 1));
                found.add((long) x.harm(c, 6 - c * 6 / 7, w, 0));
                found.add((long) x.lasts(c, 2, w, 1));
            }
        }
        for (int w = 1; w <= 2; w++) {
            for (int kind = 0; kind < 6; kind++) {
                found.add((long) x.count(8, w, kind));
            }
            found.add((long) x.all(w));
            found.add((long) x.worst(w, 3));
        }
    }

    private static void checks(StruckBits x, List<Long> found) {
        found.add((long) x.size(1));
        found.add((long) x.size(2));
        found.add((long) x.costs());
        for (int c = 0; c < 8; c++) {
            found.add((long) x.chosen(c));
        }
        found.add((long) x.take());
        found.add((long) x.best(2, 9));
        for (int c = 0; c < 8; c++) {
            found.add((long) x.chosen(c));
            found.add((long) x.check(c, 0));
        }
    }

    private static void program(StruckBits x, List<Long> found) {
        found.add((long) x.size(0));
        for (int c = 0; c < 8; c++) {
            found.add((long) x.cell(c, 0));
        }
        found.add((long) x.order(END, 0, 0));
        found.add((long) x.change(2, TELL, 0, 0));
        found.add((long) x.clear());
        found.add((long) x.run());
    }
}
