import java.util.function.Supplier;
import java.util.function.ToLongFunction;

/**
 * Wrong inputs: each is answered by the first refusal of its line that fits, and leaves a wall that
 * answers as one that was never asked.
 */
public final class RefusalTest {
    private static final int UNKNOWN = -1, OUTSIDE = -2, STATE = -3, FULL = -4;
    private static final int LEAST = Integer.MIN_VALUE, MOST = Integer.MAX_VALUE;
    private static final int[] NO_COURSES = {-1, 3, 8, 35, -29, LEAST, MOST};
    /** Not sets of the cells 0 .. 6. */
    private static final int[] NO_CELLS = {-1, 128, 129, 1 << 31, 1 << 30, MOST, -128};
    /** Not sets of the places 1 .. 6. */
    private static final int[] NO_PLACES = {-1, 1, 3, 127, 128, 130, 1 << 31, LEAST + 2, MOST, -2};

    private static final Check CHECK = new Check();

    public static void main(String[] args) {
        CHECK.holds("the ordinary wall can be", Walls.ordinary().walls() > 1 && Walls.ordinary().wrong(0) == -9);
        CHECK.holds("the filled one can be", Walls.filled().walls() > 1);
        CHECK.due("the impossible one cannot", Walls.impossible().walls(), 0);
        unknown();
        outsideOfTheWall();
        outsideOfCourses();
        outsideOfQuestions();
        state();
        full();
        CHECK.end();
    }

    private static void refused(String call, Supplier<BondedWall> made, ToLongFunction<BondedWall> asked, long want) {
        Walls.refused(CHECK, call, made, asked, want);
    }

    private static void refused(String call, ToLongFunction<BondedWall> asked, long want) {
        refused(call, Walls::ordinary, asked, want);
    }

    /** There is no such course: answered before all else, whatever the other numbers are. */
    private static void unknown() {
        for (int c : NO_COURSES) {
            String at = " of course " + c;
            for (int other : new int[] {0, 2, -1, 99, LEAST, MOST}) {
                refused("open " + other + at, x -> x.open(c, other), UNKNOWN);
                refused("must 1 " + other + at, x -> x.must(c, 1, other), UNKNOWN);
                refused("must " + other + " 2" + at, x -> x.must(c, other, 2), UNKNOWN);
                refused("ofCourse " + other + at, x -> x.ofCourse(c, other), UNKNOWN);
                refused("row " + other + at, x -> x.row(c, other), UNKNOWN);
                refused("lay " + other + at, x -> x.lay(c, other), UNKNOWN);
                refused("piece " + other + at, x -> x.piece(c, other), UNKNOWN);
            }
            refused("bestRow" + at, x -> x.bestRow(c), UNKNOWN);
            refused("bestRow, no wall right," + at, Walls::impossible, x -> x.bestRow(c), UNKNOWN);
        }
        refused("open 0 of an empty wall", Walls::empty, x -> x.open(0, 0), UNKNOWN);
        refused("bestRow 0 of an empty wall", Walls::empty, x -> x.bestRow(0), UNKNOWN);
    }

    private static void outsideOfTheWall() {
        for (int n : new int[] {1, 0, -1, 11, 34, LEAST, MOST}) {
            refused("width " + n, x -> x.width(n), OUTSIDE);
        }
        for (int length : new int[] {0, -1, 7, 33, LEAST, MOST}) {
            refused("price of " + length, x -> x.price(length, 5), OUTSIDE);
            refused("no price of " + length, x -> x.price(length, -9), OUTSIDE);
            refused("bestOf " + length, x -> x.bestOf(length), OUTSIDE);
            refused("bestOf, no wall right, " + length, Walls::impossible, x -> x.bestOf(length), OUTSIDE);
        }
        for (int v : new int[] {100, -1, -8, -10, LEAST, MOST}) {
            refused("price " + v, x -> x.price(4, v), OUTSIDE);
        }
        for (int v : new int[] {0, 4, -1, 33, LEAST, MOST}) {
            refused("lap " + v, x -> x.lap(v), OUTSIDE);
            refused("byLap " + v, x -> x.byLap(v), OUTSIDE);
            refused("byLap, no wall right, " + v, Walls::impossible, x -> x.byLap(v), OUTSIDE);
        }
        for (int which : new int[] {-1, 2, 3, 32, LEAST, MOST}) {
            refused("ends of " + which, x -> x.ends(which, 0, 4), OUTSIDE);
            refused("ends at " + which, x -> x.ends(1, which, 4), OUTSIDE);
            refused("wrong " + which, x -> x.wrong(which), OUTSIDE);
        }
        for (int set : new int[] {1, 3, 127, 128, 254, -1, -2, LEAST, MOST}) {
            refused("ends " + set, x -> x.ends(0, 0, set), OUTSIDE);
        }
    }

    private static void outsideOfCourses() {
        for (int set : NO_CELLS) {
            refused("open " + set, x -> x.open(1, set), OUTSIDE);
        }
        for (int set : NO_PLACES) {
            refused("must " + set, x -> x.must(1, 1, set), OUTSIDE);
            refused("may not " + set, x -> x.must(1, 0, set), OUTSIDE);
            refused("lay " + set, x -> x.lay(1, set), OUTSIDE);
        }
        for (int how : new int[] {-1, 2, 32, LEAST, MOST}) {
            refused("must, how " + how, x -> x.must(1, how, 2), OUTSIDE);
        }
        for (int what : new int[] {-1, 5, 32, LEAST, MOST}) {
            refused("ofCourse " + what, x -> x.ofCourse(1, what), OUTSIDE);
        }
        for (int k : new int[] {-2, 512, LEAST, MOST}) {
            refused("row " + k, x -> x.row(1, k), OUTSIDE);
        }
        for (int cell : new int[] {-1, 7, 9, 32, LEAST, MOST}) {
            refused("piece " + cell, x -> x.piece(1, cell), OUTSIDE);
            refused("piece " + cell + " of a course with openings", x -> x.piece(0, cell), OUTSIDE);
        }
    }

    private static void outsideOfQuestions() {
        for (int length : new int[] {0, -1, 11, 33, LEAST, MOST}) {
            refused("pieces " + length, x -> x.pieces(length), OUTSIDE);
        }
        for (int what : new int[] {-1, 6, 32, LEAST, MOST}) {
            refused("many " + what, x -> x.many(what), OUTSIDE);
        }
    }

    private static void state() {
        refused("take", Walls::empty, x -> x.take(), STATE);
        refused("bestRow", Walls::impossible, x -> x.bestRow(2), STATE);
        refused("bestOf", Walls::impossible, x -> x.bestOf(1), STATE);
        refused("layBest", Walls::impossible, x -> x.layBest(), STATE);
        refused("best", Walls::impossible, x -> x.best(), -9);
        refused("walls", Walls::impossible, x -> x.walls(), 0);
        refused("byLap", Walls::impossible, x -> x.byLap(1), -9);
    }

    private static void full() {
        refused("course", Walls::filled, x -> x.course(), FULL);
    }
}
