import java.util.ArrayList;
import java.util.List;
import java.util.function.Supplier;
import java.util.function.ToLongFunction;

/** Walls that several tests begin with, all that can be told of a wall, and calls that are refused. */
final class Walls {
    static final int UNKNOWN = -1, OUTSIDE = -2, STATE = -3, FULL = -4, NONE = -9;
    static final int LEAST = Integer.MIN_VALUE, MOST = Integer.MAX_VALUE;
    static final int ALL_LENGTHS = 126;

    private Walls() {
    }

    /** A call with the number of a course. */
    interface OfCourse {
        long ask(BondedWall x, int c);
    }

    /** A call with some number. */
    interface OfNumber {
        long ask(BondedWall x, int n);
    }

    static int set(int... numbers) {
        int bits = 0;
        for (int number : numbers) {
            bits |= 1 << number;
        }
        return bits;
    }

    static BondedWall wall(int width, int courses) {
        BondedWall x = new BondedWall();
        x.width(width);
        for (int c = 0; c < courses; c++) {
            x.course();
        }
        return x;
    }

    /** Three courses of 7 cells, right as laid, with all that can be told of them. */
    static BondedWall ordinary() {
        BondedWall x = wall(7, 3);
        x.open(0, set(2, 3));
        x.must(0, 1, set(5));
        x.must(1, 0, set(6));
        x.lay(0, set(5));
        x.lay(1, set(1));
        x.lay(2, set(3, 6));
        x.price(5, NONE);
        x.price(6, 4);
        x.ends(0, 1, set(1, 2, 3, 4, 5));
        x.lap(2);
        return x;
    }

    static BondedWall empty() {
        BondedWall x = ordinary();
        x.width(7);
        return x;
    }

    static BondedWall filled() {
        BondedWall x = ordinary();
        for (int c = 3; c < 8; c++) {
            x.course();
        }
        return x;
    }

    /** Its highest course can not be right. */
    static BondedWall impossible() {
        BondedWall x = ordinary();
        x.must(2, 1, set(2));
        x.must(2, 0, set(2));
        return x;
    }

    /**
     * All that can be asked without a change, and nothing that is refused: what a refusal changed
     * must not be hidden by refusals that change it too. Fewer than 160 calls.
     */
    static List<Long> asked(BondedWall x) {
        List<Long> told = new ArrayList<>();
        for (int what = 0; what <= 5; what++) {
            told.add((long) x.many(what));
        }
        told.add(x.walls());
        told.add((long) x.best());
        told.add((long) x.highest());
        told.add((long) x.wrong(0));
        told.add((long) x.wrong(1));
        told.add((long) x.cost());
        told.add((long) x.cut());
        for (int length = 1; length <= 10; length++) {
            told.add((long) x.pieces(length));
        }
        for (int v = 1; v <= 3; v++) {
            told.add((long) x.byLap(v));
        }
        boolean canBe = x.best() != NONE;
        for (int length = 1; canBe && length <= 6; length++) {
            told.add((long) x.bestOf(length));
        }
        int courses = x.many(0);
        for (int c = 0; c < courses; c++) {
            askCourse(x, c, canBe, told);
        }
        return told;
    }

    private static void askCourse(BondedWall x, int c, boolean canBe, List<Long> told) {
        for (int what = 0; what <= 4; what++) {
            told.add((long) x.ofCourse(c, what));
        }
        int width = x.many(1);
        for (int cell = 0; cell < width; cell++) {
            told.add((long) x.piece(c, cell));
        }
        told.add((long) x.row(c, -1));
        if (canBe) {
            told.add((long) x.bestRow(c));
        }
    }

    /**
     * Prices and ends are told by calls that change them, and an empty wall tells little before a
     * course has come (here with a joint at each place, so that a trace of others below it would
     * break a rule): so the wall is of no use afterwards.
     */
    static List<Long> toldAtLast(BondedWall x) {
        List<Long> told = asked(x);
        if (x.many(0) < 8) {
            int c = x.course();
            told.add((long) c);
            told.add((long) x.lay(c, (1 << x.many(1)) - 2));
            told.addAll(asked(x));
        }
        for (int length = 1; length <= 6; length++) {
            told.add((long) x.price(length, 1));
        }
        for (int end = 0; end < 4; end++) {
            told.add((long) x.ends(end / 2, end % 2, 0));
        }
        return told;
    }

    /** The call is answered so, and the wall then answers as one that was never asked. */
    static void refused(Check check, String call, Supplier<BondedWall> made, ToLongFunction<BondedWall> asked, long want) {
        BondedWall x = made.get();
        check.due(call, asked.applyAsLong(x), want);
        check.holds(call + " changes nothing", toldAtLast(x).equals(toldAtLast(made.get())));
    }

    /** A number from the least to the greatest is taken; those beside them are refused. */
    static void outsideOf(Check check, int least, int greatest, Supplier<BondedWall> made, OfNumber call) {
        check.holds(least + " is taken", call.ask(made.get(), least) != OUTSIDE);
        check.holds(greatest + " is taken", call.ask(made.get(), greatest) != OUTSIDE);
        for (int n : new int[] {least - 1, greatest + 1, least + 32, least - 32, least - 64, LEAST, MOST}) {
            if (n < least || n > greatest) {
                refused(check, "number " + n, made, x -> call.ask(x, n), OUTSIDE);
            }
        }
    }

    /** Only sets of the allowed numbers are taken: all of them, none of them, and no other bit. */
    static void outsideOfSet(Check check, int allowed, Supplier<BondedWall> made, OfNumber call) {
        check.holds("the whole set is taken", call.ask(made.get(), allowed) >= 0);
        check.holds("the empty set is taken", call.ask(made.get(), 0) >= 0);
        for (int bit = 0; bit < 32; bit++) {
            int one = 1 << bit;
            if ((allowed & one) != 0) {
                check.holds("bit " + bit + " is taken", call.ask(made.get(), one) >= 0);
            } else {
                refused(check, "bit " + bit, made, x -> call.ask(x, one), OUTSIDE);
                refused(check, "bit " + bit + " with all others", made, x -> call.ask(x, allowed | one), OUTSIDE);
            }
        }
        refused(check, "all bits", made, x -> call.ask(x, -1), OUTSIDE);
    }

    /** Courses from 0 to the highest are known to the call, those beside them are not. */
    static void unknownBeside(Check check, OfCourse call) {
        for (int courses : new int[] {0, 1, 3, 8}) {
            for (int c = 0; c < courses; c++) {
                check.holds(c + " of " + courses + " is known", call.ask(wall(7, courses), c) != UNKNOWN);
            }
            for (int c : new int[] {-1, courses, 8, 32, -32, LEAST, MOST}) {
                String which = "course " + c + " of " + courses;
                refused(check, which, () -> wall(7, courses), x -> call.ask(x, c), UNKNOWN);
            }
        }
        BondedWall taken = wall(7, 3);
        taken.take();
        check.due("a course that was taken", call.ask(taken, 2), UNKNOWN);
        BondedWall anew = wall(7, 3);
        anew.width(7);
        check.due("a course of the wall before", call.ask(anew, 0), UNKNOWN);
    }

    /** Whatever is wrong beside it, a course that is not there is told first. */
    static void unknownFirst(Check check, String call, OfCourse wrongElsewhere) {
        for (int c : new int[] {-1, 3, 8, LEAST, MOST}) {
            refused(check, call + " of course " + c, Walls::ordinary, x -> wrongElsewhere.ask(x, c), UNKNOWN);
            refused(check, call + " of course " + c + ", no wall right", Walls::impossible,
                    x -> wrongElsewhere.ask(x, c), UNKNOWN);
        }
        refused(check, call + " of an empty wall", Walls::empty, x -> wrongElsewhere.ask(x, 0), UNKNOWN);
    }
}
