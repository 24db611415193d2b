import java.util.LinkedHashMap;
import java.util.List;
import java.util.Map;
import java.util.function.Consumer;
import java.util.function.ToLongFunction;

/** Each sentence of 'What it is' and of 'Terms' ahead of the rules that names a boundary case. */
public final class TermsBoundaryTest {
    private static final int UNKNOWN = Walls.UNKNOWN, OUTSIDE = Walls.OUTSIDE, STATE = Walls.STATE;
    private static final int FULL = Walls.FULL, NONE = Walls.NONE;

    public static void main(String[] args) {
        sentences().tryAll();
    }

    static Sentences sentences() {
        return new Sentences()
                .under("What it is")
                .says("An object is used for at most 512 calls after it has been made", TermsBoundaryTest::call512)
                .under("Terms")
                .says("of a call's line the first that fits is answered, in the order told there: UNKNOWN "
                        + "(there is no such COURSE), OUTSIDE (another number is not as told), STATE (as told), FULL",
                        TermsBoundaryTest::refusalsInOrder)
                .says("they change nothing", TermsBoundaryTest::refusalsChangeNothing)
                .says("NONE is -9", TermsBoundaryTest::noneIsMinus9)
                .says("LOST (where a long is told) stands for any refusal", TermsBoundaryTest::lost)
                .says("Sets are told as bits (bit k for number k)", TermsBoundaryTest::setsAreBits)
                .says("All that is told is by how all is when it is asked", TermsBoundaryTest::byHowAllIs)
                .says("The WALL has a WIDTH (2 .. 10 CELLS; 8 at first)", TermsBoundaryTest::widths)
                .says("CELLS 0 to WIDTH - 1", TermsBoundaryTest::cells)
                .says("COURSES, 8 at most, numbered from 0 on as they come, the first one lowest",
                        TermsBoundaryTest::courses)
                .says("Each COURSE has OPEN CELLS (none at first), PLACES (1 .. WIDTH - 1) where a JOINT MUST be, "
                        + "PLACES where none MAY be (none of both at first)", TermsBoundaryTest::placesOfCourses)
                .says("PLACE x lies between CELLS x - 1 and x", TermsBoundaryTest::placeBetweenCells)
                .says("A SPAN of a COURSE: CELLS side by side that are not OPEN, as many as may be",
                        TermsBoundaryTest::spans)
                .says("JOINTS of a COURSE are a set of PLACES, each within a SPAN (neither of its two CELLS is OPEN)",
                        TermsBoundaryTest::jointsWithinSpans)
                .says("they part each SPAN into PIECES, of as many CELLS as they have (LENGTH)",
                        TermsBoundaryTest::piecesOfSpans)
                .says("PRICES of LENGTHS 1 .. 6: 0 .. 99 each, or NONE: there are no such PIECES "
                        + "(at first 3, 2, 2, 0, 5, 6)", TermsBoundaryTest::prices)
                .says("no PIECE is longer", TermsBoundaryTest::noPieceIsLonger)
                .says("A WHOLE one has LENGTH 4; those of LENGTH 5, 6 are LINTELS", TermsBoundaryTest::wholeAndLintels)
                .says("LAP is 1 .. 3 (1 at first)", TermsBoundaryTest::laps)
                .says("ENDS: for even COURSES (0), for odd ones (1) a set of LENGTHS that the PIECE with CELL 0 may "
                        + "have, and one for that with CELL WIDTH - 1 (bits 1 to 6; all at first)",
                        TermsBoundaryTest::ends);
    }

    /** A wall of 8 cells and three courses that has been called 511 times. */
    private static BondedWall after511Calls() {
        BondedWall x = Walls.wall(8, 3);
        int calls = 4;
        while (calls < 511) {
            x.open(0, 1);
            x.open(0, 0);
            x.best();
            calls += 3;
        }
        return x;
    }

    private static void call512(Check check) {
        Map<String, ToLongFunction<BondedWall>> lasts = new LinkedHashMap<>();
        lasts.put("width", x -> x.width(10) - 1);
        lasts.put("course", x -> x.course() - 3);
        lasts.put("take", x -> x.take() - 2);
        lasts.put("open", x -> x.open(2, 255));
        lasts.put("must", x -> x.must(2, 1, 254));
        lasts.put("price", x -> x.price(6, NONE) - 6);
        lasts.put("lap", x -> x.lap(3) - 1);
        lasts.put("ends", x -> x.ends(1, 1, 64) - 126);
        lasts.put("ofCourse", x -> x.ofCourse(2, 3) - 1);
        lasts.put("row", x -> x.row(2, 107) - 254);
        lasts.put("walls", x -> x.walls() - 9766);
        lasts.put("best", x -> x.best() - 4);
        lasts.put("bestRow", x -> x.bestRow(1) - Walls.set(2, 6));
        lasts.put("bestOf", x -> x.bestOf(4) - 5);
        lasts.put("highest", x -> x.highest() - 3);
        lasts.put("byLap", x -> x.byLap(3) - NONE);
        lasts.put("lay", x -> x.lay(2, 254));
        lasts.put("layBest", x -> x.layBest() - 4);
        lasts.put("wrong", x -> x.wrong(1) - 3);
        lasts.put("cost", x -> x.cost() - 300);
        lasts.put("pieces", x -> x.pieces(8) - 3);
        lasts.put("piece", x -> x.piece(2, 7) - 8);
        lasts.put("cut", x -> x.cut());
        lasts.put("many", x -> x.many(4) - 3);
        check.due("calls", lasts.size(), 24);
        lasts.forEach((name, call) -> check.due(name + ", off by", call.applyAsLong(after511Calls()), 0));
    }

    // ---- refusals

    private static void refusalsInOrder(Check check) {
        Walls.unknownFirst(check, "open of no set", (x, c) -> x.open(c, -1));
        Walls.unknownFirst(check, "must, how 2, of no set", (x, c) -> x.must(c, 2, 1));
        Walls.unknownFirst(check, "ofCourse 5", (x, c) -> x.ofCourse(c, 5));
        Walls.unknownFirst(check, "row -2", (x, c) -> x.row(c, -2));
        Walls.unknownFirst(check, "row 512", (x, c) -> x.row(c, 512));
        Walls.unknownFirst(check, "bestRow", (x, c) -> x.bestRow(c));
        Walls.unknownFirst(check, "lay of no set", (x, c) -> x.lay(c, 1));
        Walls.unknownFirst(check, "piece -1", (x, c) -> x.piece(c, -1));
        Walls.unknownFirst(check, "piece 7", (x, c) -> x.piece(c, 7));
        for (int length : new int[] {0, 7}) {
            Walls.refused(check, "OUTSIDE ahead of STATE, length " + length, Walls::impossible,
                    x -> x.bestOf(length), OUTSIDE);
        }
        for (int v : new int[] {0, 4}) {
            Walls.refused(check, "OUTSIDE where none would be right, lap " + v, Walls::impossible,
                    x -> x.byLap(v), OUTSIDE);
        }
        check.due("UNKNOWN", BondedWall.UNKNOWN, -1);
        check.due("OUTSIDE", BondedWall.OUTSIDE, -2);
        check.due("STATE", BondedWall.STATE, -3);
        check.due("FULL", BondedWall.FULL, -4);
    }

    private static void refusalsChangeNothing(Check check) {
        Walls.refused(check, "width", Walls::ordinary, x -> x.width(11), OUTSIDE);
        Walls.refused(check, "course", Walls::filled, x -> x.course(), FULL);
        Walls.refused(check, "take", Walls::empty, x -> x.take(), STATE);
        Walls.refused(check, "open", Walls::ordinary, x -> x.open(0, 128), OUTSIDE);
        Walls.refused(check, "must", Walls::ordinary, x -> x.must(0, 1, 129), OUTSIDE);
        Walls.refused(check, "may not", Walls::ordinary, x -> x.must(0, 0, 129), OUTSIDE);
        Walls.refused(check, "price", Walls::ordinary, x -> x.price(1, 100), OUTSIDE);
        Walls.refused(check, "lap", Walls::ordinary, x -> x.lap(4), OUTSIDE);
        Walls.refused(check, "ends", Walls::ordinary, x -> x.ends(0, 0, 128), OUTSIDE);
        Walls.refused(check, "lay", Walls::ordinary, x -> x.lay(0, 129), OUTSIDE);
        Walls.refused(check, "layBest", Walls::impossible, x -> x.layBest(), STATE);
        Walls.refused(check, "bestRow", Walls::impossible, x -> x.bestRow(0), STATE);
        Walls.refused(check, "bestOf", Walls::impossible, x -> x.bestOf(1), STATE);
        Walls.refused(check, "byLap", Walls::ordinary, x -> x.byLap(4), OUTSIDE);
        Walls.refused(check, "ofCourse", Walls::ordinary, x -> x.ofCourse(0, 5), OUTSIDE);
        Walls.refused(check, "row", Walls::ordinary, x -> x.row(0, 512), OUTSIDE);
        Walls.refused(check, "wrong", Walls::ordinary, x -> x.wrong(2), OUTSIDE);
        Walls.refused(check, "pieces", Walls::ordinary, x -> x.pieces(11), OUTSIDE);
        Walls.refused(check, "piece", Walls::ordinary, x -> x.piece(0, 7), OUTSIDE);
        Walls.refused(check, "many", Walls::ordinary, x -> x.many(6), OUTSIDE);
        for (int c : new int[] {-1, 3}) {
            Walls.refused(check, "open of " + c, Walls::ordinary, x -> x.open(c, 2), UNKNOWN);
            Walls.refused(check, "must of " + c, Walls::ordinary, x -> x.must(c, 1, 2), UNKNOWN);
            Walls.refused(check, "lay of " + c, Walls::ordinary, x -> x.lay(c, 2), UNKNOWN);
        }
    }

    private static void noneIsMinus9(Check check) {
        check.due("NONE", BondedWall.NONE, -9);
        BondedWall x = Walls.wall(4, 1);
        check.due("taken as a price", x.price(4, -9), 0);
        check.due("answered as a price", x.price(4, 0), -9);
        check.due("-8 is no price", x.price(4, -8), OUTSIDE);
        check.due("-10 is no price", x.price(4, -10), OUTSIDE);
        x.open(0, 1);
        check.due("answered of a cell", x.piece(0, 0), -9);
    }

    /** walls alone tells a long, and its line has no refusal. */
    private static void lost(Check check) {
        check.due("LOST", BondedWall.LOST, Long.MIN_VALUE);
        check.due("walls of no courses", Walls.empty().walls(), 1);
        check.due("walls, none right", Walls.impossible().walls(), 0);
        check.holds("walls of 8 courses", Walls.filled().walls() > 0);
    }

    private static void setsAreBits(Check check) {
        for (int k = 0; k < 10; k++) {
            BondedWall x = Walls.wall(10, 1);
            x.open(0, 1 << k);
            for (int cell = 0; cell < 10; cell++) {
                check.holds("bit " + k + ", cell " + cell, x.piece(0, cell) == NONE == (cell == k));
            }
        }
        for (int k = 1; k < 10; k++) {
            BondedWall x = Walls.wall(10, 1);
            x.lay(0, 1 << k);
            check.due("a joint as bit " + k, x.piece(0, 0), k);
            check.due("beside it", x.piece(0, 9), 10 - k);
        }
        for (int k = 1; k <= 4; k++) {
            BondedWall x = Walls.wall(5, 1);
            x.ends(0, 0, 1 << k);
            x.must(0, 0, 30 & ~(1 << k));
            check.due("length as bit " + k, x.row(0, 0), 1 << k);
        }
    }

    /** A wall that has answered everything before a change answers like one that has answered nothing. */
    private static void byHowAllIs(Check check) {
        Map<String, Consumer<BondedWall>> changes = new LinkedHashMap<>();
        changes.put("width", x -> x.width(9));
        changes.put("course", x -> x.course());
        changes.put("take", x -> x.take());
        changes.put("open", x -> x.open(1, 8));
        changes.put("must", x -> x.must(1, 1, 2));
        changes.put("may not", x -> x.must(2, 0, 8));
        changes.put("price", x -> x.price(1, 9));
        changes.put("no price", x -> x.price(6, NONE));
        changes.put("lap", x -> x.lap(1));
        changes.put("ends even left", x -> x.ends(0, 0, 8));
        changes.put("ends even right", x -> x.ends(0, 1, 4));
        changes.put("ends odd left", x -> x.ends(1, 0, 4));
        changes.put("ends odd right", x -> x.ends(1, 1, 4));
        changes.put("lay", x -> x.lay(1, 4));
        changes.put("layBest", x -> x.layBest());
        changes.forEach((name, change) -> {
            BondedWall asked = Walls.ordinary();
            List<Long> before = Walls.asked(asked);
            change.accept(asked);
            List<Long> after = Walls.toldAtLast(asked);
            BondedWall silent = Walls.ordinary();
            change.accept(silent);
            check.holds(name + " shows at once", after.equals(Walls.toldAtLast(silent)));
            int both = Math.min(before.size(), after.size());
            check.holds(name + " shows", !before.subList(0, both).equals(after.subList(0, both)));
        });
    }

    // ---- 1 the wall

    private static void widths(Check check) {
        check.due("at first", new BondedWall().many(1), 8);
        for (int n = 2; n <= 10; n++) {
            BondedWall x = new BondedWall();
            check.due("width " + n, x.width(n), 1);
            check.due("it is", x.many(1), n);
        }
        Walls.outsideOf(check, 2, 10, Walls::ordinary, (x, n) -> x.width(n));
    }

    private static void cells(Check check) {
        for (int n = 2; n <= 10; n++) {
            BondedWall x = Walls.wall(n, 1);
            check.due("cell 0 of " + n, x.piece(0, 0), n);
            check.due("the last cell of " + n, x.piece(0, n - 1), n);
            check.due("one below", x.piece(0, -1), OUTSIDE);
            check.due("one above", x.piece(0, n), OUTSIDE);
            check.due("one above, open", x.open(0, 1 << n), OUTSIDE);
            check.due("the last cell, open", x.open(0, 1 << n - 1), 0);
            check.due("cell 0, open", x.open(0, 1), 1 << n - 1);
            check.due("all, open", x.open(0, (1 << n) - 1), 1);
            check.due("so many", x.many(3), n);
        }
    }

    private static void courses(Check check) {
        BondedWall x = Walls.wall(3, 0);
        for (int c = 0; c < 8; c++) {
            check.due("not yet there", x.ofCourse(c, 0), UNKNOWN);
            check.due("course", x.course(), c);
            check.due("there", x.ofCourse(c, 0), 0);
        }
        check.due("a ninth", x.course(), FULL);
        check.due("still 8", x.many(0), 8);
        check.due("no ninth", x.ofCourse(8, 0), UNKNOWN);
        BondedWall two = Walls.wall(3, 2);
        two.open(0, 2);
        check.due("course 1 lies over course 0", two.row(1, -1), 1);
        check.due("with a brick over the opening", two.row(1, 0), 0);
        two.open(0, 0);
        two.open(1, 2);
        check.due("course 0 does not lie over course 1", two.row(0, -1), 4);
    }

    private static void placesOfCourses(Check check) {
        BondedWall eight = Walls.wall(10, 8);
        for (int c = 0; c < 8; c++) {
            for (int what = 0; what <= 2; what++) {
                check.due("at first, course " + c + ", " + what, eight.ofCourse(c, what), 0);
            }
        }
        for (int n = 2; n <= 10; n++) {
            for (int how = 0; how <= 1; how++) {
                BondedWall x = Walls.wall(n, 1);
                check.due("place 1 of width " + n, x.must(0, how, 2), 0);
                check.due("place 0", x.must(0, how, 1), OUTSIDE);
                check.due("place " + n, x.must(0, how, 1 << n), OUTSIDE);
                check.due("the last place", x.must(0, how, 1 << n - 1), 2);
                check.due("all places", x.must(0, how, (1 << n) - 2), 1 << n - 1);
                check.due("all are there", x.ofCourse(0, how == 1 ? 1 : 2), (1 << n) - 2);
                check.due("none of the others", x.ofCourse(0, how == 1 ? 2 : 1), 0);
            }
        }
    }

    private static void placeBetweenCells(Check check) {
        for (int n = 2; n <= 10; n += 8) {
            for (int place = 1; place < n; place++) {
                BondedWall x = Walls.wall(n, 1);
                x.lay(0, 1 << place);
                check.due("cell " + (place - 1) + " lies left of it", x.piece(0, place - 1), place);
                check.due("cell " + place + " lies right of it", x.piece(0, place), n - place);
            }
        }
    }

    private static void spans(Check check) {
        int[][] opensAndSpans = {
            {0, 1}, {1023, 0}, {1, 1}, {512, 1}, {513, 1}, {2, 2}, {256, 2}, {1022, 1}, {511, 1}, {510, 2},
            {0b0101010101, 5}, {0b1010101010, 5}, {0b0000110000, 2}, {0b0010000100, 3}
        };
        for (int[] one : opensAndSpans) {
            BondedWall x = Walls.wall(10, 1);
            x.open(0, one[0]);
            check.due("spans beside " + one[0], x.ofCourse(0, 3), one[1]);
            check.due("as many pieces without joints", x.many(4), one[1]);
        }
        BondedWall x = Walls.wall(10, 1);
        check.due("all cells", x.piece(0, 5), 10);
        x.open(0, 1);
        check.due("as many as may be, right of an opening", x.piece(0, 1), 9);
        x.open(0, 512);
        check.due("as many as may be, left of one", x.piece(0, 8), 9);
        x.open(0, Walls.set(3, 7));
        check.due("as many as may be, between two", x.piece(0, 5), 3);
    }

    private static void jointsWithinSpans(Check check) {
        int[][] openPlaceWithin = {
            {4, 4, 0}, {4, 5, 0}, {4, 3, 1}, {4, 6, 1}, {0, 1, 0}, {0, 2, 1}, {7, 7, 0}, {7, 6, 1}
        };
        for (int[] one : openPlaceWithin) {
            BondedWall x = Walls.wall(8, 1);
            x.open(0, 1 << one[0]);
            x.must(0, 1, 1 << one[1]);
            String which = "a joint at " + one[1] + " beside open cell " + one[0];
            check.holds(which + " can be", x.row(0, -1) > 0 == (one[2] == 1));
            x.lay(0, 1 << one[1]);
            check.holds(which + " as laid", x.wrong(1) != 1 == (one[2] == 1));
        }
        BondedWall x = Walls.wall(8, 1);
        x.open(0, Walls.set(3, 4));
        x.must(0, 1, Walls.set(4));
        check.due("between two open cells", x.row(0, -1), 0);
        x.lay(0, Walls.set(4));
        check.due("between two open cells, as laid", x.wrong(1), 1);
    }

    private static void piecesOfSpans(Check check) {
        for (int n = 2; n <= 10; n++) {
            BondedWall x = Walls.wall(n, 1);
            check.due("no joint in " + n, x.pieces(n), 1);
            check.due("one piece", x.many(4), 1);
            x.lay(0, (1 << n) - 2);
            check.due("joints at all places", x.pieces(1), n);
            x.lay(0, 2);
            check.due("at the first place", x.piece(0, 0), 1);
            check.due("the rest", x.piece(0, 1), n - 1);
            x.lay(0, 1 << n - 1);
            check.due("at the last place", x.piece(0, n - 1), 1);
            check.due("the rest", x.piece(0, n - 2), n - 1);
        }
        BondedWall x = Walls.wall(10, 1);
        x.open(0, Walls.set(4));
        x.lay(0, Walls.set(1, 9));
        check.due("each span by its own joint", x.many(4), 4);
        check.due("1 of 4", x.piece(0, 0), 1);
        check.due("3 of 4", x.piece(0, 3), 3);
        check.due("4 of 5", x.piece(0, 5), 4);
        check.due("1 of 5", x.piece(0, 9), 1);
    }

    private static void prices(Check check) {
        int[] atFirst = {3, 2, 2, 0, 5, 6};
        for (int length = 1; length <= 6; length++) {
            int one = length;
            BondedWall x = new BondedWall();
            check.due("at first, length " + length, x.price(length, 0), atFirst[length - 1]);
            check.due("the least", x.price(length, 99), 0);
            check.due("the greatest", x.price(length, NONE), 99);
            check.due("none", x.price(length, 1), NONE);
            Walls.outsideOf(check, 0, 99, Walls::ordinary,
                    (y, v) -> v == NONE ? OUTSIDE : y.price(one, v));
        }
        for (int length : new int[] {0, 7, -1, 10, 33, Walls.LEAST, Walls.MOST}) {
            Walls.refused(check, "a price of length " + length, Walls::ordinary, x -> x.price(length, 1), OUTSIDE);
        }
        int[] rowsWithout = {2, 4, 6, 7};
        for (int length = 1; length <= 4; length++) {
            BondedWall x = Walls.wall(4, 1);
            x.price(length, NONE);
            check.due("no pieces of " + length, x.row(0, -1), rowsWithout[length - 1]);
        }
    }

    /** One brick has to bridge all but the first and the last cell. */
    private static BondedWall bridged(int width) {
        BondedWall x = Walls.wall(width, 2);
        x.open(0, (1 << width - 1) - 2);
        return x;
    }

    private static void noPieceIsLonger(Check check) {
        for (int n = 3; n <= 10; n++) {
            BondedWall x = bridged(n);
            check.due("a piece of " + n, x.row(1, -1), n <= 6 ? 1 : 0);
            check.due("walls with it", x.walls(), n <= 6 ? 1 : 0);
            check.due("as laid", x.wrong(1), n <= 6 ? NONE : 3);
        }
    }

    private static void wholeAndLintels(Check check) {
        int[] rules = {0, 0, NONE, NONE, NONE, 6, 6, 3};
        for (int n = 2; n <= 7; n++) {
            BondedWall x = Walls.wall(n, 1);
            check.due("a piece of " + n + " in the lowest course", x.wrong(1), rules[n]);
            check.due("bricks for it", x.cut(), n <= 4 ? 1 : 0);
        }
        BondedWall x = Walls.wall(4, 2);
        check.due("whole ones over no opening", x.wrong(0), NONE);
        BondedWall five = Walls.wall(5, 2);
        five.lay(0, 2);
        check.due("a lintel of 5 over no opening", five.wrong(1), 6);
        check.due("its course", five.wrong(0), 1);
        BondedWall six = Walls.wall(6, 2);
        six.lay(0, 4);
        check.due("a lintel of 6 over no opening", six.wrong(1), 6);
        check.due("its course", six.wrong(0), 1);
    }

    private static void laps(Check check) {
        check.due("at first", new BondedWall().many(2), 1);
        Walls.outsideOf(check, 1, 3, Walls::ordinary, (x, v) -> x.lap(v));
        Walls.outsideOf(check, 1, 3, Walls::ordinary, (x, v) -> x.byLap(v));
    }

    private static void ends(Check check) {
        for (int end = 0; end < 4; end++) {
            int odd = end / 2;
            int side = end % 2;
            check.due("at first " + odd + " " + side, new BondedWall().ends(odd, side, 0), 126);
            Walls.outsideOfSet(check, Walls.ALL_LENGTHS, Walls::ordinary, (x, set) -> x.ends(odd, side, set));
        }
        for (int odd = 0; odd <= 1; odd++) {
            BondedWall x = Walls.wall(4, 8);
            x.ends(odd, 0, Walls.set(1));
            for (int c = 0; c < 8; c++) {
                check.due("cell 0 of course " + c, x.row(c, -1), c % 2 == odd ? 4 : 8);
            }
            x.ends(odd, 0, 126);
            x.ends(odd, 1, Walls.set(3));
            for (int c = 0; c < 8; c++) {
                check.due("the other end of course " + c, x.row(c, -1), c % 2 == odd ? 1 : 8);
                check.due("1 and 3", x.row(c, 0), c % 2 == odd ? 2 : 0);
            }
        }
        BondedWall x = Walls.wall(4, 1);
        x.ends(0, 0, Walls.set(4));
        check.due("one piece at both ends", x.row(0, -1), 1);
        x.ends(0, 1, 126 & ~Walls.set(4));
        check.due("it may not be at one of them", x.row(0, -1), 0);
    }
}
