/** Each sentence of the promises 11 to 17 that names a boundary case. */
public final class CanBeBoundaryTest {
    private static final int STATE = Walls.STATE, NONE = Walls.NONE;
    /** How many rows a lowest course without openings has, by its width. */
    private static final int[] ROWS = {0, 0, 2, 4, 8, 15, 29, 56, 108, 208, 401};
    /** How many walls of 8 such courses there are with lap 1, 2, 3, by their width from 2 on. */
    private static final long[][] WALLS = {
        {55, 55, 55}, {3025, 1159, 1159}, {166375, 28793, 19951}, {634802, 682, 2}, {12419258, 514, 0},
        {210800930, 64, 0}, {3174177826L, 514, 0}, {44004082242L, 64, 0}, {690791333778L, 514, 0}
    };

    public static void main(String[] args) {
        sentences().tryAll();
    }

    static Sentences sentences() {
        return new Sentences()
                .under("Promise 11: row")
                .says("Sets of JOINTS that are right by RULES 1 to 6 for a COURSE: how many (k -1)",
                        CanBeBoundaryTest::p11howMany)
                .says("the k-th (from 0 on, the least first)", CanBeBoundaryTest::p11theKth)
                .says("NONE: there are fewer", CanBeBoundaryTest::p11fewer)
                .says("UNKNOWN", CanBeBoundaryTest::p11unknown)
                .says("OUTSIDE: k (-1 .. 511)", CanBeBoundaryTest::p11outside)
                .under("Promise 12: walls")
                .says("How many WALLS are RIGHT", CanBeBoundaryTest::p12howMany)
                .says("(1 without COURSES)", CanBeBoundaryTest::p12withoutCourses)
                .under("Promise 13: best")
                .says("COST of BEST", CanBeBoundaryTest::p13cost)
                .says("NONE: no WALL is RIGHT", CanBeBoundaryTest::p13none)
                .under("Promise 14: bestRow")
                .says("JOINTS of a COURSE in BEST", CanBeBoundaryTest::p14joints)
                .says("UNKNOWN", CanBeBoundaryTest::p14unknown)
                .says("STATE: no WALL is RIGHT", CanBeBoundaryTest::p14state)
                .under("Promise 15: bestOf")
                .says("How many PIECES of a LENGTH (1 .. 6) BEST has", CanBeBoundaryTest::p15howMany)
                .says("OUTSIDE", CanBeBoundaryTest::p15outside)
                .says("STATE: no WALL is RIGHT", CanBeBoundaryTest::p15state)
                .under("Promise 16: highest")
                .says("How many COURSES, from the lowest on, can be right together at most",
                        CanBeBoundaryTest::p16together)
                .under("Promise 17: byLap")
                .says("COST of BEST, if LAP were v (1 .. 3)", CanBeBoundaryTest::p17ifLapWere)
                .says("NONE: no WALL would be RIGHT", CanBeBoundaryTest::p17none)
                .says("OUTSIDE", CanBeBoundaryTest::p17outside);
    }

    private static void p11howMany(Check check) {
        for (int n = 2; n <= 10; n++) {
            BondedWall x = Walls.wall(n, 8);
            check.due("lowest of width " + n, x.row(0, -1), ROWS[n]);
            check.due("highest of width " + n, x.row(7, -1), ROWS[n]);
        }
        BondedWall x = Walls.wall(10, 2);
        x.open(0, 1023);
        check.due("all open: no joints", x.row(0, -1), 1);
        check.due("nothing can lie over it", x.row(1, -1), 0);
        x.open(1, 1023);
        check.due("but an opening", x.row(1, -1), 1);
        BondedWall laps = Walls.wall(4, 2);
        laps.lap(3);
        laps.must(0, 1, 14);
        check.due("rule 7 is none of them", laps.row(1, -1), 8);
        laps.lay(0, 14);
        check.due("nor is what is laid", laps.row(1, -1), 8);
        laps.must(0, 0, 14);
        check.due("nor that the one below can not be", laps.row(1, -1), 8);
        check.due("which has none", laps.row(0, -1), 0);
    }

    private static void p11theKth(Check check) {
        BondedWall x = Walls.wall(10, 1);
        check.due("the least", x.row(0, 0), Walls.set(2, 6));
        check.due("the next", x.row(0, 1), Walls.set(1, 2, 6));
        check.due("the next", x.row(0, 2), Walls.set(3, 6));
        check.due("the greatest", x.row(0, 400), 1022);
        int before = -1;
        for (int k = 0; k <= 400; k++) {
            int joints = x.row(0, k);
            check.holds("each greater than the one before, " + k, joints > before);
            before = joints;
        }
        BondedWall narrow = Walls.wall(2, 8);
        for (int c = 0; c < 8; c++) {
            check.due("without a joint", narrow.row(c, 0), 0);
            check.due("with one", narrow.row(c, 1), 2);
        }
    }

    private static void p11fewer(Check check) {
        for (int n = 2; n <= 10; n++) {
            BondedWall x = Walls.wall(n, 1);
            check.holds("the last of width " + n, x.row(0, ROWS[n] - 1) != NONE);
            check.due("one more", x.row(0, ROWS[n]), NONE);
            check.due("k 511", x.row(0, 511), NONE);
        }
        BondedWall x = Walls.wall(5, 1);
        x.must(0, 0, 30);
        check.due("none at all", x.row(0, 0), NONE);
        check.due("none at all, how many", x.row(0, -1), 0);
    }

    private static void p11unknown(Check check) {
        Walls.unknownBeside(check, (x, c) -> x.row(c, -1));
        Walls.unknownBeside(check, (x, c) -> x.row(c, 0));
        Walls.unknownFirst(check, "k -2", (x, c) -> x.row(c, -2));
        Walls.unknownFirst(check, "k 512", (x, c) -> x.row(c, 512));
    }

    private static void p11outside(Check check) {
        Walls.outsideOf(check, -1, 511, Walls::ordinary, (x, k) -> x.row(0, k));
        Walls.outsideOf(check, -1, 511, Walls::impossible, (x, k) -> x.row(2, k));
        Walls.outsideOf(check, -1, 511, Walls::filled, (x, k) -> x.row(7, k));
    }

    private static void p12howMany(Check check) {
        for (int n = 2; n <= 10; n++) {
            check.due("one course of " + n, Walls.wall(n, 1).walls(), ROWS[n]);
            BondedWall x = Walls.wall(n, 8);
            for (int lap = 1; lap <= 3; lap++) {
                x.lap(lap);
                check.due("8 courses of " + n + ", lap " + lap, x.walls(), WALLS[n - 2][lap - 1]);
            }
        }
        BondedWall open = Walls.wall(10, 8);
        for (int c = 0; c < 8; c++) {
            open.open(c, 1023);
        }
        check.due("all open", open.walls(), 1);
        BondedWall none = Walls.wall(10, 8);
        none.open(7, 1023);
        none.must(7, 1, 2);
        check.due("none, by the highest course", none.walls(), 0);
        check.due("none, by the lowest course", lowestCanNot().walls(), 0);
        BondedWall one = Walls.wall(4, 8);
        for (int c = 0; c < 8; c++) {
            one.must(c, 0, 14);
        }
        check.due("one", one.walls(), 1);
    }

    private static BondedWall lowestCanNot() {
        BondedWall x = Walls.wall(4, 8);
        x.must(0, 1, 2);
        x.must(0, 0, 2);
        return x;
    }

    private static void p12withoutCourses(Check check) {
        check.due("a new object", new BondedWall().walls(), 1);
        for (int n = 2; n <= 10; n++) {
            check.due("width " + n, Walls.wall(n, 0).walls(), 1);
        }
        BondedWall x = Walls.impossible();
        check.due("none", x.walls(), 0);
        x.take();
        x.take();
        x.take();
        check.due("all taken", x.walls(), 1);
        for (int length = 1; length <= 6; length++) {
            x.price(length, NONE);
        }
        check.due("no pieces at all", x.walls(), 1);
    }

    private static void p13cost(Check check) {
        check.due("no courses", Walls.wall(10, 0).best(), 0);
        check.due("for nothing", Walls.wall(4, 8).best(), 0);
        check.due("one course of 2", Walls.wall(2, 1).best(), 2);
        check.due("8 courses of 10", Walls.wall(10, 8).best(), 16);
        BondedWall x = Walls.wall(10, 8);
        for (int length = 1; length <= 6; length++) {
            x.price(length, 99);
        }
        check.due("8 courses of 3 pieces", x.best(), 24 * 99);
        BondedWall laid = Walls.wall(4, 1);
        laid.lay(0, 14);
        check.due("what is laid is nothing to it", laid.best(), 0);
    }

    private static void p13none(Check check) {
        check.due("the highest can not be", Walls.impossible().best(), NONE);
        check.due("the lowest can not be", lowestCanNot().best(), NONE);
        BondedWall x = Walls.wall(2, 1);
        x.price(2, NONE);
        check.due("one way left", x.best(), 6);
        x.price(1, NONE);
        check.due("none left", x.best(), NONE);
        x.open(0, 3);
        check.due("nothing to lay", x.best(), 0);
    }

    private static void p14joints(Check check) {
        BondedWall x = Walls.wall(8, 8);
        for (int c = 0; c < 8; c++) {
            check.due("course " + c, x.bestRow(c), c % 2 == 0 ? Walls.set(4) : Walls.set(2, 6));
        }
        BondedWall whole = Walls.wall(4, 8);
        check.due("no joints, lowest", whole.bestRow(0), 0);
        check.due("no joints, highest", whole.bestRow(7), 0);
        BondedWall all = Walls.wall(10, 1);
        all.must(0, 1, 1022);
        check.due("joints at all places", all.bestRow(0), 1022);
        all.open(0, 1023);
        all.must(0, 1, 0);
        check.due("all open", all.bestRow(0), 0);
    }

    private static void p14unknown(Check check) {
        Walls.unknownBeside(check, (x, c) -> x.bestRow(c));
        Walls.unknownFirst(check, "no wall right", (x, c) -> x.bestRow(c));
    }

    private static void p14state(Check check) {
        for (int c = 0; c < 3; c++) {
            int asked = c;
            Walls.refused(check, "course " + c, Walls::impossible, x -> x.bestRow(asked), STATE);
        }
        Walls.refused(check, "the lowest can not be, asked of the highest", CanBeBoundaryTest::lowestCanNot,
                x -> x.bestRow(7), STATE);
    }

    private static void p15howMany(Check check) {
        BondedWall x = Walls.wall(10, 8);
        for (int length = 1; length <= 6; length++) {
            check.due("without courses, " + length, Walls.wall(10, 0).bestOf(length), 0);
            check.due("8 courses, " + length, x.bestOf(length), length == 2 ? 8 : length == 4 ? 16 : 0);
        }
        BondedWall singles = Walls.wall(10, 8);
        for (int c = 0; c < 8; c++) {
            singles.open(c, 0b0101010101);
        }
        check.due("all of length 1", singles.bestOf(1), 40);
        check.due("none of length 6", singles.bestOf(6), 0);
        BondedWall lintel = Walls.wall(6, 2);
        lintel.open(0, Walls.set(1, 2, 3, 4));
        check.due("one of length 6", lintel.bestOf(6), 1);
        check.due("two of length 1", lintel.bestOf(1), 2);
        BondedWall five = Walls.wall(5, 2);
        five.open(0, Walls.set(1, 2, 3));
        check.due("one of length 5", five.bestOf(5), 1);
        check.due("none of length 6", five.bestOf(6), 0);
        BondedWall laid = Walls.wall(4, 1);
        laid.lay(0, 14);
        check.due("what is laid is nothing to it", laid.bestOf(1), 0);
        check.due("a whole one", laid.bestOf(4), 1);
        BondedWall three = Walls.wall(3, 8);
        check.due("of length 3", three.bestOf(3), 8);
    }

    private static void p15outside(Check check) {
        Walls.outsideOf(check, 1, 6, Walls::ordinary, (x, length) -> x.bestOf(length));
        Walls.outsideOf(check, 1, 6, Walls::empty, (x, length) -> x.bestOf(length));
        Walls.outsideOf(check, 1, 6, Walls::impossible, (x, length) -> x.bestOf(length));
    }

    private static void p15state(Check check) {
        for (int length = 1; length <= 6; length++) {
            int asked = length;
            Walls.refused(check, "length " + length, Walls::impossible, x -> x.bestOf(asked), STATE);
        }
    }

    private static void p16together(Check check) {
        check.due("no courses", Walls.wall(8, 0).highest(), 0);
        for (int c = 0; c < 8; c++) {
            BondedWall x = Walls.wall(4, 8);
            check.due("all", x.highest(), 8);
            x.must(c, 1, 2);
            check.due("still all", x.highest(), 8);
            x.must(c, 0, 2);
            check.due("up to course " + c, x.highest(), c);
        }
        for (int c = 0; c < 7; c++) {
            BondedWall x = Walls.wall(4, 8);
            x.must(c, 1, 2);
            x.must(c + 1, 1, 2);
            check.due("each can be, not both together, " + c, x.highest(), c + 1);
        }
        BondedWall gap = Walls.wall(4, 3);
        gap.must(0, 1, 2);
        gap.must(2, 1, 2);
        check.due("with one between them", gap.highest(), 3);
        BondedWall through = Walls.wall(3, 3);
        through.price(3, NONE);
        through.must(0, 1, Walls.set(1));
        through.must(2, 1, Walls.set(2));
        check.due("the middle one can go with each, not with both", through.highest(), 2);
        through.must(2, 1, Walls.set(1));
        check.due("with both", through.highest(), 3);
        BondedWall lap = Walls.wall(6, 8);
        check.due("by lap 1", lap.highest(), 8);
        lap.lap(3);
        check.due("by lap 3", lap.highest(), 1);
    }

    private static void p17ifLapWere(Check check) {
        BondedWall x = Walls.wall(5, 2);
        x.price(1, 9);
        int[] wants = {0, 8, 13, 18};
        for (int is = 1; is <= 3; is++) {
            x.lap(is);
            for (int v = 1; v <= 3; v++) {
                check.due("lap " + is + ", if it were " + v, x.byLap(v), wants[v]);
                check.due("it stays", x.many(2), is);
                check.due("best stays", x.best(), wants[is]);
            }
        }
        check.due("walls by the lap that is", x.walls(), 2);
        check.due("highest by the lap that is", x.highest(), 2);
        check.due("rows by it", x.bestRow(0), Walls.set(1));
        x.byLap(1);
        check.due("rows by it still", x.bestRow(1), Walls.set(4));
        x.byLap(1);
        check.due("pieces by it still", x.bestOf(4), 2);
        x.byLap(1);
        check.due("laid by it", x.layBest(), 18);
        for (int v = 1; v <= 3; v++) {
            check.due("without courses", Walls.wall(8, 0).byLap(v), 0);
        }
    }

    private static void p17none(Check check) {
        BondedWall x = Walls.wall(6, 2);
        check.due("lap 1", x.byLap(1), 4);
        check.due("lap 2: 2 and 4, then 4 and 2", x.byLap(2), 4);
        check.due("lap 3", x.byLap(3), NONE);
        check.due("best is as it is", x.best(), 4);
        x.lap(3);
        check.due("none by the lap that is", x.best(), NONE);
        check.due("but by another", x.byLap(2), 4);
        check.due("still none", x.best(), NONE);
        for (int v = 1; v <= 3; v++) {
            check.due("none by any", Walls.impossible().byLap(v), NONE);
        }
    }

    private static void p17outside(Check check) {
        Walls.outsideOf(check, 1, 3, Walls::filled, (x, v) -> x.byLap(v));
        Walls.outsideOf(check, 1, 3, Walls::empty, (x, v) -> x.byLap(v));
        Walls.outsideOf(check, 1, 3, Walls::impossible, (x, v) -> x.byLap(v));
    }
}
