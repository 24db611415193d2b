/** Each sentence of 'Terms' from the rules on that names a boundary case. */
public final class RulesBoundaryTest {
    private static final int NONE = Walls.NONE;

    public static void main(String[] args) {
        sentences().tryAll();
    }

    static Sentences sentences() {
        return new Sentences()
                .under("Terms")
                .says("1 each is within a SPAN", RulesBoundaryTest::rule1)
                .says("2 there is one at each PLACE where it MUST be, at none where none MAY be",
                        RulesBoundaryTest::rule2)
                .says("3 each PIECE has a PRICE", RulesBoundaryTest::rule3)
                .says("4 ENDS, if CELL 0, CELL WIDTH - 1 is not OPEN", RulesBoundaryTest::rule4)
                .says("5 of a COURSE that is not the lowest one: no PIECE has its first or its last CELL over an "
                        + "OPEN CELL of the COURSE below", RulesBoundaryTest::rule5)
                .says("6 each LINTEL has some CELL over an OPEN CELL of the COURSE below (none is right in the "
                        + "lowest one)", RulesBoundaryTest::rule6)
                .says("7 of one that is not the lowest: no JOINT is at a PLACE less than LAP away from that of a "
                        + "JOINT of the COURSE below", RulesBoundaryTest::rule7)
                .says("A WALL is RIGHT, if all COURSES are", RulesBoundaryTest::rightIfAllAre)
                .says("COST: PRICES of all PIECES together", RulesBoundaryTest::costOfAll)
                .says("BEST: of WALLS that are RIGHT the one of the least COST", RulesBoundaryTest::bestCostsLeast)
                .says("of several the first as a row of sets of JOINTS, from COURSE 0 on (the lesser number where "
                        + "they differ first)", RulesBoundaryTest::firstOfSeveral)
                .says("THE WALL LAID by hand: each COURSE with JOINTS (none at first)", RulesBoundaryTest::laidAtFirst)
                .says("CUT of it: of PIECES of LENGTHS 1 to 4 how few WHOLE bricks there must be, so that all can be "
                        + "cut from them (of one brick some PIECES, together 4 CELLS at most)",
                        RulesBoundaryTest::fewestWholeBricks);
    }

    /** The rule that is broken first if a course is laid so. */
    private static int ruleOf(BondedWall x, int c, int... joints) {
        x.lay(c, Walls.set(joints));
        return x.wrong(1);
    }

    private static void rule1(Check check) {
        BondedWall x = Walls.wall(8, 1);
        x.open(0, Walls.set(0));
        check.due("place 1 beside open cell 0", ruleOf(x, 0, 1), 1);
        check.due("the next one is within", ruleOf(x, 0, 4), NONE);
        check.due("one within, one not", ruleOf(x, 0, 1, 4), 1);
        x.open(0, Walls.set(7));
        check.due("place 7 beside open cell 7", ruleOf(x, 0, 4, 7), 1);
        check.due("the one before is within", ruleOf(x, 0, 4, 6), NONE);
        x.open(0, Walls.set(3, 4));
        check.due("left of an opening", ruleOf(x, 0, 3), 1);
        check.due("in it", ruleOf(x, 0, 4), 1);
        check.due("right of it", ruleOf(x, 0, 5), 1);
        check.due("one away on the left", ruleOf(x, 0, 2), NONE);
        check.due("one away on the right", ruleOf(x, 0, 6), NONE);
        check.due("rows by it: places 1, 2, 6, 7 alone", x.row(0, -1), 16);
        x.open(0, 255);
        check.due("all open, no joints", ruleOf(x, 0), NONE);
        for (int place = 1; place < 8; place++) {
            check.due("all open, a joint at " + place, ruleOf(x, 0, place), 1);
        }
        check.due("all open: no joints alone", x.row(0, -1), 1);
        check.due("all open: no joints", x.row(0, 0), 0);
    }

    private static void rule2(Check check) {
        for (int place : new int[] {1, 2, 3}) {
            BondedWall x = Walls.wall(4, 1);
            x.must(0, 1, 1 << place);
            check.due("one must be at " + place, x.row(0, -1), 4);
            check.due("it is there", ruleOf(x, 0, place), NONE);
            check.due("it is not", ruleOf(x, 0), 2);
            check.due("another is", ruleOf(x, 0, place % 3 + 1), 2);
            x.must(0, 0, 1 << place);
            check.due("none may be there either", x.row(0, -1), 0);
            check.due("it is there", ruleOf(x, 0, place), 2);
            check.due("it is not", ruleOf(x, 0), 2);
            x.must(0, 1, 0);
            check.due("none may be at " + place, x.row(0, -1), 4);
            check.due("it is there", ruleOf(x, 0, place), 2);
            check.due("it is not", ruleOf(x, 0), NONE);
        }
        BondedWall x = Walls.wall(4, 1);
        x.must(0, 1, 14);
        check.due("at all places", x.row(0, 0), 14);
        check.due("no other", x.row(0, -1), 1);
        check.due("all but the last", ruleOf(x, 0, 1, 2), 2);
        x.must(0, 1, 0);
        x.must(0, 0, 14);
        check.due("at no place", x.row(0, 0), 0);
        check.due("no other", x.row(0, -1), 1);
        x.open(0, 1);
        x.must(0, 1, 2);
        check.due("where it can not be within a span", x.row(0, -1), 0);
        check.due("it is not there", ruleOf(x, 0), 2);
        check.due("it is there", ruleOf(x, 0, 1), 1);
    }

    /** A piece of the length alone in a course: lintels over an opening. */
    private static BondedWall onePiece(int length) {
        BondedWall x = Walls.wall(length, 2);
        if (length > 4) {
            x.open(0, Walls.set(2));
            x.lay(0, length == 6 ? Walls.set(4) : 0);
        } else {
            x.take();
        }
        return x;
    }

    private static void rule3(Check check) {
        for (int length = 2; length <= 6; length++) {
            BondedWall x = onePiece(length);
            check.due("a piece of " + length + " with a price", x.wrong(1), NONE);
            x.price(length, 0);
            check.due("0 is a price", x.wrong(1), NONE);
            x.price(length, 99);
            check.due("99 is a price", x.wrong(1), NONE);
            x.price(length, NONE);
            check.due("without one", x.wrong(1), 3);
            check.due("in its course", x.wrong(0), length > 4 ? 1 : 0);
        }
        BondedWall x = Walls.wall(2, 1);
        x.lay(0, 2);
        check.due("pieces of 1", x.wrong(1), NONE);
        x.price(1, NONE);
        check.due("pieces of 1 without a price", x.wrong(1), 3);
        for (int n = 7; n <= 10; n++) {
            check.due("no price of " + n, Walls.wall(n, 1).wrong(1), 3);
        }
        BondedWall some = Walls.wall(6, 1);
        some.price(2, NONE);
        check.due("the first piece is without one", ruleOf(some, 0, 2), 3);
        check.due("the last piece is without one", ruleOf(some, 0, 4), 3);
        check.due("a middle one is without one", ruleOf(some, 0, 1, 3), 3);
        check.due("each has one", ruleOf(some, 0, 3), NONE);
    }

    private static void rule4(Check check) {
        for (int length = 1; length <= 4; length++) {
            BondedWall x = Walls.wall(5, 1);
            x.ends(0, 0, Walls.set(length));
            check.due("at cell 0 of " + length, ruleOf(x, 0, length), NONE);
            check.due("another", ruleOf(x, 0, length % 4 + 1), 4);
            x.ends(0, 0, 126);
            x.ends(0, 1, Walls.set(length));
            check.due("at cell 4 of " + length, ruleOf(x, 0, 5 - length), NONE);
            check.due("another", ruleOf(x, 0, length % 4 + 1), length % 4 + 1 == 5 - length ? NONE : 4);
        }
        endsOfLintels(check);
        BondedWall x = Walls.wall(5, 1);
        x.ends(0, 0, 0);
        check.due("no length at cell 0", x.row(0, -1), 0);
        x.open(0, Walls.set(0));
        check.due("cell 0 is open", x.row(0, -1), 8);
        check.due("cell 0 is open, as laid", ruleOf(x, 0), NONE);
        x.ends(0, 1, 0);
        check.due("no length at cell 4", x.row(0, -1), 0);
        check.due("as laid", ruleOf(x, 0), 4);
        x.open(0, Walls.set(4));
        check.due("cell 4 is open, cell 0 is not", ruleOf(x, 0), 4);
        x.open(0, Walls.set(0, 4));
        check.due("both are open", x.row(0, -1), 4);
        check.due("both are open, as laid", ruleOf(x, 0), NONE);
        x.open(0, Walls.set(1, 3));
        check.due("open beside the ends", ruleOf(x, 0), 4);
    }

    /** Over cells 2 and 3 open of 6: lintels of 6, of 5 and 1, of 1 and 5, or 1, 4 and 1. */
    private static void endsOfLintels(Check check) {
        int[] leftOf = {0, 2, 0, 0, 0, 1, 1};
        for (int length = 1; length <= 6; length++) {
            for (int side = 0; side <= 1; side++) {
                BondedWall x = Walls.wall(6, 2);
                x.open(0, Walls.set(2, 3));
                x.ends(1, side, Walls.set(length));
                check.due("of 6, side " + side + " of " + length, x.row(1, -1), leftOf[length]);
            }
        }
    }

    private static void rule5(Check check) {
        BondedWall x = Walls.wall(8, 3);
        x.open(0, Walls.set(3));
        x.lay(2, Walls.set(3, 7));
        check.due("the first cell over it", ruleOf(x, 1, 3), 5);
        check.due("the last cell over it", ruleOf(x, 1, 4), 5);
        check.due("the only cell over it", ruleOf(x, 1, 3, 4), 5);
        check.due("its second cell over it", ruleOf(x, 1, 2, 6), NONE);
        check.due("its last cell but one over it", ruleOf(x, 1, 1, 5), NONE);
        check.due("two courses over it", ruleOf(x, 2, 3, 7), NONE);
        BondedWall ends = Walls.wall(4, 2);
        ends.open(0, Walls.set(0));
        check.due("cell 0 over it", ends.wrong(1), 5);
        ends.open(0, Walls.set(3));
        check.due("the last cell over it", ends.wrong(1), 5);
        ends.open(1, Walls.set(3));
        check.due("open over open", ends.wrong(0), NONE);
        ends.open(0, 15);
        check.due("all of it over openings", ends.wrong(1), 5);
        ends.open(1, 15);
        check.due("nothing over it", ends.wrong(0), NONE);
        ends.open(0, 0);
        check.due("nothing over bricks", ends.wrong(0), NONE);
        ends.open(1, Walls.set(0, 3));
        check.due("below its own openings nothing is asked", ends.wrong(0), NONE);
    }

    private static void rule6(Check check) {
        BondedWall x = Walls.wall(8, 2);
        x.open(0, Walls.set(5));
        x.open(1, Walls.set(5));
        x.lay(0, Walls.set(1));
        check.due("the opening lies just right of the lintel", x.wrong(1), 6);
        x.lay(0, 0);
        x.open(0, Walls.set(3, 5));
        check.due("below its last cell but one", x.wrong(0), NONE);
        x.open(0, Walls.set(1, 5));
        check.due("below its second cell", x.wrong(0), NONE);
        BondedWall left = Walls.wall(8, 2);
        left.open(0, Walls.set(2));
        left.open(1, Walls.set(2));
        left.lay(0, Walls.set(4));
        check.due("the opening lies just left of the lintel", left.wrong(1), 6);
        left.lay(0, 0);
        left.open(0, Walls.set(2, 4));
        check.due("below its second cell", left.wrong(0), NONE);
        left.open(0, Walls.set(2, 6));
        check.due("below its last cell but one", left.wrong(0), NONE);
        for (int n = 5; n <= 6; n++) {
            BondedWall lowest = Walls.wall(n, 1);
            check.due("the lowest, " + n, lowest.wrong(1), 6);
            check.holds("a row without joints of " + n, lowest.row(0, 0) != 0);
        }
        BondedWall high = Walls.wall(6, 3);
        high.open(0, Walls.set(2, 3));
        check.due("a lintel in course 1", high.row(1, 0), 0);
        check.holds("none in course 2", high.row(2, 0) != 0);
        BondedWall two = Walls.wall(10, 2);
        two.open(0, Walls.set(2));
        two.lay(0, Walls.set(6));
        check.due("one of two lintels lies over none", ruleOf(two, 1, 5), 6);
    }

    private static void rule7(Check check) {
        for (int below = 1; below <= 4; below++) {
            for (int above = 1; above <= 4; above++) {
                for (int lap = 1; lap <= 3; lap++) {
                    BondedWall x = Walls.wall(5, 2);
                    x.lap(lap);
                    boolean right = Math.abs(below - above) >= lap;
                    x.lay(0, 1 << below);
                    String which = above + " over " + below + ", lap " + lap;
                    check.due(which, ruleOf(x, 1, above), right ? NONE : 7);
                    only(x, 0, below);
                    only(x, 1, above);
                    check.due(which + ", walls", x.walls(), right ? 1 : 0);
                    check.holds(which + ", best", x.best() != NONE == right);
                }
            }
        }
        BondedWall x = Walls.wall(5, 3);
        x.lay(0, Walls.set(1));
        x.lay(1, Walls.set(4));
        x.lap(3);
        check.due("two courses over it", ruleOf(x, 2, 1), NONE);
        only(x, 0, 1);
        only(x, 1, 4);
        only(x, 2, 1);
        check.due("two courses over it can be", x.walls(), 1);
        BondedWall lowest = Walls.wall(2, 1);
        check.due("the lowest", ruleOf(lowest, 0, 1), NONE);
        nothingBelowTheLowest(check);
        BondedWall all = Walls.wall(4, 2);
        all.lay(0, 14);
        check.due("no joints over all places", ruleOf(all, 1), NONE);
        check.due("one of several", ruleOf(all, 1, 3), 7);
    }

    /** What lay in courses that are no more never comes to lie below the lowest one. */
    private static void nothingBelowTheLowest(Check check) {
        BondedWall x = Walls.wall(8, 2);
        x.layBest();
        x.take();
        x.layBest();
        x.lap(3);
        for (int place = 1; place < 8; place++) {
            check.holds("a joint at " + place + " of the only course", ruleOf(x, 0, place) != 7);
        }
        check.due("a right one", ruleOf(x, 0, 2, 6), NONE);
    }

    /** The course can have a joint at that place and at no other. */
    private static void only(BondedWall x, int c, int place) {
        x.must(c, 1, 1 << place);
        x.must(c, 0, (1 << x.many(1)) - 2 & ~(1 << place));
    }

    private static void rightIfAllAre(Check check) {
        for (int c = 0; c < 8; c++) {
            BondedWall x = Walls.wall(4, 8);
            check.due("all are right", x.wrong(0), NONE);
            check.holds("walls there are", x.walls() > 0);
            x.must(c, 1, 2);
            check.due("all but course " + c, x.wrong(0), c);
            x.must(c, 0, 2);
            check.due("course " + c + " can not be", x.walls(), 0);
            check.due("no best one", x.best(), NONE);
        }
        check.due("no courses: all are", Walls.wall(4, 0).wrong(0), NONE);
        check.due("no courses: one wall", Walls.wall(4, 0).walls(), 1);
    }

    private static void costOfAll(Check check) {
        check.due("no pieces", Walls.wall(10, 0).best(), 0);
        BondedWall x = Walls.wall(10, 8);
        for (int c = 0; c < 8; c++) {
            x.open(c, 0b0101010101);
        }
        check.due("40 pieces of 1", x.best(), 120);
        x.price(1, 99);
        check.due("the dearest", x.best(), 40 * 99);
        check.due("as laid", x.cost(), 40 * 99);
        x.price(1, 0);
        check.due("for nothing", x.best(), 0);
        for (int c = 0; c < 8; c++) {
            x.open(c, 1023);
        }
        check.due("all open", x.best(), 0);
        BondedWall each = bridge();
        check.due("1 and 1, then a lintel of 6", each.best(), 12);
        check.due("as laid", each.cost(), 12);
    }

    private static BondedWall bridge() {
        BondedWall x = Walls.wall(6, 2);
        x.open(0, Walls.set(1, 2, 3, 4));
        return x;
    }

    private static void bestCostsLeast(Check check) {
        BondedWall x = Walls.wall(4, 1);
        x.price(4, 4);
        check.due("2 and 2 cost as much as a whole one: the lesser number", x.bestRow(0), 0);
        x.price(4, 5);
        check.due("one less", x.bestRow(0), Walls.set(2));
        check.due("its cost", x.best(), 4);
        x.price(4, NONE);
        x.must(0, 0, Walls.set(2));
        check.due("1 and 3", x.bestRow(0), Walls.set(1));
        check.due("its cost", x.best(), 5);
        BondedWall together = Walls.wall(4, 2);
        together.price(4, NONE);
        together.must(1, 1, Walls.set(2));
        check.due("not the cheapest of course 0", together.bestRow(0), Walls.set(1));
        check.due("the cheapest of both together", together.best(), 9);
        BondedWall onlyDear = Walls.wall(10, 1);
        onlyDear.must(0, 1, 1022);
        onlyDear.price(1, 99);
        check.due("the only one, however dear", onlyDear.best(), 990);
    }

    private static void firstOfSeveral(Check check) {
        BondedWall x = Walls.wall(3, 3);
        x.price(3, NONE);
        x.price(1, 1);
        x.price(2, 1);
        check.due("the lesser in course 0", x.bestRow(0), Walls.set(1));
        check.due("so the greater in course 1", x.bestRow(1), Walls.set(2));
        check.due("and the lesser in course 2", x.bestRow(2), Walls.set(1));
        check.due("cost", x.best(), 6);
        BondedWall later = Walls.wall(4, 2);
        later.price(4, NONE);
        later.must(0, 1, Walls.set(2));
        check.due("no other in course 0", later.bestRow(0), Walls.set(2));
        check.due("they differ first in course 1", later.bestRow(1), Walls.set(1));
        BondedWall dearer = Walls.wall(4, 2);
        dearer.price(4, NONE);
        dearer.price(2, 1);
        check.due("the lesser, though it costs more than its other", dearer.bestRow(0), Walls.set(1));
        check.due("as the whole costs the same", dearer.bestRow(1), Walls.set(2));
        check.due("cost", dearer.best(), 7);
        BondedWall nothing = Walls.wall(10, 1);
        for (int length = 1; length <= 4; length++) {
            nothing.price(length, 0);
        }
        check.due("all cost nothing: the least number", nothing.bestRow(0), Walls.set(2, 6));
    }

    private static void laidAtFirst(Check check) {
        BondedWall x = Walls.wall(8, 8);
        for (int c = 0; c < 8; c++) {
            check.due("at first, course " + c, x.ofCourse(c, 4), 0);
        }
        check.due("no joints", x.many(5), 0);
        x.layBest();
        check.holds("joints", x.ofCourse(7, 4) != 0);
        x.take();
        x.course();
        check.due("at first again", x.ofCourse(7, 4), 0);
        check.due("the next one below stays as it is laid", x.ofCourse(6, 4), Walls.set(4));
        x.width(8);
        x.course();
        check.due("at first in a new wall", x.ofCourse(0, 4), 0);
    }

    private static int cutOf(int width, int courses, int... joints) {
        BondedWall x = Walls.wall(width, courses);
        for (int c = 0; c < courses; c++) {
            x.lay(c, Walls.set(joints));
        }
        return x.cut();
    }

    private static void fewestWholeBricks(Check check) {
        check.due("no pieces", cutOf(10, 0), 0);
        check.due("one of 2", cutOf(2, 1), 1);
        check.due("one of 3", cutOf(3, 1), 1);
        check.due("one of 4", cutOf(4, 1), 1);
        check.due("one of 5", cutOf(5, 1), 0);
        check.due("one of 10", cutOf(10, 1), 0);
        check.due("four of 1: 4 cells", cutOf(4, 1, 1, 2, 3), 1);
        check.due("five of 1: 5 cells", cutOf(5, 1, 1, 2, 3, 4), 2);
        check.due("3 and 1: 4 cells", cutOf(4, 1, 3), 1);
        check.due("3 and 2: 5 cells", cutOf(5, 1, 3), 2);
        check.due("3, 1 and 1: 5 cells", cutOf(5, 1, 3, 4), 2);
        check.due("2 and 2: 4 cells", cutOf(4, 1, 2), 1);
        check.due("2, 2 and 1: 5 cells", cutOf(5, 1, 2, 4), 2);
        check.due("2, 1 and 1: 4 cells", cutOf(4, 1, 2, 3), 1);
        check.due("2, 1, 1 and 1: 5 cells", cutOf(5, 1, 2, 3, 4), 2);
        check.due("three of 2: 6 cells", cutOf(6, 1, 2, 4), 2);
        check.due("three of 2, two of 1: 8 cells", cutOf(8, 1, 2, 4, 6, 7), 2);
        check.due("three of 2, three of 1: 9 cells", cutOf(9, 1, 2, 4, 6, 7, 8), 3);
        check.due("two of 3 do not share a brick", cutOf(6, 1, 3), 2);
        check.due("two of 3, two of 1", cutOf(8, 1, 3, 6, 7), 2);
        check.due("3, 2, 1, 1, 1: the 2 has room for two", cutOf(8, 1, 3, 5, 6, 7), 2);
        check.due("4 and 6", cutOf(10, 1, 4), 1);
        check.due("80 of 1", cutOf(10, 8, 1, 2, 3, 4, 5, 6, 7, 8, 9), 20);
        check.due("40 of 2", cutOf(10, 8, 2, 4, 6, 8), 20);
        check.due("24 of 3, 8 of 1", cutOf(10, 8, 3, 6, 9), 24);
        check.due("16 of 4, 8 of 2", cutOf(10, 8, 4, 8), 20);
        check.due("8 of 3, over all courses", cutOf(3, 8), 8);
        BondedWall x = Walls.wall(4, 2);
        x.open(0, Walls.set(3));
        x.open(1, Walls.set(0, 1, 2));
        check.due("3 of one course, 1 of another", x.cut(), 1);
        x.open(0, 15);
        x.open(1, 15);
        check.due("nothing but openings", x.cut(), 0);
    }
}
