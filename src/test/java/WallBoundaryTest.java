/** Each sentence of the promises 1 to 10 that names a boundary case. */
public final class WallBoundaryTest {
    private static final int UNKNOWN = Walls.UNKNOWN, OUTSIDE = Walls.OUTSIDE, STATE = Walls.STATE;
    private static final int FULL = Walls.FULL, NONE = Walls.NONE;

    public static void main(String[] args) {
        sentences().tryAll();
    }

    static Sentences sentences() {
        return new Sentences()
                .under("Promise 1: A new object")
                .says("No COURSES", WallBoundaryTest::p1noCourses)
                .under("Promise 2: width")
                .says("A new WALL of a WIDTH without COURSES", WallBoundaryTest::p2withoutCourses)
                .says("(PRICES, LAP, ENDS stay)", WallBoundaryTest::p2theRestStays)
                .says("1", WallBoundaryTest::p2answers1)
                .says("OUTSIDE", check -> Walls.outsideOf(check, 2, 10, Walls::filled, (x, n) -> x.width(n)))
                .under("Promise 3: course")
                .says("A COURSE comes on top: its number", WallBoundaryTest::p3onTop)
                .says("FULL", WallBoundaryTest::p3full)
                .under("Promise 4: take")
                .says("The highest COURSE is no more: how many are left", WallBoundaryTest::p4highestIsNoMore)
                .says("STATE: there is none", WallBoundaryTest::p4none)
                .under("Promise 5: open")
                .says("OPEN CELLS of a COURSE become a set: what they were", WallBoundaryTest::p5becomeASet)
                .says("UNKNOWN", WallBoundaryTest::p5unknown)
                .says("OUTSIDE", WallBoundaryTest::p5outside)
                .under("Promise 6: must")
                .says("PLACES where a JOINT of a COURSE MUST be (how 1), where none MAY be (0) become a set: "
                        + "what they were", WallBoundaryTest::p6becomeASet)
                .says("UNKNOWN", WallBoundaryTest::p6unknown)
                .says("OUTSIDE: how, the set (PLACES alone)", WallBoundaryTest::p6outside)
                .under("Promise 7: price")
                .says("PRICE of a LENGTH becomes v: what it was", WallBoundaryTest::p7becomes)
                .says("OUTSIDE", WallBoundaryTest::p7outside)
                .under("Promise 8: lap")
                .says("LAP becomes v: what it was", WallBoundaryTest::p8becomes)
                .says("OUTSIDE", check -> Walls.outsideOf(check, 1, 3, Walls::filled, (x, v) -> x.lap(v)))
                .under("Promise 9: ends")
                .says("ENDS of even (0), odd (1) COURSES at CELL 0 (side 0), at the other end (1) become a set: "
                        + "what they were", WallBoundaryTest::p9becomeASet)
                .says("OUTSIDE: also a set with others than LENGTHS", WallBoundaryTest::p9outside)
                .under("Promise 10: ofCourse")
                .says("Of a COURSE: 0 OPEN CELLS", WallBoundaryTest::p10openCells)
                .says("1 where a JOINT MUST be", check -> p10places(check, 1, 1))
                .says("2 where none MAY be", check -> p10places(check, 0, 2))
                .says("3 how many SPANS", WallBoundaryTest::p10spans)
                .says("4 JOINTS as they are LAID", WallBoundaryTest::p10laid)
                .says("UNKNOWN", WallBoundaryTest::p10unknown)
                .says("OUTSIDE", check -> Walls.outsideOf(check, 0, 4, Walls::ordinary, (x, what) -> x.ofCourse(2, what)));
    }

    private static void p1noCourses(Check check) {
        BondedWall x = new BondedWall();
        check.due("courses", x.many(0), 0);
        check.due("course 0", x.ofCourse(0, 0), UNKNOWN);
        check.due("none to take", x.take(), STATE);
        check.due("width", x.many(1), 8);
        check.due("lap", x.many(2), 1);
        check.due("open cells, pieces, joints", x.many(3) + x.many(4) + x.many(5), 0);
        check.due("walls", x.walls(), 1);
        check.due("best", x.best(), 0);
        check.due("highest", x.highest(), 0);
        check.due("wrong course", x.wrong(0), NONE);
        check.due("wrong rule", x.wrong(1), NONE);
        check.due("cost", x.cost(), 0);
        check.due("cut", x.cut(), 0);
        check.due("layBest", x.layBest(), 0);
        check.due("the first one to come", x.course(), 0);
        BondedWall other = new BondedWall();
        check.due("objects share nothing", other.many(0), 0);
        x.price(1, 50);
        x.lap(3);
        x.ends(0, 0, 2);
        check.due("nor prices", other.price(1, 3), 3);
        check.due("nor lap", other.lap(1), 1);
        check.due("nor ends", other.ends(0, 0, 126), 126);
        check.due("nor do later ones", new BondedWall().price(1, 3), 3);
        check.due("nor do later ones", new BondedWall().ends(0, 0, 2), 126);
    }

    private static void p2withoutCourses(Check check) {
        for (int n : new int[] {2, 7, 10}) {
            BondedWall x = Walls.filled();
            x.width(n);
            check.due("courses", x.many(0), 0);
            check.due("width", x.many(1), n);
            check.due("course 0", x.ofCourse(0, 0), UNKNOWN);
            check.due("open cells, pieces, joints", x.many(3) + x.many(4) + x.many(5), 0);
            check.due("walls", x.walls(), 1);
            for (int c = 0; c < 8; c++) {
                check.due("course", x.course(), c);
                for (int what = 0; what <= 4; what++) {
                    check.due("it comes new, " + what, x.ofCourse(c, what), what == 3 ? 1 : 0);
                }
                check.due("and as wide as the wall", x.piece(c, n - 1), n);
            }
        }
    }

    private static void p2theRestStays(Check check) {
        for (int n : new int[] {2, 8, 10}) {
            BondedWall x = Walls.wall(8, 2);
            for (int length = 1; length <= 6; length++) {
                x.price(length, length == 6 ? NONE : 90 + length);
            }
            for (int end = 0; end < 4; end++) {
                x.ends(end / 2, end % 2, 2 << end);
            }
            x.lap(3);
            x.width(n);
            check.due("lap", x.many(2), 3);
            for (int length = 1; length <= 6; length++) {
                check.due("price " + length, x.price(length, 0), length == 6 ? NONE : 90 + length);
            }
            for (int end = 0; end < 4; end++) {
                check.due("ends " + end, x.ends(end / 2, end % 2, 0), 2 << end);
            }
        }
    }

    private static void p2answers1(Check check) {
        BondedWall x = new BondedWall();
        check.due("the least", x.width(2), 1);
        check.due("the greatest", x.width(10), 1);
        check.due("the same again", x.width(10), 1);
        check.due("of a full wall", Walls.filled().width(5), 1);
    }

    private static void p3onTop(Check check) {
        BondedWall x = Walls.wall(5, 0);
        check.due("the lowest", x.course(), 0);
        x.open(0, 4);
        check.due("over it", x.course(), 1);
        check.due("the lower one stays", x.ofCourse(0, 0), 4);
        check.due("a lintel over the opening", x.row(1, 0), 0);
        x.take();
        x.take();
        check.due("the lowest again", x.course(), 0);
        for (int c = 1; c < 8; c++) {
            check.due("up to the highest", x.course(), c);
        }
    }

    private static void p3full(Check check) {
        Walls.refused(check, "the ninth", Walls::filled, x -> x.course(), FULL);
        BondedWall x = Walls.filled();
        x.course();
        check.due("a tenth", x.course(), FULL);
        x.take();
        check.due("room for one", x.course(), 7);
        check.due("and no more", x.course(), FULL);
        x.width(7);
        check.due("room again in a new wall", x.course(), 0);
    }

    private static void p4highestIsNoMore(Check check) {
        BondedWall x = Walls.wall(6, 8);
        for (int c = 0; c < 8; c++) {
            x.open(c, 1 << c % 6);
        }
        for (int left = 7; left >= 0; left--) {
            check.due("left", x.take(), left);
            check.due("so many", x.many(0), left);
            check.due("it is no more", x.ofCourse(left, 0), UNKNOWN);
            check.due("its openings are no more", x.many(3), left);
            check.due("the next one stays", x.ofCourse(left - 1, 0), left == 0 ? UNKNOWN : 1 << (left - 1) % 6);
        }
        BondedWall hindered = Walls.impossible();
        check.due("it hindered all", hindered.walls(), 0);
        hindered.take();
        check.holds("without it", hindered.walls() > 0);
    }

    private static void p4none(Check check) {
        Walls.refused(check, "a wall without courses", Walls::empty, x -> x.take(), STATE);
        check.due("a new object", new BondedWall().take(), STATE);
        BondedWall x = Walls.wall(8, 1);
        check.due("the last one", x.take(), 0);
        check.due("none is left", x.take(), STATE);
        check.due("none is left still", x.take(), STATE);
        check.due("one comes", x.course(), 0);
        check.due("it can be taken", x.take(), 0);
    }

    private static void p5becomeASet(Check check) {
        BondedWall x = Walls.wall(10, 8);
        for (int c : new int[] {0, 7}) {
            check.due("none at first", x.open(c, 1), 0);
            check.due("cell 0", x.open(c, 512), 1);
            check.due("cell 9", x.open(c, 1023), 512);
            check.due("all", x.open(c, 1023), 1023);
            check.due("all still", x.open(c, 0), 1023);
            check.due("none", x.open(c, 0b0000110000), 0);
            check.due("it is so", x.ofCourse(c, 0), 0b0000110000);
        }
        check.due("those between stay", x.many(3), 4);
    }

    private static void p5unknown(Check check) {
        Walls.unknownBeside(check, (x, c) -> x.open(c, 1));
        Walls.unknownFirst(check, "no set of cells", (x, c) -> x.open(c, 128));
    }

    private static void p5outside(Check check) {
        for (int n : new int[] {2, 7, 10}) {
            Walls.outsideOfSet(check, (1 << n) - 1, () -> Walls.wall(n, 2), (x, set) -> x.open(1, set));
        }
    }

    private static void p6becomeASet(Check check) {
        for (int how = 0; how <= 1; how++) {
            BondedWall x = Walls.wall(10, 8);
            for (int c : new int[] {0, 7}) {
                check.due("none at first", x.must(c, how, 2), 0);
                check.due("place 1", x.must(c, how, 512), 2);
                check.due("place 9", x.must(c, how, 1022), 512);
                check.due("all", x.must(c, how, 1022), 1022);
                check.due("all still", x.must(c, how, 0), 1022);
                check.due("none", x.must(c, how, 64), 0);
                check.due("of the other kind none", x.must(c, 1 - how, 0), 0);
                check.due("it is so", x.ofCourse(c, how == 1 ? 1 : 2), 64);
            }
            check.due("others stay", x.ofCourse(1, 1) + x.ofCourse(1, 2) + x.ofCourse(6, 1) + x.ofCourse(6, 2), 0);
        }
        BondedWall x = Walls.wall(10, 1);
        x.open(0, 1023);
        check.due("beside open cells too", x.must(0, 1, 1022), 0);
        check.due("the same places of both kinds", x.must(0, 0, 1022), 0);
        check.due("must is as it was", x.ofCourse(0, 1), 1022);
    }

    private static void p6unknown(Check check) {
        Walls.unknownBeside(check, (x, c) -> x.must(c, 1, 2));
        Walls.unknownBeside(check, (x, c) -> x.must(c, 0, 2));
        Walls.unknownFirst(check, "no set of places", (x, c) -> x.must(c, 1, 1));
        Walls.unknownFirst(check, "how 2", (x, c) -> x.must(c, 2, 2));
    }

    private static void p6outside(Check check) {
        Walls.outsideOf(check, 0, 1, Walls::ordinary, (x, how) -> x.must(2, how, 2));
        Walls.refused(check, "how and the set", Walls::ordinary, x -> x.must(2, 2, 1), OUTSIDE);
        for (int n : new int[] {2, 7, 10}) {
            for (int how = 0; how <= 1; how++) {
                int kind = how;
                Walls.outsideOfSet(check, (1 << n) - 2, () -> Walls.wall(n, 2), (x, set) -> x.must(1, kind, set));
            }
        }
    }

    private static void p7becomes(Check check) {
        for (int length = 1; length <= 6; length++) {
            BondedWall x = new BondedWall();
            x.price(length, 0);
            check.due("0", x.price(length, 99), 0);
            check.due("99", x.price(length, 99), 99);
            check.due("99 still", x.price(length, NONE), 99);
            check.due("none", x.price(length, NONE), NONE);
            check.due("none still", x.price(length, 0), NONE);
            int[] others = {3, 2, 2, 0, 5, 6};
            for (int other = 1; other <= 6; other++) {
                check.due("others stay, " + other, x.price(other, 1), other == length ? 0 : others[other - 1]);
            }
        }
    }

    private static void p7outside(Check check) {
        Walls.outsideOf(check, 1, 6, Walls::ordinary, (x, length) -> x.price(length, 1));
        Walls.outsideOf(check, 1, 6, Walls::ordinary, (x, length) -> x.price(length, NONE));
        for (int length : new int[] {1, 6}) {
            for (int v : new int[] {-1, 100, -8, -10, -2, Walls.LEAST, Walls.MOST}) {
                Walls.refused(check, "price " + v + " of " + length, Walls::ordinary, x -> x.price(length, v), OUTSIDE);
            }
        }
        Walls.refused(check, "both", Walls::ordinary, x -> x.price(7, 100), OUTSIDE);
    }

    private static void p8becomes(Check check) {
        BondedWall x = Walls.wall(4, 2);
        check.due("1 at first", x.lap(3), 1);
        check.due("walls by it", x.walls(), 15);
        check.due("3", x.lap(3), 3);
        check.due("3 still", x.lap(2), 3);
        check.due("walls by it", x.walls(), 17);
        check.due("2", x.lap(1), 2);
        check.due("walls by it", x.walls(), 27);
        check.due("1", x.many(2), 1);
    }

    private static void p9becomeASet(Check check) {
        for (int end = 0; end < 4; end++) {
            BondedWall x = new BondedWall();
            check.due("all at first", x.ends(end / 2, end % 2, 2), 126);
            check.due("length 1", x.ends(end / 2, end % 2, 64), 2);
            check.due("length 6", x.ends(end / 2, end % 2, 0), 64);
            check.due("none", x.ends(end / 2, end % 2, 126), 0);
            check.due("all", x.ends(end / 2, end % 2, 8), 126);
            for (int other = 0; other < 4; other++) {
                check.due("end " + other, x.ends(other / 2, other % 2, 0), other == end ? 8 : 126);
            }
        }
        BondedWall x = Walls.wall(4, 2);
        x.ends(0, 0, 2);
        x.ends(0, 1, 4);
        x.ends(1, 0, 8);
        x.ends(1, 1, 2);
        check.due("even: 1 at cell 0, 2 at the other end", x.row(0, 0), Walls.set(1, 2));
        check.due("alone", x.row(0, -1), 1);
        check.due("odd: 3 at cell 0, 1 at the other end", x.row(1, 0), Walls.set(3));
        check.due("alone", x.row(1, -1), 1);
    }

    private static void p9outside(Check check) {
        for (int end = 0; end < 4; end++) {
            int odd = end / 2;
            int side = end % 2;
            Walls.outsideOfSet(check, Walls.ALL_LENGTHS, Walls::filled, (x, set) -> x.ends(odd, side, set));
        }
        for (int number = 0; number <= 1; number++) {
            int right = number;
            Walls.outsideOf(check, 0, 1, Walls::ordinary, (x, odd) -> x.ends(odd, right, 2));
            Walls.outsideOf(check, 0, 1, Walls::ordinary, (x, side) -> x.ends(right, side, 2));
        }
        Walls.refused(check, "all three", Walls::ordinary, x -> x.ends(2, 2, 1), OUTSIDE);
    }

    private static void p10openCells(Check check) {
        BondedWall x = Walls.wall(10, 8);
        for (int c = 0; c < 8; c++) {
            check.due("none at first", x.ofCourse(c, 0), 0);
            x.open(c, 1 << c | 512);
        }
        for (int c = 0; c < 8; c++) {
            check.due("as they are", x.ofCourse(c, 0), 1 << c | 512);
        }
        x.open(7, 1023);
        check.due("all", x.ofCourse(7, 0), 1023);
    }

    private static void p10places(Check check, int how, int what) {
        BondedWall x = Walls.wall(10, 8);
        for (int c = 0; c < 8; c++) {
            check.due("none at first", x.ofCourse(c, what), 0);
            x.must(c, how, 2 << c | 512);
            x.must(c, 1 - how, 8);
        }
        for (int c = 0; c < 8; c++) {
            check.due("as they are", x.ofCourse(c, what), 2 << c | 512);
        }
        x.must(7, how, 1022);
        x.open(7, 1023);
        check.due("all, whatever is open", x.ofCourse(7, what), 1022);
    }

    private static void p10spans(Check check) {
        BondedWall x = Walls.wall(10, 8);
        check.due("one", x.ofCourse(7, 3), 1);
        x.lay(7, 1022);
        check.due("joints make no more", x.ofCourse(7, 3), 1);
        x.open(7, 1023);
        check.due("none", x.ofCourse(7, 3), 0);
        x.open(7, 0b0101010101);
        check.due("as many as can be, one at cell 9", x.ofCourse(7, 3), 5);
        x.open(7, 0b1010101010);
        check.due("as many as can be, one at cell 0", x.ofCourse(7, 3), 5);
        check.due("another course", x.ofCourse(0, 3), 1);
        BondedWall narrow = Walls.wall(2, 1);
        narrow.open(0, 1);
        check.due("one cell", narrow.ofCourse(0, 3), 1);
        narrow.open(0, 3);
        check.due("no cell", narrow.ofCourse(0, 3), 0);
    }

    private static void p10laid(Check check) {
        BondedWall x = Walls.wall(10, 8);
        for (int c = 0; c < 8; c++) {
            check.due("none at first", x.ofCourse(c, 4), 0);
            x.lay(c, 2 << c);
        }
        for (int c = 0; c < 8; c++) {
            check.due("as they are", x.ofCourse(c, 4), 2 << c);
        }
        x.lay(7, 1022);
        x.open(7, 1023);
        check.due("all, though none is within a span", x.ofCourse(7, 4), 1022);
        x.lay(7, 0);
        check.due("none", x.ofCourse(7, 4), 0);
    }

    private static void p10unknown(Check check) {
        for (int what = 0; what <= 4; what++) {
            int asked = what;
            Walls.unknownBeside(check, (x, c) -> x.ofCourse(c, asked));
        }
        Walls.unknownFirst(check, "what -1", (x, c) -> x.ofCourse(c, -1));
        Walls.unknownFirst(check, "what 5", (x, c) -> x.ofCourse(c, 5));
    }
}
