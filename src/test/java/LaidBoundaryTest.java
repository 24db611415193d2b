/** Each sentence of the promises 18 to 25 that names a boundary case. */
public final class LaidBoundaryTest {
    private static final int STATE = Walls.STATE, NONE = Walls.NONE;

    public static void main(String[] args) {
        sentences().tryAll();
    }

    static Sentences sentences() {
        return new Sentences()
                .under("Promise 18: lay")
                .says("JOINTS of a COURSE are LAID: what they were", LaidBoundaryTest::p18areLaid)
                .says("UNKNOWN", LaidBoundaryTest::p18unknown)
                .says("OUTSIDE: the set (PLACES alone)", LaidBoundaryTest::p18outside)
                .under("Promise 19: layBest")
                .says("THE WALL is LAID as BEST: its COST", LaidBoundaryTest::p19asBest)
                .says("STATE: no WALL is RIGHT", LaidBoundaryTest::p19state)
                .under("Promise 20: wrong")
                .says("The first COURSE that is not right as it is LAID (what 0)", LaidBoundaryTest::p20course)
                .says("the first RULE that is broken there (1)", LaidBoundaryTest::p20rule)
                .says("NONE: it is RIGHT", LaidBoundaryTest::p20none)
                .says("OUTSIDE", LaidBoundaryTest::p20outside)
                .under("Promise 21: cost")
                .says("COST of THE WALL, PIECES without a PRICE as 100 each", LaidBoundaryTest::p21without)
                .says("(JOINTS not within a SPAN part nothing.)", LaidBoundaryTest::p21partNothing)
                .under("Promise 22: pieces")
                .says("How many PIECES of a LENGTH (1 .. 10) THE WALL has", LaidBoundaryTest::p22howMany)
                .says("OUTSIDE", LaidBoundaryTest::p22outside)
                .under("Promise 23: piece")
                .says("LENGTH of the PIECE that has a CELL", LaidBoundaryTest::p23length)
                .says("NONE: the CELL is OPEN", LaidBoundaryTest::p23open)
                .says("UNKNOWN", LaidBoundaryTest::p23unknown)
                .says("OUTSIDE", LaidBoundaryTest::p23outside)
                .under("Promise 24: cut")
                .says("CUT of THE WALL", LaidBoundaryTest::p24cut)
                .under("Promise 25: many")
                .says("How many: 0 COURSES", LaidBoundaryTest::p25courses)
                .says("1 WIDTH", LaidBoundaryTest::p25width)
                .says("2 LAP", LaidBoundaryTest::p25lap)
                .says("3 OPEN CELLS", LaidBoundaryTest::p25openCells)
                .says("4 PIECES of THE WALL", LaidBoundaryTest::p25pieces)
                .says("5 JOINTS that are LAID", LaidBoundaryTest::p25joints)
                .says("OUTSIDE", LaidBoundaryTest::p25outside);
    }

    /** All courses with one set of open cells and of joints. */
    private static BondedWall alike(int width, int courses, int open, int joints) {
        BondedWall x = Walls.wall(width, courses);
        for (int c = 0; c < courses; c++) {
            x.open(c, open);
            x.lay(c, joints);
        }
        return x;
    }

    private static void p18areLaid(Check check) {
        BondedWall x = Walls.wall(10, 8);
        for (int c : new int[] {0, 7}) {
            check.due("none at first", x.lay(c, 2), 0);
            check.due("place 1", x.lay(c, 512), 2);
            check.due("place 9", x.lay(c, 1022), 512);
            check.due("all", x.lay(c, 1022), 1022);
            check.due("all still", x.lay(c, 0), 1022);
            check.due("none", x.lay(c, 16), 0);
        }
        check.due("others stay", x.many(5), 2);
        x.open(0, 1023);
        check.due("opening takes none away", x.lay(0, 1022), 16);
        check.due("places that are not within a span", x.lay(0, 0), 1022);
        x.must(0, 0, 1022);
        check.due("places where none may be", x.lay(0, 1022), 0);
        check.due("as laid", x.ofCourse(0, 4), 1022);
    }

    private static void p18unknown(Check check) {
        Walls.unknownBeside(check, (x, c) -> x.lay(c, 2));
        Walls.unknownFirst(check, "place 0", (x, c) -> x.lay(c, 1));
        Walls.unknownFirst(check, "place WIDTH", (x, c) -> x.lay(c, 128));
    }

    private static void p18outside(Check check) {
        for (int n : new int[] {2, 7, 10}) {
            Walls.outsideOfSet(check, (1 << n) - 2, () -> Walls.wall(n, 2), (x, set) -> x.lay(1, set));
        }
    }

    private static void p19asBest(Check check) {
        check.due("no courses", Walls.wall(10, 0).layBest(), 0);
        BondedWall x = alike(8, 8, 0, 254);
        check.due("8 courses", x.layBest(), 16);
        for (int c = 0; c < 8; c++) {
            check.due("course " + c, x.ofCourse(c, 4), c % 2 == 0 ? Walls.set(4) : Walls.set(2, 6));
            check.due("as best", x.bestRow(c), x.ofCourse(c, 4));
        }
        check.due("it is right", x.wrong(0), NONE);
        check.due("its cost", x.cost(), 16);
        check.due("again", x.layBest(), 16);
        BondedWall whole = alike(4, 8, 0, 14);
        check.due("for nothing", whole.layBest(), 0);
        check.due("without joints", whole.many(5), 0);
        BondedWall open = alike(10, 8, 1023, 1022);
        check.due("all open", open.layBest(), 0);
        check.due("joints are no more", open.many(5), 0);
        BondedWall later = Walls.wall(8, 1);
        later.layBest();
        later.price(4, NONE);
        check.due("later changes leave it as it is laid", later.ofCourse(0, 4), Walls.set(4));
    }

    private static void p19state(Check check) {
        Walls.refused(check, "the highest can not be", Walls::impossible, x -> x.layBest(), STATE);
        BondedWall x = alike(4, 2, 0, 2);
        x.must(0, 1, 8);
        x.must(0, 0, 8);
        check.due("the lowest can not be", x.layBest(), STATE);
        check.due("the lowest as it was", x.ofCourse(0, 4), 2);
        check.due("the highest as it was", x.ofCourse(1, 4), 2);
        x.must(0, 0, 0);
        check.due("it can again", x.layBest(), 5);
    }

    private static void p20course(Check check) {
        for (int c = 0; c < 8; c++) {
            BondedWall x = Walls.wall(4, 8);
            x.must(c, 1, 2);
            check.due("course " + c + " alone", x.wrong(0), c);
            x.must(7, 1, 2);
            check.due("and the highest", x.wrong(0), c);
            x.must(0, 1, 2);
            check.due("and the lowest", x.wrong(0), 0);
        }
        BondedWall x = Walls.wall(4, 2);
        x.price(4, 0);
        x.must(1, 1, 2);
        x.lay(0, 14);
        x.lay(1, 2);
        check.due("a joint on a joint is wrong in the upper one", x.wrong(0), 1);
        x.price(1, NONE);
        check.due("the lower one comes first, whatever its rule", x.wrong(0), 0);
        check.due("its rule, not the lesser one of the upper", x.wrong(1), 3);
    }

    /** All rules are broken in course 1; they are mended one after another. */
    private static void p20rule(Check check) {
        BondedWall x = Walls.wall(10, 2);
        x.open(0, Walls.set(8));
        x.lay(0, Walls.set(4));
        x.lap(2);
        x.open(1, Walls.set(9));
        x.lay(1, Walls.set(3, 8, 9));
        x.must(1, 1, Walls.set(6));
        x.price(3, NONE);
        x.ends(1, 0, 126 & ~Walls.set(3));
        dueRule(check, x, 1);
        x.lay(1, Walls.set(3, 8));
        dueRule(check, x, 2);
        x.must(1, 1, 0);
        dueRule(check, x, 3);
        x.price(3, 2);
        dueRule(check, x, 4);
        x.ends(1, 0, 126);
        dueRule(check, x, 5);
        x.open(1, Walls.set(8, 9));
        x.lay(1, Walls.set(3));
        dueRule(check, x, 6);
        x.lay(1, Walls.set(3, 7));
        dueRule(check, x, 7);
        x.lap(1);
        check.due("all are mended, course", x.wrong(0), NONE);
        check.due("all are mended, rule", x.wrong(1), NONE);
        lesserRuleOfLaterPiece(check);
    }

    private static void dueRule(Check check, BondedWall x, int rule) {
        check.due("all below are mended, rule", x.wrong(1), rule);
        check.due("its course", x.wrong(0), 1);
    }

    private static void lesserRuleOfLaterPiece(Check check) {
        BondedWall x = Walls.wall(8, 2);
        x.open(0, Walls.set(0));
        x.lay(0, Walls.set(4));
        x.lay(1, Walls.set(2, 6));
        check.due("the first piece breaks rule 5", x.wrong(1), 5);
        x.ends(1, 1, Walls.set(1));
        check.due("the last one breaks rule 4", x.wrong(1), 4);
        x.price(2, NONE);
        check.due("it breaks rule 3 too", x.wrong(1), 3);
        x.must(1, 0, Walls.set(6));
        check.due("rule 2", x.wrong(1), 2);
        x.open(1, Walls.set(7));
        x.lay(1, Walls.set(2, 6, 7));
        check.due("rule 1", x.wrong(1), 1);
    }

    private static void p20none(Check check) {
        for (int what = 0; what <= 1; what++) {
            check.due("no courses", Walls.wall(10, 0).wrong(what), NONE);
            check.due("whole ones", Walls.wall(4, 8).wrong(what), NONE);
            check.due("all open", alike(10, 8, 1023, 0).wrong(what), NONE);
            check.due("ordinary", Walls.ordinary().wrong(what), NONE);
            BondedWall x = Walls.filled();
            x.layBest();
            check.due("laid as best", x.wrong(what), NONE);
            x.take();
            check.due("without the highest", x.wrong(what), NONE);
        }
    }

    private static void p20outside(Check check) {
        Walls.outsideOf(check, 0, 1, Walls::ordinary, (x, what) -> x.wrong(what));
        Walls.outsideOf(check, 0, 1, Walls::empty, (x, what) -> x.wrong(what));
        Walls.outsideOf(check, 0, 1, Walls::impossible, (x, what) -> x.wrong(what));
    }

    private static void p21without(Check check) {
        check.due("no courses", Walls.wall(10, 0).cost(), 0);
        check.due("all open", alike(10, 8, 1023, 0).cost(), 0);
        int[] prices = {0, 0, 2, 2, 0, 5, 6, 100, 100, 100, 100};
        for (int n = 2; n <= 10; n++) {
            check.due("a piece of " + n, Walls.wall(n, 1).cost(), prices[n]);
            check.due("8 of them", Walls.wall(n, 8).cost(), 8 * prices[n]);
        }
        for (int length = 2; length <= 6; length++) {
            BondedWall x = Walls.wall(length, 1);
            x.price(length, 99);
            check.due("the greatest price", x.cost(), 99);
            x.price(length, NONE);
            check.due("none", x.cost(), 100);
            x.price(length, 0);
            check.due("the least", x.cost(), 0);
        }
        BondedWall x = alike(10, 8, 0, 1022);
        check.due("80 pieces", x.cost(), 240);
        x.price(1, NONE);
        check.due("80 without a price", x.cost(), 8000);
        check.due("wrong ones cost too", Walls.wall(6, 1).cost(), 6);
    }

    private static void p21partNothing(Check check) {
        BondedWall x = Walls.wall(10, 1);
        x.open(0, Walls.set(4, 5));
        check.due("4 and 4", x.cost(), 0);
        for (int place = 4; place <= 6; place++) {
            x.lay(0, 1 << place);
            check.due("a joint at " + place, x.cost(), 0);
        }
        x.lay(0, Walls.set(3));
        check.due("one away, within a span", x.cost(), 5);
        x.lay(0, Walls.set(7));
        check.due("one away, within a span", x.cost(), 5);
        x.open(0, Walls.set(0, 9));
        x.lay(0, Walls.set(5));
        check.due("4 and 4", x.cost(), 0);
        x.lay(0, Walls.set(1, 5, 9));
        check.due("places beside the ends", x.cost(), 0);
        check.due("two pieces", x.many(4), 2);
        check.due("nor do all in an opening", alike(10, 8, 1023, 1022).cost(), 0);
    }

    private static void p22howMany(Check check) {
        for (int length = 1; length <= 10; length++) {
            check.due("no courses, " + length, Walls.wall(10, 0).pieces(length), 0);
            check.due("all open, " + length, alike(10, 8, 1023, 0).pieces(length), 0);
            check.due("one course each of 10, " + length, Walls.wall(10, 8).pieces(length), length == 10 ? 8 : 0);
            check.due("each of 1, " + length, alike(10, 8, 0, 1022).pieces(length), length == 1 ? 80 : 0);
            check.due("more than the width, " + length, Walls.wall(2, 1).pieces(length), length == 2 ? 1 : 0);
        }
        for (int place = 1; place <= 9; place++) {
            BondedWall x = alike(10, 8, 0, 1 << place);
            check.due("left of " + place, x.pieces(place), place == 5 ? 16 : 8);
            check.due("right of " + place, x.pieces(10 - place), place == 5 ? 16 : 8);
        }
    }

    private static void p22outside(Check check) {
        Walls.outsideOf(check, 1, 10, Walls::ordinary, (x, length) -> x.pieces(length));
        Walls.outsideOf(check, 1, 10, Walls::empty, (x, length) -> x.pieces(length));
        Walls.outsideOf(check, 1, 10, () -> Walls.wall(2, 1), (x, length) -> x.pieces(length));
    }

    private static void p23length(Check check) {
        for (int n = 2; n <= 10; n++) {
            BondedWall x = Walls.wall(n, 8);
            for (int c : new int[] {0, 7}) {
                check.due("cell 0 of " + n, x.piece(c, 0), n);
                check.due("the last cell of " + n, x.piece(c, n - 1), n);
                x.lay(c, (1 << n) - 2);
                check.due("cell 0, parted", x.piece(c, 0), 1);
                check.due("the last cell, parted", x.piece(c, n - 1), 1);
            }
        }
        BondedWall x = Walls.wall(10, 1);
        x.lay(0, Walls.set(1, 4, 5, 9));
        int[] wants = {1, 3, 3, 3, 1, 4, 4, 4, 4, 1};
        for (int cell = 0; cell < 10; cell++) {
            check.due("cell " + cell, x.piece(0, cell), wants[cell]);
        }
        x.open(0, Walls.set(4, 5));
        int[] besides = {1, 3, 3, 3, NONE, NONE, 3, 3, 3, 1};
        for (int cell = 0; cell < 10; cell++) {
            check.due("beside an opening, cell " + cell, x.piece(0, cell), besides[cell]);
        }
    }

    private static void p23open(Check check) {
        BondedWall x = Walls.wall(10, 8);
        for (int c : new int[] {0, 7}) {
            x.open(c, Walls.set(0, 9));
            check.due("cell 0", x.piece(c, 0), NONE);
            check.due("cell 9", x.piece(c, 9), NONE);
            check.due("beside it", x.piece(c, 1), 8);
            check.due("beside it", x.piece(c, 8), 8);
            x.open(c, 1023);
            for (int cell = 0; cell < 10; cell++) {
                check.due("all, " + cell, x.piece(c, cell), NONE);
            }
            x.open(c, 0);
            check.due("none", x.piece(c, 0), 10);
        }
    }

    private static void p23unknown(Check check) {
        Walls.unknownBeside(check, (x, c) -> x.piece(c, 0));
        Walls.unknownBeside(check, (x, c) -> x.piece(c, 6));
        Walls.unknownFirst(check, "cell -1", (x, c) -> x.piece(c, -1));
        Walls.unknownFirst(check, "cell WIDTH", (x, c) -> x.piece(c, 7));
    }

    private static void p23outside(Check check) {
        for (int n = 2; n <= 10; n++) {
            int width = n;
            Walls.outsideOf(check, 0, n - 1, () -> Walls.wall(width, 8), (x, cell) -> x.piece(7, cell));
        }
        Walls.outsideOf(check, 0, 9, () -> alike(10, 1, 1023, 0), (x, cell) -> x.piece(0, cell));
    }

    private static void p24cut(Check check) {
        check.due("no courses", Walls.wall(10, 0).cut(), 0);
        check.due("all open", alike(10, 8, 1023, 1022).cut(), 0);
        check.due("80 of 1", alike(10, 8, 0, 1022).cut(), 20);
        check.due("longer than 4 all", Walls.wall(5, 8).cut(), 0);
        check.due("whole ones all", Walls.wall(4, 8).cut(), 8);
        BondedWall x = Walls.wall(4, 1);
        x.open(0, Walls.set(0, 1, 2));
        check.due("one of 1", x.cut(), 1);
        x.price(1, NONE);
        check.due("with or without a price", x.cut(), 1);
        BondedWall laid = alike(8, 2, 0, 0);
        check.due("as laid", laid.cut(), 0);
        laid.layBest();
        check.due("as laid then: three of 4, two of 2", laid.cut(), 4);
        laid.open(1, Walls.set(7));
        check.due("a 1 instead of a 2", laid.cut(), 4);
        laid.open(1, Walls.set(2, 3, 4, 5));
        check.due("two of 4, two of 2", laid.cut(), 3);
    }

    private static void p25courses(Check check) {
        for (int courses = 0; courses <= 8; courses++) {
            check.due("courses", Walls.wall(8, courses).many(0), courses);
        }
        BondedWall x = Walls.filled();
        x.course();
        check.due("not more than 8", x.many(0), 8);
        BondedWall none = Walls.empty();
        none.take();
        check.due("not fewer than none", none.many(0), 0);
    }

    private static void p25width(Check check) {
        check.due("at first", new BondedWall().many(1), 8);
        for (int n = 2; n <= 10; n++) {
            BondedWall x = Walls.wall(n, 1);
            x.width(11);
            x.width(1);
            check.due("width", x.many(1), n);
        }
    }

    private static void p25lap(Check check) {
        check.due("at first", new BondedWall().many(2), 1);
        for (int v = 1; v <= 3; v++) {
            BondedWall x = new BondedWall();
            x.lap(v);
            x.lap(0);
            x.lap(4);
            x.byLap(4 - v);
            check.due("lap", x.many(2), v);
        }
    }

    private static void p25openCells(Check check) {
        check.due("no courses", Walls.wall(10, 0).many(3), 0);
        check.due("none", Walls.wall(10, 8).many(3), 0);
        check.due("all", alike(10, 8, 1023, 0).many(3), 80);
        BondedWall x = Walls.wall(10, 8);
        x.open(0, 1);
        check.due("one of the lowest", x.many(3), 1);
        x.open(7, Walls.set(0, 9));
        check.due("two of the highest", x.many(3), 3);
        x.take();
        check.due("without the highest", x.many(3), 1);
    }

    private static void p25pieces(Check check) {
        check.due("no courses", Walls.wall(10, 0).many(4), 0);
        check.due("one each", Walls.wall(10, 8).many(4), 8);
        check.due("as many as can be", alike(10, 8, 0, 1022).many(4), 80);
        check.due("all open", alike(10, 8, 1023, 1022).many(4), 0);
        BondedWall x = Walls.wall(10, 2);
        x.open(1, Walls.set(5));
        check.due("a span more", x.many(4), 3);
        x.lay(1, Walls.set(5, 6));
        check.due("joints beside an opening part nothing", x.many(4), 3);
        x.lay(1, Walls.set(4, 7));
        check.due("joints within spans do", x.many(4), 5);
    }

    private static void p25joints(Check check) {
        check.due("no courses", Walls.wall(10, 0).many(5), 0);
        check.due("none", Walls.wall(10, 8).many(5), 0);
        check.due("all", alike(10, 8, 0, 1022).many(5), 72);
        check.due("as laid, though none is within a span", alike(10, 8, 1023, 1022).many(5), 72);
        BondedWall x = Walls.wall(10, 8);
        x.lay(0, Walls.set(1));
        x.lay(7, Walls.set(1, 9));
        check.due("of the lowest and the highest", x.many(5), 3);
        x.take();
        check.due("without the highest", x.many(5), 1);
    }

    private static void p25outside(Check check) {
        Walls.outsideOf(check, 0, 5, Walls::ordinary, (x, what) -> x.many(what));
        Walls.outsideOf(check, 0, 5, Walls::empty, (x, what) -> x.many(what));
        Walls.outsideOf(check, 0, 5, Walls::filled, (x, what) -> x.many(what));
    }
}
