/** Each promise of the document by its number: ordinary inputs and the edges that it names. */
public final class PromiseTest {
    private static final Check CHECK = new Check();

    private static void due(String call, long got, long want) {
        CHECK.due(call, got, want);
    }

    private static BondedWall wall(int width, int courses) {
        return Walls.wall(width, courses);
    }

    public static void main(String[] args) {
        constants();
        p1newObject();
        p2width();
        p3course();
        p4take();
        p5open();
        p6must();
        p7price();
        p8lap();
        p9ends();
        p10ofCourse();
        p11row();
        p11rowByRules();
        p12walls();
        p13best();
        p14bestRow();
        p15bestOf();
        p16highest();
        p17byLap();
        p18lay();
        p19layBest();
        p20wrong();
        p20wrongFirstRule();
        p21cost();
        p22pieces();
        p23piece();
        p24cut();
        p25many();
        nothingIsRemembered();
        CHECK.end();
    }

    private static void constants() {
        due("UNKNOWN", BondedWall.UNKNOWN, -1);
        due("OUTSIDE", BondedWall.OUTSIDE, -2);
        due("STATE", BondedWall.STATE, -3);
        due("FULL", BondedWall.FULL, -4);
        due("NONE", BondedWall.NONE, -9);
        due("LOST", BondedWall.LOST, Long.MIN_VALUE);
    }

    private static void p1newObject() {
        BondedWall x = new BondedWall();
        int[] manyDue = {0, 8, 1, 0, 0, 0};
        for (int what = 0; what < manyDue.length; what++) {
            due("1 many " + what, x.many(what), manyDue[what]);
        }
        due("1 walls", x.walls(), 1);
        due("1 best", x.best(), 0);
        due("1 highest", x.highest(), 0);
        due("1 layBest", x.layBest(), 0);
        due("1 wrong", x.wrong(0), -9);
        int[] pricesDue = {3, 2, 2, 0, 5, 6};
        for (int length = 1; length <= 6; length++) {
            due("1 price " + length, x.price(length, 50), pricesDue[length - 1]);
        }
        for (int end = 0; end < 4; end++) {
            due("1 ends " + end, x.ends(end / 2, end % 2, 2), 126);
        }
        due("1 lap", x.lap(3), 1);
    }

    private static void p2width() {
        BondedWall x = wall(8, 3);
        x.price(1, 77);
        x.lap(2);
        x.ends(1, 0, 4);
        due("2 width 2", x.width(2), 1);
        due("2 many courses", x.many(0), 0);
        due("2 many width", x.many(1), 2);
        due("2 width 10", x.width(10), 1);
        due("2 many width", x.many(1), 10);
        due("2 prices stay", x.price(1, 3), 77);
        due("2 lap stays", x.many(2), 2);
        due("2 ends stay", x.ends(1, 0, 126), 4);
        due("2 ends of others stay", x.ends(0, 0, 126), 126);
        x.course();
        x.open(0, 1);
        x.must(0, 1, 4);
        x.must(0, 0, 8);
        x.lay(0, 16);
        due("2 the same width anew", x.width(10), 1);
        due("2 no course", x.ofCourse(0, 0), -1);
        x.course();
        for (int what = 0; what <= 4; what++) {
            due("2 a new course " + what, x.ofCourse(0, what), what == 3 ? 1 : 0);
        }
    }

    private static void p3course() {
        BondedWall x = new BondedWall();
        for (int c = 0; c < 8; c++) {
            due("3 course " + c, x.course(), c);
            due("3 many", x.many(0), c + 1);
        }
        due("3 full", x.course(), -4);
        due("3 many", x.many(0), 8);
        x.take();
        due("3 room again", x.course(), 7);
        due("3 full again", x.course(), -4);
    }

    private static void p4take() {
        BondedWall x = wall(8, 2);
        x.open(0, 3);
        x.open(1, 1);
        x.must(1, 1, 8);
        x.must(1, 0, 16);
        x.lay(1, 32);
        due("4 take", x.take(), 1);
        due("4 the lower one stays", x.ofCourse(0, 0), 3);
        due("4 the higher one is no more", x.ofCourse(1, 0), -1);
        due("4 course", x.course(), 1);
        for (int what = 0; what <= 4; what++) {
            due("4 it comes new " + what, x.ofCourse(1, what), what == 3 ? 1 : 0);
        }
        due("4 take", x.take(), 1);
        due("4 take", x.take(), 0);
        due("4 none is left", x.take(), -3);
        due("4 walls", x.walls(), 1);
    }

    private static void p5open() {
        BondedWall x = wall(5, 2);
        due("5 open", x.open(0, 0b01010), 0);
        due("5 open all", x.open(0, 0b11111), 0b01010);
        due("5 open none", x.open(0, 0), 0b11111);
        due("5 the last cell", x.open(1, 0b10000), 0);
        due("5 beyond", x.open(1, 0b100000), -2);
        due("5 the other is as it was", x.ofCourse(0, 0), 0);
        due("5 it stays", x.ofCourse(1, 0), 0b10000);
    }

    private static void p6must() {
        BondedWall x = wall(5, 2);
        due("6 must", x.must(0, 1, 0b11110), 0);
        due("6 may not", x.must(0, 0, 0b00110), 0);
        due("6 must again", x.must(0, 1, 0b00010), 0b11110);
        due("6 may not again", x.must(0, 0, 0b10000), 0b00110);
        due("6 must is", x.ofCourse(0, 1), 0b00010);
        due("6 may not is", x.ofCourse(0, 2), 0b10000);
        due("6 the other course", x.ofCourse(1, 1) + x.ofCourse(1, 2), 0);
    }

    private static void p7price() {
        BondedWall x = wall(4, 1);
        due("7 price", x.price(4, 99), 0);
        due("7 price", x.price(4, 0), 99);
        due("7 none", x.price(4, -9), 0);
        due("7 was none", x.price(4, 7), -9);
        due("7 the longest", x.price(6, 1), 6);
        due("7 best by it", x.best(), 4);
        due("7 the least", x.price(1, 0), 3);
        due("7 best by it", x.best(), 0);
    }

    private static void p8lap() {
        BondedWall x = new BondedWall();
        due("8 lap 3", x.lap(3), 1);
        due("8 lap 2", x.lap(2), 3);
        due("8 lap 1", x.lap(1), 2);
        due("8 many", x.many(2), 1);
    }

    private static void p9ends() {
        BondedWall x = wall(4, 2);
        due("9 even left", x.ends(0, 0, 2), 126);
        due("9 even right", x.ends(0, 1, 4), 126);
        due("9 odd left", x.ends(1, 0, 8), 126);
        due("9 odd right", x.ends(1, 1, 16), 126);
        due("9 even left 1, right 2", x.row(0, 0), 0b0110);
        due("9 no other", x.row(0, -1), 1);
        due("9 odd left 3, right 4: none", x.row(1, -1), 0);
        due("9 odd right", x.ends(1, 1, 2), 16);
        due("9 odd left 3, right 1", x.row(1, 0), 0b1000);
        due("9 no length at all", x.ends(1, 1, 0), 2);
        due("9 none", x.row(1, -1), 0);
        due("9 all", x.ends(1, 1, 126), 0);
        due("9 even left again", x.ends(0, 0, 126), 2);
        due("9 even right again", x.ends(0, 1, 126), 4);
    }

    private static void p10ofCourse() {
        BondedWall x = wall(10, 2);
        x.open(1, 0b0110000100);
        x.must(1, 1, 2);
        x.must(1, 0, 8);
        x.lay(1, 512);
        int[] wants = {0b0110000100, 2, 8, 3, 512};
        for (int what = 0; what <= 4; what++) {
            due("10 ofCourse " + what, x.ofCourse(1, what), wants[what]);
            due("10 the lower one " + what, x.ofCourse(0, what), what == 3 ? 1 : 0);
        }
        x.open(0, 0b1111111111);
        due("10 no span", x.ofCourse(0, 3), 0);
        x.open(0, 0b0101010101);
        due("10 spans of one cell", x.ofCourse(0, 3), 5);
        x.lay(1, 0b1111111110);
        due("10 joints part no span", x.ofCourse(1, 3), 3);
    }

    private static void p11row() {
        BondedWall x = wall(4, 1);
        due("11 how many", x.row(0, -1), 8);
        for (int k = 0; k < 8; k++) {
            due("11 row " + k, x.row(0, k), 2 * k);
        }
        due("11 fewer", x.row(0, 8), -9);
        due("11 the last k", x.row(0, 511), -9);
        BondedWall wide = wall(10, 2);
        wide.open(0, 0b0111111110);
        for (int length = 1; length <= 6; length++) {
            wide.price(length, 1);
        }
        due("11 ends over whole cells alone", wide.row(1, -1), 0);
        wide.take();
        due("11 two single cells", wide.row(0, -1), 1);
        due("11 without joints", wide.row(0, 0), 0);
        due("11 laid joints do not count", wide.lay(0, 2) + wide.row(0, -1), 1);
    }

    private static void p11rowByRules() {
        BondedWall x = wall(3, 2);
        x.open(0, 0b001);
        due("11 rule 1: place 2 alone", x.row(0, -1), 2);
        due("11 rule 1", x.row(0, 1), 0b100);
        x.must(0, 1, 0b010);
        due("11 rules 1 and 2 against one another", x.row(0, -1), 0);
        x.must(0, 1, 0b100);
        due("11 rule 2 must", x.row(0, 0), 0b100);
        x.must(0, 0, 0b100);
        due("11 rule 2 both ways", x.row(0, -1), 0);
        x.must(0, 1, 0);
        due("11 rule 2 may not", x.row(0, 0), 0);
        due("11 rule 2 may not", x.row(0, -1), 1);
        x.price(2, -9);
        due("11 rule 3", x.row(0, -1), 0);
        x.price(2, 0);
        x.ends(0, 0, 0);
        due("11 rule 4: cell 0 is open", x.row(0, -1), 1);
        x.ends(0, 1, 2);
        due("11 rule 4 at the other end", x.row(0, -1), 0);
        due("11 rule 5: no piece over cell 0", x.row(1, -1), 0);
        x.open(1, 0b001);
        due("11 rule 5: open over open", x.row(1, -1), 2);
        BondedWall y = wall(6, 2);
        due("11 rule 6 in the lowest: parts of 1 to 4 alone", y.row(0, -1), 29);
        due("11 rule 6 over whole cells", y.row(1, -1), 29);
        y.open(0, 0b001100);
        due("11 rules 5 and 6: joints at 1, 5 alone", y.row(1, -1), 4);
        due("11 a lintel of 6", y.row(1, 0), 0);
        due("11 one of 5", y.row(1, 1), 0b000010);
        due("11 one of 5", y.row(1, 2), 0b100000);
        due("11 one of 4", y.row(1, 3), 0b100010);
        due("11 rule 7 is none of them", y.lap(3) + y.row(1, -1), 5);
    }

    private static void p12walls() {
        BondedWall x = wall(2, 0);
        long[] noTwoOneOnAnother = {1, 2, 3, 5, 8, 13, 21, 34, 55};
        for (int courses = 0; courses <= 8; courses++) {
            due("12 walls of " + courses, x.walls(), noTwoOneOnAnother[courses]);
            x.course();
        }
        BondedWall y = wall(3, 2);
        due("12 lap 1", y.walls(), 9);
        y.lap(2);
        due("12 lap 2", y.walls(), 7);
        BondedWall z = wall(4, 2);
        due("12 lap 1", z.walls(), 27);
        z.lap(2);
        due("12 lap 2: 1 and 3 apart", z.walls(), 17);
        z.lap(3);
        due("12 lap 3: none beside none", z.walls(), 15);
        z.price(4, -9);
        due("12 one course must be parted", z.walls(), 0);
        BondedWall big = wall(10, 8);
        due("12 many", big.walls(), 690791333778L);
    }

    private static void p13best() {
        BondedWall x = wall(4, 8);
        due("13 whole bricks cost nothing", x.best(), 0);
        x.price(4, 9);
        due("13 2 and 2, then 1 and 3, in turn", x.best(), 4 * 4 + 4 * 5);
        x.width(10);
        x.price(4, -9);
        x.price(3, -9);
        x.price(2, -9);
        x.course();
        due("13 single cells", x.best(), 30);
        x.course();
        due("13 not two one on another", x.best(), -9);
        x.price(1, 99);
        x.take();
        due("13 the dearest", x.best(), 990);
        x.open(0, 1023);
        due("13 nothing to pay", x.best(), 0);
    }

    private static void p14bestRow() {
        BondedWall x = wall(8, 3);
        due("14 least number of the least cost", x.bestRow(0), 0b00010000);
        due("14 over it", x.bestRow(1), 0b01000100);
        BondedWall whole = wall(4, 2);
        due("14 no joints at all", whole.bestRow(0), 0);
        due("14 no joints over none", whole.bestRow(1), 0);
        due("14 on top", x.bestRow(2), 0b00010000);
        BondedWall tie = wall(4, 2);
        tie.price(4, -9);
        tie.price(1, 1);
        tie.price(3, 1);
        due("14 1 and 3, 3 and 1, 2 and 2: the first", tie.bestRow(0), 0b0010);
        due("14 then the next", tie.bestRow(1), 0b0100 * 2);
        tie.price(2, 1);
        due("14 still the first", tie.bestRow(0), 0b0010);
        due("14 now 2 and 2 is less", tie.bestRow(1), 0b0100);
        tie.lap(3);
        due("14 no wall", tie.bestRow(0), -3);
        due("14 unknown comes first", tie.bestRow(2), -1);
    }

    private static void p15bestOf() {
        BondedWall x = wall(8, 2);
        int[] wants = {0, 2, 0, 3, 0, 0};
        for (int length = 1; length <= 6; length++) {
            due("15 bestOf " + length, x.bestOf(length), wants[length - 1]);
        }
        x.open(0, 0b00111100);
        x.must(1, 1, 0b10000000);
        x.must(1, 0, 0b01111110);
        due("15 no length of 7", x.bestOf(6), -3);
        x.must(1, 1, 0b10000010);
        x.must(1, 0, 0b01111100);
        due("15 the lintel", x.bestOf(6), 1);
        due("15 beside it", x.bestOf(1), 2);
        due("15 below", x.bestOf(2), 2);
        due("15 none laid is counted", x.pieces(6), 0);
    }

    private static void p16highest() {
        BondedWall x = wall(2, 4);
        due("16 all", x.highest(), 4);
        x.must(1, 1, 2);
        x.must(2, 1, 2);
        due("16 a joint on a joint", x.highest(), 2);
        x.must(0, 1, 2);
        due("16 lower still", x.highest(), 1);
        x.must(0, 0, 2);
        due("16 none at all", x.highest(), 0);
        x.must(0, 1, 0);
        x.must(2, 1, 0);
        due("16 all again", x.highest(), 4);
        BondedWall y = wall(4, 3);
        y.price(4, -9);
        due("16 lap 1", y.highest(), 3);
        y.lap(3);
        due("16 lap 3", y.highest(), 1);
    }

    private static void p17byLap() {
        BondedWall x = wall(5, 2);
        x.price(1, 9);
        due("17 lap 1: 2 and 3, 3 and 2", x.byLap(1), 8);
        due("17 lap 2: 1 and 4, 3 and 2", x.byLap(2), 13);
        due("17 lap 3: 1 and 4, 4 and 1", x.byLap(3), 18);
        due("17 LAP stays", x.many(2), 1);
        due("17 its rows stay", x.bestRow(1), 0b01000);
        due("17 best stays", x.best(), 8);
        x.lap(3);
        due("17 by less", x.byLap(1), 8);
        due("17 rows by LAP", x.bestRow(1), 0b10000);
        due("17 by its own lap", x.byLap(3), 18);
        due("17 best by LAP", x.best(), 18);
        x.price(1, -9);
        due("17 none", x.byLap(3), -9);
        due("17 none", x.byLap(2), -9);
        due("17 still", x.byLap(1), 8);
    }

    private static void p18lay() {
        BondedWall x = wall(6, 2);
        due("18 lay", x.lay(1, 0b111110), 0);
        due("18 lay again", x.lay(1, 0b000100), 0b111110);
        due("18 as laid", x.ofCourse(1, 4), 0b000100);
        due("18 the other", x.ofCourse(0, 4), 0);
        x.open(1, 0b000100);
        due("18 it stays when cells open", x.ofCourse(1, 4), 0b000100);
        due("18 it may be laid there", x.lay(1, 0b001000), 0b000100);
    }

    private static void p19layBest() {
        BondedWall x = wall(8, 3);
        x.lay(0, 2);
        due("19 layBest", x.layBest(), 4);
        due("19 laid", x.ofCourse(0, 4), 0b00010000);
        due("19 laid", x.ofCourse(1, 4), 0b01000100);
        due("19 laid", x.ofCourse(2, 4), 0b00010000);
        due("19 right", x.wrong(0), -9);
        due("19 cost", x.cost(), 4);
        x.lap(3);
        x.price(3, -9);
        due("19 none", x.layBest(), -3);
        due("19 as it was", x.ofCourse(1, 4), 0b01000100);
    }

    private static void p20wrong() {
        BondedWall x = wall(8, 3);
        x.layBest();
        due("20 right", x.wrong(0), -9);
        due("20 right", x.wrong(1), -9);
        expectWrong(x, "rule 7", x.lay(1, 0b00010100), 1, 7);
        x.layBest();
        expectWrong(x, "rule 7 by lap", x.lap(3), 1, 7);
        x.lap(1);
        expectWrong(x, "rule 4 of odd", x.ends(1, 0, 16), 1, 4);
        x.ends(1, 0, 126);
        expectWrong(x, "rule 4 of even, right", x.ends(0, 1, 4), 0, 4);
        x.ends(0, 1, 126);
        expectWrong(x, "rule 3", x.price(2, -9), 1, 3);
        x.price(2, 2);
        expectWrong(x, "rule 2 must", x.must(2, 1, 2), 2, 2);
        x.must(2, 1, 0);
        expectWrong(x, "rule 2 may not", x.must(1, 0, 4), 1, 2);
        x.must(1, 0, 0);
        expectWrong(x, "rule 1", x.open(2, 16), 2, 1);
        x.open(2, 0);
        expectWrong(x, "rule 5 first cell", x.open(1, 1), 2, 5);
        expectWrong(x, "rule 5 last cell", x.open(1, 128), 2, 5);
        x.open(1, 0);
        x.lay(0, 0b00010000);
        expectWrong(x, "rule 6 in the lowest", x.lay(0, 0b00100000), 0, 6);
        x.lay(0, 0b00010000);
        expectWrong(x, "rule 6", x.lay(1, 0b01000000), 1, 6);
    }

    /** The change has been made by the time the wall is asked. */
    private static void expectWrong(BondedWall x, String what, int change, int course, int rule) {
        CHECK.holds("20 " + what + " was taken", change >= 0);
        due("20 " + what + ": course", x.wrong(0), course);
        due("20 " + what + ": rule", x.wrong(1), rule);
    }

    private static void p20wrongFirstRule() {
        BondedWall x = wall(8, 2);
        x.open(0, 0b00000110);
        x.lay(0, 0b00010000);
        x.lay(1, 0b00000110);
        due("20 one begins, one lies over open cells", x.wrong(1), 5);
        x.lay(1, 0b01010110);
        due("20 rule 5 before rule 7", x.wrong(1), 5);
        x.lay(1, 0b01000110);
        due("20 rule 5 alone", x.wrong(1), 5);
        x.price(2, -9);
        due("20 rule 3 of the right one before rule 5 of the left one", x.wrong(1), 3);
        x.price(2, 2);
        x.ends(1, 1, 2);
        due("20 rule 4 of the right one before rule 5 of the left one", x.wrong(1), 4);
        due("20 its course", x.wrong(0), 1);
        x.lay(0, 0b00000100);
        due("20 the lower course comes first", x.wrong(0), 0);
        due("20 by its rule", x.wrong(1), 1);
        BondedWall single = wall(4, 1);
        single.lay(0, 0b0010);
        single.price(1, -9);
        due("20 the first cell alone", single.wrong(1), 3);
        BondedWall beside = wall(10, 2);
        beside.lay(0, 0b1000001100);
        beside.open(0, 0b0000110000);
        beside.lay(1, 0b0100000000);
        due("20 longer than a lintel", beside.wrong(1), 3);
        beside.lay(1, 0b0010000010);
        due("20 a lintel over both", beside.wrong(0), -9);
        beside.open(0, 0b0001000000);
        beside.lay(0, 0b0000001000);
        due("20 rule 5 of the right one before rule 6 of the left one", ruleOf(beside, 0b0001000010), 5);
        beside.open(1, 0b0001000000);
        due("20 the opening begins where the lintel ends", ruleOf(beside, 0b0000000010), 6);
        beside.open(1, 0);
        beside.open(0, 0b0010000000);
        due("20 the opening lies right of the lintel", ruleOf(beside, 0b0001000010), 6);
        due("20 a lintel over it", ruleOf(beside, 0b0000010000), -9);
        beside.open(0, 0b0000000100);
        beside.lay(0, 0b0001000000);
        due("20 the opening lies left of the lintel", ruleOf(beside, 0b1000010000), 6);
        due("20 one of two lintels lies over it", ruleOf(beside, 0b0000100000), 6);
        due("20 the only lintel lies over it", ruleOf(beside, 0b1000100000), -9);
    }

    private static int ruleOf(BondedWall x, int jointsOfCourse1) {
        x.lay(1, jointsOfCourse1);
        return x.wrong(1);
    }

    private static void p21cost() {
        BondedWall x = wall(10, 2);
        due("21 longer than any: 100 each", x.cost(), 200);
        x.lay(0, 0b0000010000);
        due("21 4 and 6", x.cost(), 106);
        x.lay(0, 0b1000100010);
        due("21 1, 4, 4 and 1", x.cost(), 106);
        x.lay(0, 0b0000010000);
        x.price(6, -9);
        due("21 6 without a price", x.cost(), 200);
        x.price(4, 33);
        due("21 by prices", x.cost(), 233);
        x.open(1, 0b0000000111);
        x.lay(1, 0b0000000110);
        due("21 joints in an opening part nothing", x.cost(), 233);
        x.lay(1, 0b0000001110);
        due("21 nor those beside it", x.cost(), 233);
        x.open(1, 1023);
        due("21 nothing there", x.cost(), 133);
    }

    private static void p22pieces() {
        BondedWall x = wall(10, 2);
        due("22 10 cells", x.pieces(10), 2);
        x.lay(0, 0b1000001010);
        int[] wants = {2, 1, 0, 0, 0, 1, 0, 0, 0, 1};
        for (int length = 1; length <= 10; length++) {
            due("22 pieces " + length, x.pieces(length), wants[length - 1]);
        }
        x.open(1, 0b0000000001);
        due("22 9 cells", x.pieces(9), 1);
        x.open(1, 0b0010000000);
        due("22 7 cells", x.pieces(7), 1);
        due("22 2 cells", x.pieces(2), 2);
    }

    private static void p23piece() {
        BondedWall x = wall(10, 1);
        x.open(0, 0b0000110000);
        x.lay(0, 0b1000110100);
        int[] wants = {2, 2, 2, 2, -9, -9, 3, 3, 3, 1};
        for (int cell = 0; cell < 10; cell++) {
            due("23 piece " + cell, x.piece(0, cell), wants[cell]);
        }
    }

    private static void p24cut() {
        due("24 without courses", new BondedWall().cut(), 0);
        due("24 a 1 beside a 3", cutOf(4, 0b0010), 1);
        due("24 two of 2", cutOf(4, 0b0100), 1);
        due("24 four of 1", cutOf(4, 0b1110), 1);
        due("24 two of 1 beside a 2", cutOf(4, 0b0110), 1);
        due("24 five of 1", cutOf(5, 0b11110), 2);
        due("24 two of 3", cutOf(6, 0b001000), 2);
        due("24 3, 2 and 1", cutOf(6, 0b101000), 2);
        due("24 3, 3, 2, 2", cutOf(10, 0b0101001000), 3);
        due("24 lintels and longer ones are none", cutOf(10, 0), 0);
        due("24 a lintel and a whole one", cutOf(9, 0b000010000), 1);
        due("24 three of 2, three of 1", cutOf(9, 0b111010100), 3);
        due("24 three of 2, two of 1", cutOf(8, 0b11010100), 2);
        BondedWall x = wall(3, 4);
        x.lay(3, 0b110);
        due("24 all courses together", x.cut(), 3);
        x.price(3, -9);
        due("24 whatever they cost", x.cut(), 3);
    }

    private static int cutOf(int width, int joints) {
        BondedWall x = wall(width, 1);
        x.lay(0, joints);
        return x.cut();
    }

    private static void p25many() {
        BondedWall x = wall(9, 3);
        x.lap(2);
        x.open(0, 0b000000111);
        x.open(2, 0b100000000);
        x.lay(0, 0b000000110);
        x.lay(1, 0b010101010);
        int[] wants = {3, 9, 2, 4, 7, 6};
        for (int what = 0; what <= 5; what++) {
            due("25 many " + what, x.many(what), wants[what]);
        }
    }

    /** What is told is by how all is when it is asked: each change shows at once. */
    private static void nothingIsRemembered() {
        BondedWall x = wall(4, 2);
        due("now walls", x.walls(), 27);
        x.open(0, 8);
        due("after open", x.walls(), 0);
        x.open(0, 0);
        due("after open", x.walls(), 27);
        x.must(1, 1, 2);
        due("after must", x.walls(), 9);
        x.must(1, 1, 0);
        x.must(1, 0, 14);
        due("after must", x.walls(), 8);
        x.must(1, 0, 0);
        x.price(1, -9);
        due("after price", x.walls(), 3);
        x.price(1, 3);
        x.ends(1, 0, 16);
        due("after ends", x.walls(), 8);
        x.ends(1, 0, 126);
        x.lap(3);
        due("after lap", x.walls(), 15);
        x.lap(1);
        x.course();
        due("after course", x.walls(), 125);
        x.take();
        due("after take", x.walls(), 27);
        x.width(2);
        due("after width", x.walls(), 1);
    }
}
