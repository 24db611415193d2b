import java.util.Random;

/** Runs of 512 calls by fixed seeds, each answered by BondedWall and by the plain reference. */
public final class ReferenceTest {
    private static final int RUNS = 240;
    private static final int CALLS = 512;
    private static final String[] NAMES = {
        "width", "course", "take", "open", "must", "price", "lap", "ends", "ofCourse", "row", "walls",
        "best", "bestRow", "bestOf", "highest", "byLap", "lay", "layBest", "wrong", "cost", "pieces",
        "piece", "cut", "many"
    };
    /** How often each call comes, so that walls stand long enough to be asked. */
    private static final int[] WEIGHTS = {
        1, 8, 2, 8, 6, 4, 3, 4, 8, 12, 8, 8, 12, 8, 8, 6, 12, 4, 12, 6, 8, 8, 6, 8
    };

    private final Check check;
    private final Random random;
    private final BondedWall wall = new BondedWall();
    private final ReferenceWall reference = new ReferenceWall();
    /** Seldom wrong numbers in most runs. */
    private final int wrongOneIn;
    /** A mild run asks little of its courses, so that most of its walls can be. */
    private final boolean mild;
    private final int leastWidth;
    private final int mostCourses;

    private ReferenceTest(Check check, long seed) {
        this.check = check;
        random = new Random(seed);
        wrongOneIn = seed % 3 == 0 ? 6 : 40;
        mild = seed % 2 == 1;
        boolean large = seed % 8 == 7;
        leastWidth = large ? 8 : 2;
        mostCourses = large ? 8 : 5;
    }

    public static void main(String[] args) {
        Check check = new Check();
        for (long seed = 0; seed < RUNS && !check.hasFailed(); seed++) {
            new ReferenceTest(check, seed).run(seed);
        }
        check.end();
    }

    private void run(long seed) {
        due("run " + seed + " width", 0, new int[] {between(leastWidth, 10), 0, 0});
        for (int call = 1; call < CALLS && !check.hasFailed(); call++) {
            int which = pick();
            int[] numbers = numbersFor(which);
            String told = "run " + seed + " call " + call + ": " + NAMES[which] + " "
                    + numbers[0] + ", " + numbers[1] + ", " + numbers[2];
            due(told, which, numbers);
        }
    }

    private int pick() {
        int sum = 0;
        for (int weight : WEIGHTS) {
            sum += weight;
        }
        int at = random.nextInt(sum);
        int which = 0;
        while (at >= WEIGHTS[which]) {
            at -= WEIGHTS[which];
            which++;
        }
        boolean tooMany = which == 1 && reference.many(0) >= mostCourses && !isWrong();
        boolean tooSoon = which == 0 && random.nextInt(4) != 0;
        boolean tooHard = mild && which >= 4 && which <= 7 && random.nextInt(3) != 0;
        return tooMany || tooSoon || tooHard ? 11 + random.nextInt(8) : which;
    }

    private boolean isWrong() {
        return random.nextInt(wrongOneIn) == 0;
    }

    private int between(int low, int high) {
        if (isWrong()) {
            int[] off = {low - 1, high + 1, -1, Integer.MIN_VALUE, Integer.MAX_VALUE, low + 32, high - 32};
            return off[random.nextInt(off.length)];
        }
        return low + random.nextInt(high - low + 1);
    }

    private int aCourse() {
        return between(0, Math.max(0, reference.many(0) - 1));
    }

    /** A set with few or many bits out of those that are allowed. */
    private int aSet(int allowed, int density) {
        int set = allowed;
        for (int i = 0; i < density; i++) {
            set &= random.nextInt();
        }
        return isWrong() ? set | 1 << random.nextInt(32) : set;
    }

    /** In mild runs some cells side by side away from the ends, or the opening of the course below. */
    private int anOpening(int c) {
        if (!mild) {
            return aSet(cells(), 1 + random.nextInt(4));
        }
        int below = reference.ofCourse(c - 1, 0);
        if (below >= 0 && random.nextBoolean()) {
            return below;
        }
        int broad = random.nextInt(5);
        int from = 1 + random.nextInt(8);
        return ((1 << from + broad) - (1 << from)) & cells() >> 1;
    }

    private int aPrice() {
        if (random.nextInt(mild ? 12 : 5) == 0) {
            return -9;
        }
        return between(0, random.nextInt(3) == 0 ? 99 : 3);
    }

    private int anEnd() {
        int set = random.nextInt(2) == 0 ? 126 : 126 & ~(random.nextInt() & random.nextInt());
        return isWrong() ? random.nextInt(256) : set;
    }

    private int aRow(int c) {
        int rows = reference.row(c, -1);
        return rows > 0 && random.nextInt(3) > 0 ? reference.row(c, random.nextInt(rows)) : aSet(places(), 2);
    }

    private int cells() {
        return (1 << reference.many(1)) - 1;
    }

    private int places() {
        return cells() & ~1;
    }

    private int[] numbersFor(int which) {
        int c = aCourse();
        switch (NAMES[which]) {
            case "width":
                return new int[] {between(leastWidth, 10), 0, 0};
            case "open":
                return new int[] {c, anOpening(c), 0};
            case "must":
                return new int[] {c, between(0, 1), aSet(places(), 3 + random.nextInt(3))};
            case "price":
                return new int[] {between(1, 6), aPrice(), 0};
            case "lap":
            case "byLap":
                return new int[] {between(1, 3), 0, 0};
            case "ends":
                return new int[] {between(0, 1), between(0, 1), anEnd()};
            case "ofCourse":
                return new int[] {c, between(0, 4), 0};
            case "row":
                return new int[] {c, random.nextInt(4) == 0 ? -1 : between(0, random.nextBoolean() ? 20 : 511), 0};
            case "lay":
                return new int[] {c, aRow(c), 0};
            case "bestOf":
                return new int[] {between(1, 6), 0, 0};
            case "pieces":
                return new int[] {between(1, 10), 0, 0};
            case "piece":
                return new int[] {c, between(0, reference.many(1) - 1), 0};
            case "wrong":
                return new int[] {between(0, 1), 0, 0};
            case "many":
                return new int[] {between(0, 5), 0, 0};
            default:
                return new int[] {c, 0, 0};
        }
    }

    private void due(String told, int which, int[] n) {
        check.due(told, ofWall(which, n[0], n[1], n[2]), ofReference(which, n[0], n[1], n[2]));
    }

    private long ofWall(int which, int a, int b, int c) {
        switch (NAMES[which]) {
            case "width": return wall.width(a);
            case "course": return wall.course();
            case "take": return wall.take();
            case "open": return wall.open(a, b);
            case "must": return wall.must(a, b, c);
            case "price": return wall.price(a, b);
            case "lap": return wall.lap(a);
            case "ends": return wall.ends(a, b, c);
            case "ofCourse": return wall.ofCourse(a, b);
            case "row": return wall.row(a, b);
            case "walls": return wall.walls();
            case "best": return wall.best();
            case "bestRow": return wall.bestRow(a);
            case "bestOf": return wall.bestOf(a);
            case "highest": return wall.highest();
            case "byLap": return wall.byLap(a);
            case "lay": return wall.lay(a, b);
            case "layBest": return wall.layBest();
            case "wrong": return wall.wrong(a);
            case "cost": return wall.cost();
            case "pieces": return wall.pieces(a);
            case "piece": return wall.piece(a, b);
            case "cut": return wall.cut();
            default: return wall.many(a);
        }
    }

    private long ofReference(int which, int a, int b, int c) {
        switch (NAMES[which]) {
            case "width": return reference.width(a);
            case "course": return reference.course();
            case "take": return reference.take();
            case "open": return reference.open(a, b);
            case "must": return reference.must(a, b, c);
            case "price": return reference.price(a, b);
            case "lap": return reference.lap(a);
            case "ends": return reference.ends(a, b, c);
            case "ofCourse": return reference.ofCourse(a, b);
            case "row": return reference.row(a, b);
            case "walls": return reference.walls();
            case "best": return reference.best();
            case "bestRow": return reference.bestRow(a);
            case "bestOf": return reference.bestOf(a);
            case "highest": return reference.highest();
            case "byLap": return reference.byLap(a);
            case "lay": return reference.lay(a, b);
            case "layBest": return reference.layBest();
            case "wrong": return reference.wrong(a);
            case "cost": return reference.cost();
            case "pieces": return reference.pieces(a);
            case "piece": return reference.piece(a, b);
            case "cut": return reference.cut();
            default: return reference.many(a);
        }
    }
}
