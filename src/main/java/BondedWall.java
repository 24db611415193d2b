import java.util.Arrays;

/**
 * A wall of bricks: what each course can be, how many walls there are, the one that costs least,
 * and a wall laid by hand with what is wrong in it.
 *
 * <p>Sets are ints, bit k for number k. A refusal is answered as a negative constant and changes
 * nothing.
 */
public final class BondedWall {
    public static final int UNKNOWN = -1, OUTSIDE = -2, STATE = -3, FULL = -4, NONE = -9;
    public static final long LOST = Long.MIN_VALUE;

    private static final int LEAST_WIDTH = 2;
    private static final int MOST_WIDTH = 10;
    private static final int FIRST_WIDTH = 8;
    private static final int MOST_COURSES = 8;
    /** Sets of the places 1 .. 9 of the widest wall. */
    private static final int MOST_SETS = 512;
    private static final int LONGEST = 6;
    private static final int WHOLE = 4;
    /** Bits 1 to 6. */
    private static final int ALL_LENGTHS = 126;
    private static final int MOST_PRICE = 99;
    private static final int COST_WITHOUT_PRICE = 100;
    private static final int MOST_LAP = 3;
    /** A cost far above that of any wall, for what breaks a rule; two of them still fit an int. */
    private static final int NEVER = 1000000;
    private static final int[] FIRST_PRICES = {NONE, 3, 2, 2, 0, 5, 6};

    private final Wall wall;
    private final Rows rows;
    private final Count count;
    private final Plan plan;
    private final Tally tally;

    public BondedWall() {
        wall = new Wall();
        rows = new Rows(wall);
        count = new Count(wall, rows);
        plan = new Plan(wall, rows);
        tally = new Tally();
    }

    // ---- 1 the wall

    public int width(int n) {
        if (n < LEAST_WIDTH || n > MOST_WIDTH) {
            return OUTSIDE;
        }
        wall.cellsWide = n;
        wall.height = 0;
        forgetWhatCanBe();
        return 1;
    }

    public int course() {
        if (wall.height >= MOST_COURSES) {
            return FULL;
        }
        int c = wall.height;
        wall.height = c + 1;
        wall.at(c).clear();
        forgetWhatCanBe();
        return c;
    }

    public int take() {
        if (wall.height <= 0) {
            return STATE;
        }
        wall.height--;
        forgetWhatCanBe();
        return wall.height;
    }

    public int open(int c, int set) {
        if (!wall.has(c)) {
            return UNKNOWN;
        }
        if ((set & ~wall.cells()) != 0) {
            return OUTSIDE;
        }
        Course course = wall.at(c);
        int before = course.opened;
        course.opened = set;
        forgetWhatCanBe();
        return before;
    }

    public int must(int c, int how, int set) {
        if (!wall.has(c)) {
            return UNKNOWN;
        }
        if (how < 0 || how > 1 || (set & ~wall.places()) != 0) {
            return OUTSIDE;
        }
        Course course = wall.at(c);
        int before;
        if (how == 1) {
            before = course.demanded;
            course.demanded = set;
        } else {
            before = course.barred;
            course.barred = set;
        }
        forgetWhatCanBe();
        return before;
    }

    public int price(int length, int v) {
        boolean isPrice = v == NONE || v >= 0 && v <= MOST_PRICE;
        if (length < 1 || length > LONGEST || !isPrice) {
            return OUTSIDE;
        }
        int before = wall.bricks.priceOf(length);
        wall.bricks.prices[length] = v;
        forgetWhatCanBe();
        return before;
    }

    public int lap(int v) {
        if (v < 1 || v > MOST_LAP) {
            return OUTSIDE;
        }
        int before = wall.overlap;
        wall.overlap = v;
        return before;
    }

    public int ends(int odd, int side, int set) {
        if (odd < 0 || odd > 1 || side < 0 || side > 1 || (set & ~ALL_LENGTHS) != 0) {
            return OUTSIDE;
        }
        int[] lengths = wall.bricks.endLengths[odd];
        int before = lengths[side];
        lengths[side] = set;
        forgetWhatCanBe();
        return before;
    }

    public int ofCourse(int c, int what) {
        if (!wall.has(c)) {
            return UNKNOWN;
        }
        Course course = wall.at(c);
        switch (what) {
            case 0:
                return course.opened;
            case 1:
                return course.demanded;
            case 2:
                return course.barred;
            case 3:
                return spansOf(course);
            case 4:
                return course.laid;
            default:
                return OUTSIDE;
        }
    }

    // ---- 2 what can be

    public int row(int c, int k) {
        if (!wall.has(c)) {
            return UNKNOWN;
        }
        if (k < -1 || k >= MOST_SETS) {
            return OUTSIDE;
        }
        rows.renew();
        return k == -1 ? rows.howMany(c) : rows.jointsOf(c, k);
    }

    public long walls() {
        count.renew(wall.overlap);
        return count.rightWalls;
    }

    public int best() {
        plan.renew(wall.overlap);
        return plan.isNone() ? NONE : plan.leastCost;
    }

    public int bestRow(int c) {
        if (!wall.has(c)) {
            return UNKNOWN;
        }
        plan.renew(wall.overlap);
        return plan.isNone() ? STATE : plan.jointsOf(c);
    }

    public int bestOf(int length) {
        if (length < 1 || length > LONGEST) {
            return OUTSIDE;
        }
        plan.renew(wall.overlap);
        if (plan.isNone()) {
            return STATE;
        }
        tally.clear();
        for (int c = 0; c < wall.height; c++) {
            wall.addPieces(wall.at(c), plan.jointsOf(c), tally);
        }
        return tally.of(length);
    }

    public int highest() {
        count.renew(wall.overlap);
        return count.rightCourses;
    }

    public int byLap(int v) {
        if (v < 1 || v > MOST_LAP) {
            return OUTSIDE;
        }
        plan.renew(v);
        return plan.isNone() ? NONE : plan.leastCost;
    }

    // ---- 3 the wall laid by hand

    public int lay(int c, int joints) {
        if (!wall.has(c)) {
            return UNKNOWN;
        }
        if ((joints & ~wall.places()) != 0) {
            return OUTSIDE;
        }
        Course course = wall.at(c);
        int before = course.laid;
        course.laid = joints;
        return before;
    }

    public int layBest() {
        plan.renew(wall.overlap);
        if (plan.isNone()) {
            return STATE;
        }
        for (int c = 0; c < wall.height; c++) {
            wall.at(c).laid = plan.jointsOf(c);
        }
        return plan.leastCost;
    }

    public int wrong(int what) {
        if (what < 0 || what > 1) {
            return OUTSIDE;
        }
        for (int c = 0; c < wall.height; c++) {
            int rule = wall.ruleBrokenIn(c);
            if (rule != 0) {
                return what == 0 ? c : rule;
            }
        }
        return NONE;
    }

    public int cost() {
        tallyLaid();
        return tally.costBy(wall.bricks);
    }

    public int pieces(int length) {
        if (length < 1 || length > MOST_WIDTH) {
            return OUTSIDE;
        }
        tallyLaid();
        return tally.of(length);
    }

    public int piece(int c, int cell) {
        if (!wall.has(c)) {
            return UNKNOWN;
        }
        if (cell < 0 || cell >= wall.cellsWide) {
            return OUTSIDE;
        }
        Course course = wall.at(c);
        return course.isOpen(cell) ? NONE : wall.lengthAround(course, cell);
    }

    public int cut() {
        tallyLaid();
        return tally.wholeBricks();
    }

    public int many(int what) {
        switch (what) {
            case 0:
                return wall.height;
            case 1:
                return wall.cellsWide;
            case 2:
                return wall.overlap;
            case 3:
                return openCells();
            case 4:
                tallyLaid();
                return tally.total();
            case 5:
                return laidJoints();
            default:
                return OUTSIDE;
        }
    }

    // ---- what the calls share

    private void forgetWhatCanBe() {
        rows.forget();
        count.forget();
        plan.forget();
    }

    private void tallyLaid() {
        tally.clear();
        for (int c = 0; c < wall.height; c++) {
            Course course = wall.at(c);
            wall.addPieces(course, course.laid, tally);
        }
    }

    /** Without joints each span is one piece. */
    private int spansOf(Course course) {
        tally.clear();
        wall.addPieces(course, 0, tally);
        return tally.total();
    }

    private int openCells() {
        int sum = 0;
        for (int c = 0; c < wall.height; c++) {
            sum += Integer.bitCount(wall.at(c).opened);
        }
        return sum;
    }

    private int laidJoints() {
        int sum = 0;
        for (int c = 0; c < wall.height; c++) {
            sum += Integer.bitCount(wall.at(c).laid);
        }
        return sum;
    }

    /** The prices of the lengths, and the lengths that may stand at the ends of a course. */
    private static final class Bricks {
        final int[] prices = FIRST_PRICES.clone();
        /** Of even (0) and odd (1) courses the sets for cell 0 (0) and for the other end (1). */
        final int[][] endLengths = {{ALL_LENGTHS, ALL_LENGTHS}, {ALL_LENGTHS, ALL_LENGTHS}};

        int priceOf(int length) {
            return length < 1 || length > LONGEST ? NONE : prices[length];
        }

        boolean mayEnd(int c, int side, int length) {
            return (endLengths[c & 1][side & 1] >> length & 1) != 0;
        }
    }

    private static final class Course {
        int opened;
        int demanded;
        int barred;
        int laid;

        void clear() {
            opened = 0;
            demanded = 0;
            barred = 0;
            laid = 0;
        }

        boolean isOpen(int cell) {
            return (opened >> cell & 1) != 0;
        }

        /** The places beside open cells: no joint there is within a span. */
        int besideOpen() {
            return opened | opened << 1;
        }

        boolean keepsWithinSpans(int joints) {
            return (joints & besideOpen()) == 0;
        }

        boolean keepsDemands(int joints) {
            return (joints & demanded) == demanded && (joints & barred) == 0;
        }
    }

    /** How many pieces there are of each length. */
    private static final class Tally {
        final int[] byLength = new int[MOST_WIDTH + 1];

        void clear() {
            Arrays.fill(byLength, 0);
        }

        void add(int length) {
            if (length >= 0 && length < byLength.length) {
                byLength[length]++;
            }
        }

        int of(int length) {
            return length < 0 || length >= byLength.length ? 0 : byLength[length];
        }

        int total() {
            int sum = 0;
            for (int n : byLength) {
                sum += n;
            }
            return sum;
        }

        int costBy(Bricks bricks) {
            int sum = 0;
            for (int length = 1; length < byLength.length; length++) {
                int each = bricks.priceOf(length);
                sum += byLength[length] * (each == NONE ? COST_WITHOUT_PRICE : each);
            }
            return sum;
        }

        /**
         * A piece of 3 leaves room for a single cell alone, two of 2 fill a brick: so nothing is
         * lost if the single cells go last, first into what the others leave.
         */
        int wholeBricks() {
            int threes = of(3);
            int twos = of(2);
            int bricksBegun = of(WHOLE) + threes + (twos + 1) / 2;
            int roomLeft = threes + twos % 2 * 2;
            int singlesLeft = Math.max(0, of(1) - roomLeft);
            return bricksBegun + (singlesLeft + WHOLE - 1) / WHOLE;
        }
    }

    /** The courses as they are, and the rules for one course. */
    private static final class Wall {
        final Bricks bricks = new Bricks();
        final Course[] courses = new Course[MOST_COURSES];
        /** Lies below the lowest course, without open cells or joints: so no rule needs a case for it. */
        final Course ground = new Course();
        int cellsWide = FIRST_WIDTH;
        int height = 0;
        int overlap = 1;

        Wall() {
            for (int c = 0; c < courses.length; c++) {
                courses[c] = new Course();
            }
        }

        boolean has(int c) {
            return c >= 0 && c < height;
        }

        Course at(int c) {
            boolean isGround = c < 0 || c >= height || c >= courses.length;
            return isGround ? ground : courses[c];
        }

        int cells() {
            return (1 << cellsWide) - 1;
        }

        int places() {
            return cells() & ~1;
        }

        /** How many sets of places there are. */
        int sets() {
            return Math.min(MOST_SETS, 1 << (cellsWide - 1));
        }

        /** Places where a piece or an open cell ends; a joint beside an open cell adds none. */
        private int bounds(Course course, int joints) {
            return joints | course.besideOpen() | 1 << cellsWide;
        }

        void addPieces(Course course, int joints, Tally tally) {
            int bounds = bounds(course, joints);
            int from = 0;
            for (int to = 1; to <= cellsWide; to++) {
                if ((bounds >> to & 1) != 0) {
                    if (!course.isOpen(from)) {
                        tally.add(to - from);
                    }
                    from = to;
                }
            }
        }

        int lengthAround(Course course, int cell) {
            int bounds = bounds(course, course.laid);
            int from = cell;
            while (from > 0 && (bounds >> from & 1) == 0) {
                from--;
            }
            int to = cell + 1;
            while (to < cellsWide && (bounds >> to & 1) == 0) {
                to++;
            }
            return to - from;
        }

        /** The first rule that a course breaks as it is laid, 0 if none. */
        int ruleBrokenIn(int c) {
            Course course = at(c);
            int joints = course.laid;
            if (!course.keepsWithinSpans(joints)) {
                return 1;
            }
            if (!course.keepsDemands(joints)) {
                return 2;
            }
            int rule = ruleBrokenByPieces(c, joints);
            if (rule != 0) {
                return rule;
            }
            return (joints & near(at(c - 1).laid, overlap)) != 0 ? 7 : 0;
        }

        /** The least rule counts, not the leftmost piece. */
        private int ruleBrokenByPieces(int c, int joints) {
            Course course = at(c);
            int bounds = bounds(course, joints);
            int first = 0;
            int from = 0;
            for (int to = 1; to <= cellsWide; to++) {
                if ((bounds >> to & 1) != 0) {
                    int rule = course.isOpen(from) ? 0 : ruleBrokenByPiece(c, from, to);
                    if (rule != 0 && (first == 0 || rule < first)) {
                        first = rule;
                    }
                    from = to;
                }
            }
            return first;
        }

        /** Of rules 3 to 6 the first that the piece between two places breaks, 0 if none. */
        private int ruleBrokenByPiece(int c, int from, int to) {
            int length = to - from;
            if (bricks.priceOf(length) == NONE) {
                return 3;
            }
            boolean wrongLeft = from == 0 && !bricks.mayEnd(c, 0, length);
            boolean wrongRight = to == cellsWide && !bricks.mayEnd(c, 1, length);
            if (wrongLeft || wrongRight) {
                return 4;
            }
            Course below = at(c - 1);
            if (below.isOpen(from) || below.isOpen(to - 1)) {
                return 5;
            }
            int cellsOfPiece = (1 << to) - (1 << from);
            if (length > WHOLE && (below.opened & cellsOfPiece) == 0) {
                return 6;
            }
            return 0;
        }

        /** Cost of all pieces between two places, NEVER if one breaks a rule of 3 to 6. */
        int costBetween(int c, int low, int high) {
            Course course = at(c);
            int bounds = bounds(course, 1 << high);
            int sum = 0;
            int from = low;
            for (int to = low + 1; to <= high; to++) {
                if ((bounds >> to & 1) != 0) {
                    if (!course.isOpen(from)) {
                        if (ruleBrokenByPiece(c, from, to) != 0) {
                            return NEVER;
                        }
                        sum += bricks.priceOf(to - from);
                    }
                    from = to;
                }
            }
            return sum;
        }

        /** Places less than a lap away from joints. */
        static int near(int joints, int lap) {
            int places = joints;
            for (int away = 1; away < lap; away++) {
                places |= joints << away | joints >> away;
            }
            return places;
        }
    }

    /**
     * What each course can be by rules 1 to 6. Set i has the joints i << 1 (there is no place 0), so
     * that sets stand in the order of their numbers.
     */
    private static final class Rows {
        final Wall wall;
        /** Of each course the cost of each set; NEVER: it is not right. */
        final int[][] costs = new int[MOST_COURSES][MOST_SETS];
        boolean fresh = false;

        Rows(Wall wall) {
            this.wall = wall;
        }

        void forget() {
            fresh = false;
        }

        void renew() {
            if (fresh) {
                return;
            }
            for (int c = 0; c < wall.height && c < costs.length; c++) {
                sumLeftOfHighest(c, costs[c]);
                closeRight(c, costs[c]);
            }
            fresh = true;
        }

        /** The first set whose highest joint is at a place; 0 for the set without joints. */
        private static int firstWith(int place) {
            return (1 << place) >> 1;
        }

        /** Costs left of the highest joint: those of the set without it, and what lies between. */
        private void sumLeftOfHighest(int c, int[] sums) {
            sums[0] = 0;
            for (int high = 1; high < wall.cellsWide; high++) {
                int added = firstWith(high);
                for (int low = 0; low < high; low++) {
                    int between = wall.costBetween(c, low, high);
                    for (int i = firstWith(low); i < firstWith(low + 1); i++) {
                        if (i + added < sums.length) {
                            sums[i + added] = Math.min(NEVER, sums[i] + between);
                        }
                    }
                }
            }
        }

        /** Adds what lies right of the highest joint, and drops the sets that break rules 1 or 2. */
        private void closeRight(int c, int[] sums) {
            Course course = wall.at(c);
            for (int low = 0; low < wall.cellsWide; low++) {
                int rest = wall.costBetween(c, low, wall.cellsWide);
                for (int i = firstWith(low); i < firstWith(low + 1) && i < sums.length; i++) {
                    int joints = i << 1;
                    boolean keeps = course.keepsWithinSpans(joints) && course.keepsDemands(joints);
                    sums[i] = keeps ? Math.min(NEVER, sums[i] + rest) : NEVER;
                }
            }
        }

        int costOf(int c, int set) {
            boolean known = c >= 0 && c < costs.length && set >= 0 && set < MOST_SETS;
            return known ? costs[c][set] : NEVER;
        }

        int howMany(int c) {
            int n = 0;
            int sets = wall.sets();
            for (int i = 0; i < sets; i++) {
                if (costOf(c, i) < NEVER) {
                    n++;
                }
            }
            return n;
        }

        int jointsOf(int c, int k) {
            int n = 0;
            int sets = wall.sets();
            for (int i = 0; i < sets; i++) {
                if (costOf(c, i) < NEVER) {
                    if (n == k) {
                        return i << 1;
                    }
                    n++;
                }
            }
            return NONE;
        }

        /** The set of all places where a course over or under a set may have joints by rule 7. */
        int apartFrom(int set, int lap) {
            return ~Wall.near(set, lap) & (wall.sets() - 1);
        }
    }

    /** How many walls are right, counted from the lowest course on. */
    private static final class Count {
        final Wall wall;
        final Rows rows;
        /** Right walls so far whose highest course has all its joints within a set. */
        final long[] within = new long[MOST_SETS];
        /** Right walls so far whose highest course has just the joints of a set. */
        final long[] just = new long[MOST_SETS];
        /** The lap that the numbers are for, 0 if for none. */
        int countedLap = 0;
        long rightWalls = 1;
        int rightCourses = 0;

        Count(Wall wall, Rows rows) {
            this.wall = wall;
            this.rows = rows;
        }

        void forget() {
            countedLap = 0;
        }

        void renew(int lap) {
            if (countedLap == lap) {
                return;
            }
            rows.renew();
            Arrays.fill(within, 1L);
            rightWalls = 1;
            rightCourses = 0;
            for (int c = 0; c < wall.height; c++) {
                rightWalls = addCourse(c, lap);
                if (rightWalls > 0) {
                    rightCourses++;
                }
            }
            countedLap = lap;
        }

        private long addCourse(int c, int lap) {
            int sets = wall.sets();
            for (int i = 0; i < sets; i++) {
                just[i] = rows.costOf(c, i) < NEVER ? within[rows.apartFrom(i, lap)] : 0;
            }
            System.arraycopy(just, 0, within, 0, sets);
            sumSubsets(sets);
            return within[sets - 1];
        }

        /** Place by place, each set with the place takes in the one without it. */
        private void sumSubsets(int sets) {
            for (int bit = 1; bit < sets; bit <<= 1) {
                for (int i = 0; i < sets; i++) {
                    if ((i & bit) != 0) {
                        within[i] += within[i ^ bit];
                    }
                }
            }
        }
    }

    /** The wall that costs least, weighed from the highest course down, chosen from the lowest up. */
    private static final class Plan {
        final Wall wall;
        final Rows rows;
        /** Least cost of a course with just the joints of a set and all courses over it. */
        final int[][] just = new int[MOST_COURSES][MOST_SETS];
        /** Least cost of the courses so far if the lowest of them has all its joints within a set. */
        final int[] within = new int[MOST_SETS];
        final int[] chosen = new int[MOST_COURSES];
        /** The lap that the plan is for, 0 if for none. */
        int plannedLap = 0;
        int leastCost = 0;

        Plan(Wall wall, Rows rows) {
            this.wall = wall;
            this.rows = rows;
        }

        void forget() {
            plannedLap = 0;
        }

        boolean isNone() {
            return leastCost >= NEVER;
        }

        int jointsOf(int c) {
            return c < 0 || c >= chosen.length ? 0 : chosen[c] << 1;
        }

        void renew(int lap) {
            if (plannedLap == lap) {
                return;
            }
            rows.renew();
            Arrays.fill(within, 0);
            for (int c = Math.min(wall.height, just.length) - 1; c >= 0; c--) {
                weighCourse(c, just[c], lap);
            }
            leastCost = within[wall.sets() - 1];
            choose(lap);
            plannedLap = lap;
        }

        private void weighCourse(int c, int[] costs, int lap) {
            int sets = wall.sets();
            for (int i = 0; i < sets; i++) {
                int own = rows.costOf(c, i);
                costs[i] = Math.min(NEVER, own + within[rows.apartFrom(i, lap)]);
            }
            System.arraycopy(costs, 0, within, 0, sets);
            takeLeastOfSubsets(sets);
        }

        /** Place by place, each set with the place takes the one without it where that costs less. */
        private void takeLeastOfSubsets(int sets) {
            for (int bit = 1; bit < sets; bit <<= 1) {
                for (int i = 0; i < sets; i++) {
                    if ((i & bit) != 0) {
                        within[i] = Math.min(within[i], within[i ^ bit]);
                    }
                }
            }
        }

        /** The first set of the least cost, course by course, is the first of all such walls. */
        private void choose(int lap) {
            int allowed = wall.sets() - 1;
            for (int c = 0; c < wall.height && c < just.length; c++) {
                chosen[c] = cheapest(just[c], allowed);
                allowed = rows.apartFrom(chosen[c], lap);
            }
        }

        private int cheapest(int[] costs, int allowed) {
            int found = 0;
            int least = NEVER;
            int sets = wall.sets();
            for (int i = 0; i < sets; i++) {
                if ((i & ~allowed) == 0 && costs[i] < least) {
                    found = i;
                    least = costs[i];
                }
            }
            return found;
        }
    }
}
