import java.util.ArrayList;
import java.util.Arrays;
import java.util.List;

/**
 * The document once more, told as plainly as can be and without a thought of speed: pieces are
 * lists of cells, every set is tried against every rule, every pair of courses is compared.
 */
final class ReferenceWall {
    private static final int UNKNOWN = -1, OUTSIDE = -2, STATE = -3, FULL = -4, NONE = -9;

    private static final class Layer {
        boolean[] open = new boolean[10];
        boolean[] must = new boolean[10];
        boolean[] mayNot = new boolean[10];
        boolean[] laid = new boolean[10];
    }

    /** A right wall from some course up to the top: its cost and its sets of joints. */
    private record Upper(int cost, List<Integer> sets) {
        boolean isBefore(Upper other) {
            if (cost != other.cost) {
                return cost < other.cost;
            }
            for (int i = 0; i < sets.size(); i++) {
                if (!sets.get(i).equals(other.sets.get(i))) {
                    return sets.get(i) < other.sets.get(i);
                }
            }
            return false;
        }
    }

    private int width = 8;
    private int lap = 1;
    private final List<Layer> layers = new ArrayList<>();
    private final int[] prices = {0, 3, 2, 2, 0, 5, 6};
    private final int[][] ends = {{126, 126}, {126, 126}};

    private static int number(boolean[] set) {
        int n = 0;
        for (int i = 0; i < set.length; i++) {
            if (set[i]) {
                n += 1 << i;
            }
        }
        return n;
    }

    private static boolean[] setOf(int number) {
        boolean[] set = new boolean[10];
        for (int i = 0; i < 10; i++) {
            set[i] = (number / (1 << i)) % 2 == 1;
        }
        return set;
    }

    private boolean noCourse(int c) {
        return c < 0 || c >= layers.size();
    }

    private boolean noCells(int set) {
        return set < 0 || set >= 1 << width;
    }

    private boolean noPlaces(int set) {
        return noCells(set) || set % 2 == 1;
    }

    // ---- the rules

    /** First and last cell of each piece. */
    private List<int[]> piecesOf(Layer layer, boolean[] joints) {
        List<int[]> found = new ArrayList<>();
        for (int cell = 0; cell < width; cell++) {
            if (layer.open[cell]) {
                continue;
            }
            boolean goesOn = cell > 0 && !layer.open[cell - 1] && !joints[cell];
            if (goesOn) {
                found.get(found.size() - 1)[1] = cell;
            } else {
                found.add(new int[] {cell, cell});
            }
        }
        return found;
    }

    private static int lengthOf(int[] piece) {
        return piece[1] - piece[0] + 1;
    }

    private int priceOf(int length) {
        return length > 6 ? NONE : prices[length];
    }

    private boolean keepsRule(int rule, int c, boolean[] joints, boolean[] jointsBelow) {
        Layer layer = layers.get(c);
        for (int x = 1; x < width; x++) {
            if (rule == 1 && joints[x] && (layer.open[x - 1] || layer.open[x])) {
                return false;
            }
            if (rule == 2 && (layer.must[x] && !joints[x] || layer.mayNot[x] && joints[x])) {
                return false;
            }
            for (int y = 1; rule == 7 && c > 0 && y < width; y++) {
                if (joints[x] && jointsBelow[y] && Math.abs(x - y) < lap) {
                    return false;
                }
            }
        }
        for (int[] piece : piecesOf(layer, joints)) {
            if (!pieceKeepsRule(rule, c, piece)) {
                return false;
            }
        }
        return true;
    }

    private boolean pieceKeepsRule(int rule, int c, int[] piece) {
        int length = lengthOf(piece);
        switch (rule) {
            case 3:
                return priceOf(length) != NONE;
            case 4:
                if (piece[0] == 0 && !(length <= 6 && setOf(ends[c % 2][0])[length])) {
                    return false;
                }
                return piece[1] != width - 1 || length <= 6 && setOf(ends[c % 2][1])[length];
            case 5:
                return c == 0 || !layers.get(c - 1).open[piece[0]] && !layers.get(c - 1).open[piece[1]];
            case 6:
                boolean bridges = false;
                for (int cell = piece[0]; c > 0 && cell <= piece[1]; cell++) {
                    bridges |= layers.get(c - 1).open[cell];
                }
                return length != 5 && length != 6 || bridges;
            default:
                return true;
        }
    }

    private List<Integer> rowsOf(int c) {
        List<Integer> found = new ArrayList<>();
        for (int set = 0; set < 1 << width; set += 2) {
            boolean right = true;
            for (int rule = 1; rule <= 6 && right; rule++) {
                right = keepsRule(rule, c, setOf(set), null);
            }
            if (right) {
                found.add(set);
            }
        }
        return found;
    }

    private boolean near(int set, int other, int distance) {
        for (int x = 1; x < width; x++) {
            for (int y = Math.max(1, x - distance + 1); (set >> x) % 2 == 1 && y < x + distance; y++) {
                if ((other >> y) % 2 == 1) {
                    return true;
                }
            }
        }
        return false;
    }

    private int costOf(Layer layer, int set) {
        int sum = 0;
        for (int[] piece : piecesOf(layer, setOf(set))) {
            int price = priceOf(lengthOf(piece));
            sum += price == NONE ? 100 : price;
        }
        return sum;
    }

    /** Best of all right walls for a lap; null: there is none. */
    private Upper bestFor(int distance) {
        Upper[] over = new Upper[1 << width];
        Arrays.fill(over, null);
        for (int c = layers.size() - 1; c >= 0; c--) {
            Upper[] here = new Upper[1 << width];
            for (int set : rowsOf(c)) {
                here[set] = under(c, set, over, distance);
            }
            over = here;
        }
        if (layers.isEmpty()) {
            return new Upper(0, List.of());
        }
        Upper best = null;
        for (Upper one : over) {
            if (one != null && (best == null || one.isBefore(best))) {
                best = one;
            }
        }
        return best;
    }

    private Upper under(int c, int set, Upper[] over, int distance) {
        int own = costOf(layers.get(c), set);
        if (c == layers.size() - 1) {
            return new Upper(own, List.of(set));
        }
        Upper best = null;
        for (int other = 0; other < over.length; other++) {
            if (over[other] != null && !near(set, other, distance)) {
                if (best == null || over[other].isBefore(best)) {
                    best = over[other];
                }
            }
        }
        if (best == null) {
            return null;
        }
        List<Integer> sets = new ArrayList<>(List.of(set));
        sets.addAll(best.sets);
        return new Upper(own + best.cost, sets);
    }

    /** How many right walls the lowest courses can make. */
    private long wallsOf(int courses) {
        long[] ways = {1};
        List<Integer> below = List.of(0);
        for (int c = 0; c < courses; c++) {
            List<Integer> rows = rowsOf(c);
            long[] next = new long[rows.size()];
            for (int i = 0; i < next.length; i++) {
                for (int j = 0; j < ways.length; j++) {
                    if (!near(rows.get(i), below.get(j), lap)) {
                        next[i] += ways[j];
                    }
                }
            }
            ways = next;
            below = rows;
        }
        return Arrays.stream(ways).sum();
    }

    // ---- the calls

    int width(int n) {
        if (n < 2 || n > 10) {
            return OUTSIDE;
        }
        width = n;
        layers.clear();
        return 1;
    }

    int course() {
        if (layers.size() == 8) {
            return FULL;
        }
        layers.add(new Layer());
        return layers.size() - 1;
    }

    int take() {
        if (layers.isEmpty()) {
            return STATE;
        }
        layers.remove(layers.size() - 1);
        return layers.size();
    }

    int open(int c, int set) {
        if (noCourse(c)) {
            return UNKNOWN;
        }
        if (noCells(set)) {
            return OUTSIDE;
        }
        int before = number(layers.get(c).open);
        layers.get(c).open = setOf(set);
        return before;
    }

    int must(int c, int how, int set) {
        if (noCourse(c)) {
            return UNKNOWN;
        }
        if (how != 0 && how != 1 || noPlaces(set)) {
            return OUTSIDE;
        }
        Layer layer = layers.get(c);
        int before = number(how == 1 ? layer.must : layer.mayNot);
        if (how == 1) {
            layer.must = setOf(set);
        } else {
            layer.mayNot = setOf(set);
        }
        return before;
    }

    int price(int length, int v) {
        if (length < 1 || length > 6 || v != NONE && (v < 0 || v > 99)) {
            return OUTSIDE;
        }
        int before = prices[length];
        prices[length] = v;
        return before;
    }

    int lap(int v) {
        if (v < 1 || v > 3) {
            return OUTSIDE;
        }
        int before = lap;
        lap = v;
        return before;
    }

    int ends(int odd, int side, int set) {
        if (odd != 0 && odd != 1 || side != 0 && side != 1 || set < 0 || set > 126 || set % 2 == 1) {
            return OUTSIDE;
        }
        int before = ends[odd][side];
        ends[odd][side] = set;
        return before;
    }

    int ofCourse(int c, int what) {
        if (noCourse(c)) {
            return UNKNOWN;
        }
        Layer layer = layers.get(c);
        switch (what) {
            case 0:
                return number(layer.open);
            case 1:
                return number(layer.must);
            case 2:
                return number(layer.mayNot);
            case 3:
                int spans = 0;
                for (int cell = 0; cell < width; cell++) {
                    if (!layer.open[cell] && (cell == 0 || layer.open[cell - 1])) {
                        spans++;
                    }
                }
                return spans;
            case 4:
                return number(layer.laid);
            default:
                return OUTSIDE;
        }
    }

    int row(int c, int k) {
        if (noCourse(c)) {
            return UNKNOWN;
        }
        if (k < -1 || k > 511) {
            return OUTSIDE;
        }
        List<Integer> rows = rowsOf(c);
        if (k == -1) {
            return rows.size();
        }
        return k < rows.size() ? rows.get(k) : NONE;
    }

    long walls() {
        return wallsOf(layers.size());
    }

    int best() {
        Upper best = bestFor(lap);
        return best == null ? NONE : best.cost;
    }

    int bestRow(int c) {
        if (noCourse(c)) {
            return UNKNOWN;
        }
        Upper best = bestFor(lap);
        return best == null ? STATE : best.sets.get(c);
    }

    int bestOf(int length) {
        if (length < 1 || length > 6) {
            return OUTSIDE;
        }
        Upper best = bestFor(lap);
        if (best == null) {
            return STATE;
        }
        int n = 0;
        for (int c = 0; c < layers.size(); c++) {
            for (int[] piece : piecesOf(layers.get(c), setOf(best.sets.get(c)))) {
                n += lengthOf(piece) == length ? 1 : 0;
            }
        }
        return n;
    }

    int highest() {
        int h = 0;
        while (h < layers.size() && wallsOf(h + 1) > 0) {
            h++;
        }
        return h;
    }

    int byLap(int v) {
        if (v < 1 || v > 3) {
            return OUTSIDE;
        }
        Upper best = bestFor(v);
        return best == null ? NONE : best.cost;
    }

    int lay(int c, int joints) {
        if (noCourse(c)) {
            return UNKNOWN;
        }
        if (noPlaces(joints)) {
            return OUTSIDE;
        }
        int before = number(layers.get(c).laid);
        layers.get(c).laid = setOf(joints);
        return before;
    }

    int layBest() {
        Upper best = bestFor(lap);
        if (best == null) {
            return STATE;
        }
        for (int c = 0; c < layers.size(); c++) {
            layers.get(c).laid = setOf(best.sets.get(c));
        }
        return best.cost;
    }

    int wrong(int what) {
        if (what != 0 && what != 1) {
            return OUTSIDE;
        }
        for (int c = 0; c < layers.size(); c++) {
            for (int rule = 1; rule <= 7; rule++) {
                boolean[] below = c == 0 ? null : layers.get(c - 1).laid;
                if (!keepsRule(rule, c, layers.get(c).laid, below)) {
                    return what == 0 ? c : rule;
                }
            }
        }
        return NONE;
    }

    private List<Integer> laidLengths() {
        List<Integer> lengths = new ArrayList<>();
        for (Layer layer : layers) {
            for (int[] piece : piecesOf(layer, layer.laid)) {
                lengths.add(lengthOf(piece));
            }
        }
        return lengths;
    }

    int cost() {
        int sum = 0;
        for (Layer layer : layers) {
            sum += costOf(layer, number(layer.laid));
        }
        return sum;
    }

    int pieces(int length) {
        if (length < 1 || length > 10) {
            return OUTSIDE;
        }
        return (int) laidLengths().stream().filter(l -> l == length).count();
    }

    int piece(int c, int cell) {
        if (noCourse(c)) {
            return UNKNOWN;
        }
        if (cell < 0 || cell >= width) {
            return OUTSIDE;
        }
        for (int[] piece : piecesOf(layers.get(c), layers.get(c).laid)) {
            if (piece[0] <= cell && cell <= piece[1]) {
                return lengthOf(piece);
            }
        }
        return NONE;
    }

    int cut() {
        int[] left = new int[5];
        for (int length : laidLengths()) {
            if (length <= 4) {
                left[length]++;
            }
        }
        return fewest(left[1], left[2], left[3], left[4]);
    }

    /** Every way to cut one brick, tried over all numbers of pieces: packed[a][b][c] grows by one brick. */
    private static int fewest(int ones, int twos, int threes, int fours) {
        int[][][] packed = new int[ones + 1][twos + 1][threes + 1];
        int[][] ways = {{4, 0, 0}, {2, 1, 0}, {0, 2, 0}, {1, 0, 1}};
        for (int a = 0; a <= ones; a++) {
            for (int b = 0; b <= twos; b++) {
                for (int c = 0; c <= threes; c++) {
                    int least = a + b + c == 0 ? 0 : 1000;
                    for (int[] way : ways) {
                        int a1 = Math.max(0, a - way[0]);
                        int b1 = Math.max(0, b - way[1]);
                        int c1 = Math.max(0, c - way[2]);
                        if (a1 + b1 + c1 < a + b + c) {
                            least = Math.min(least, 1 + packed[a1][b1][c1]);
                        }
                    }
                    packed[a][b][c] = least;
                }
            }
        }
        return fours + packed[ones][twos][threes];
    }

    int many(int what) {
        int sum = 0;
        switch (what) {
            case 0:
                return layers.size();
            case 1:
                return width;
            case 2:
                return lap;
            case 3:
                for (Layer layer : layers) {
                    sum += Integer.bitCount(number(layer.open));
                }
                return sum;
            case 4:
                return laidLengths().size();
            case 5:
                for (Layer layer : layers) {
                    sum += Integer.bitCount(number(layer.laid));
                }
                return sum;
            default:
                return OUTSIDE;
        }
    }
}
