import java.math.BigInteger;
import java.util.ArrayList;
import java.util.Arrays;
import java.util.HashMap;
import java.util.HashSet;
import java.util.List;
import java.util.Map;
import java.util.Set;
import java.util.TreeSet;

/**
 * The document's words taken one by one, without regard to speed: ways to lay players are compared by trying all
 * exchanges, and chances by going through all outcomes of all matches. It shares nothing with the program.
 */
final class Oracle {
    static final int UNKNOWN = -1, OUTSIDE = -2, STATE = -3, NONE = -9;
    private static final Map<String, List<int[]>> WAYS = new HashMap<>();

    /** A match with its two sides, each a match (left, right) or a place (leftPlace, rightPlace). */
    private static final class Node {
        int number;
        int round;
        int place = -1;
        Node left;
        Node right;
        Node above;

        boolean isPlace() {
            return place >= 0;
        }
    }

    private int players = 2;
    private int size = 8;
    private final int[][] chance = new int[8][8];
    private final int[][] apart = new int[8][8];
    private int[] places;
    private Map<Integer, Integer> winners = new HashMap<>();
    private Node[] leaves;
    private Node[] matches;
    private List<int[]> allowed;

    Oracle() {
        players(2);
        cup(8);
    }

    private boolean isPlayer(int p) {
        return p >= 0 && p < players;
    }

    private boolean isMatch(int m) {
        return m >= 0 && m < matches.length;
    }

    int players(int n) {
        if (n < 2 || n > 8) {
            return OUTSIDE;
        }
        int before = players;
        players = n;
        for (int a = 0; a < 8; a++) {
            Arrays.fill(chance[a], 6);
            Arrays.fill(apart[a], 1);
        }
        empty();
        return before;
    }

    private void empty() {
        places = new int[size];
        Arrays.fill(places, NONE);
        winners.clear();
        allowed = null;
    }

    int chance(int a, int b, int k) {
        if (!isPlayer(a) || !isPlayer(b)) {
            return UNKNOWN;
        }
        if (k < 0 || k > 12) {
            return OUTSIDE;
        }
        if (a == b) {
            return STATE;
        }
        int before = chance[a][b];
        chance[a][b] = k;
        chance[b][a] = 12 - k;
        return before;
    }

    int apart(int a, int b, int round) {
        if (!isPlayer(a) || !isPlayer(b)) {
            return UNKNOWN;
        }
        if (round < 1 || round > 3) {
            return OUTSIDE;
        }
        if (a == b) {
            return STATE;
        }
        int before = apart[a][b];
        apart[a][b] = round;
        apart[b][a] = round;
        allowed = null;
        return before;
    }

    int cup(int newSize) {
        if (newSize != 2 && newSize != 4 && newSize != 8) {
            return OUTSIDE;
        }
        int before = size;
        size = newSize;
        buildTree();
        empty();
        return before;
    }

    private void buildTree() {
        leaves = new Node[size];
        matches = new Node[size - 1];
        List<Node> level = new ArrayList<>();
        for (int place = 0; place < size; place++) {
            leaves[place] = new Node();
            leaves[place].place = place;
            level.add(leaves[place]);
        }
        int next = 0;
        for (int round = 1; level.size() > 1; round++) {
            List<Node> upper = new ArrayList<>();
            for (int k = 0; k + 1 < level.size(); k += 2) {
                Node match = new Node();
                match.number = next;
                match.round = round;
                match.left = level.get(k);
                match.right = level.get(k + 1);
                match.left.above = match;
                match.right.above = match;
                matches[next++] = match;
                upper.add(match);
            }
            level = upper;
        }
    }

    private Node last() {
        return matches[matches.length - 1];
    }

    int put(int place, int player) {
        if (place < 0 || place >= size || player != NONE && !isPlayer(player)) {
            return UNKNOWN;
        }
        for (int other = 0; other < size; other++) {
            if (player != NONE && other != place && places[other] == player) {
                return STATE;
            }
        }
        int before = places[place];
        places[place] = player;
        winners.clear();
        return before;
    }

    int at(int place) {
        return place < 0 || place >= size ? UNKNOWN : places[place];
    }

    private Set<Integer> below(Node node) {
        Set<Integer> found = new HashSet<>();
        if (node.isPlace()) {
            if (places[node.place] != NONE) {
                found.add(places[node.place]);
            }
        } else {
            found.addAll(below(node.left));
            found.addAll(below(node.right));
        }
        return found;
    }

    private int kind(Node match) {
        int filled = (below(match.left).isEmpty() ? 0 : 1) + (below(match.right).isEmpty() ? 0 : 1);
        if (filled < 2) {
            return filled;
        }
        return winners.containsKey(match.number) ? 3 : 2;
    }

    private Set<Integer> canCome(Node match) {
        Set<Integer> found = new HashSet<>(canWin(match.left));
        found.addAll(canWin(match.right));
        return found;
    }

    private Set<Integer> canWin(Node node) {
        Set<Integer> found = new HashSet<>();
        if (node.isPlace()) {
            return below(node);
        }
        switch (kind(node)) {
            case 0:
                return found;
            case 1:
                return canCome(node);
            case 3:
                found.add(winners.get(node.number));
                return found;
            default:
                addWhoHasChance(canWin(node.left), canWin(node.right), found);
                addWhoHasChance(canWin(node.right), canWin(node.left), found);
                return found;
        }
    }

    private void addWhoHasChance(Set<Integer> ones, Set<Integer> others, Set<Integer> found) {
        for (int one : ones) {
            boolean barred = true;
            for (int other : others) {
                barred = barred && chance[one][other] == 0;
            }
            if (!barred) {
                found.add(one);
            }
        }
    }

    private boolean mayStandBelowDecided(Node side) {
        if (side.isPlace()) {
            return true;
        }
        int kind = kind(side);
        return kind == 0 || kind == 3 || kind == 1 && canCome(side).size() == 1;
    }

    int won(int match, int player) {
        if (!isMatch(match) || !isPlayer(player)) {
            return UNKNOWN;
        }
        Node node = matches[match];
        if (kind(node) != 2 || !mayStandBelowDecided(node.left) || !mayStandBelowDecided(node.right)
                || !canCome(node).contains(player)) {
            return STATE;
        }
        winners.put(match, player);
        return winners.size();
    }

    int open(int match) {
        if (!isMatch(match)) {
            return UNKNOWN;
        }
        if (!winners.containsKey(match)) {
            return STATE;
        }
        for (Node node = matches[match]; node != null; node = node.above) {
            winners.remove(node.number);
        }
        return winners.size();
    }

    int match(int match, int what) {
        if (!isMatch(match)) {
            return UNKNOWN;
        }
        Node node = matches[match];
        if (what == 0) {
            return node.round;
        }
        if (what == 1) {
            return kind(node);
        }
        if (what == 2) {
            return winners.getOrDefault(match, NONE);
        }
        return what == 3 ? canCome(node).size() : OUTSIDE;
    }

    /** What is summed up over all outcomes: the parts (of 12 to the number of matches) in which something happens. */
    private abstract static class Happening {
        BigInteger parts = BigInteger.ZERO;

        abstract boolean happens(int[] came);
    }

    private int playerFrom(Node node, int[] came) {
        return node.isPlace() ? places[node.place] : came[node.number];
    }

    private void goThrough(int match, int[] came, BigInteger weight, Happening happening) {
        if (weight.signum() == 0) {
            return;
        }
        if (match == matches.length) {
            if (happening.happens(came)) {
                happening.parts = happening.parts.add(weight);
            }
            return;
        }
        int one = playerFrom(matches[match].left, came);
        int other = playerFrom(matches[match].right, came);
        if (winners.containsKey(match)) {
            goOn(match, winners.get(match), 12, came, weight, happening);
        } else if (one == NONE || other == NONE) {
            goOn(match, one == NONE ? other : one, 12, came, weight, happening);
        } else {
            goOn(match, one, chance[one][other], came, weight, happening);
            goOn(match, other, chance[other][one], came, weight, happening);
        }
    }

    private void goOn(int match, int winner, int k, int[] came, BigInteger weight, Happening happening) {
        came[match] = winner;
        goThrough(match + 1, came, weight.multiply(BigInteger.valueOf(k)), happening);
    }

    private BigInteger partsOf(Happening happening) {
        goThrough(0, new int[matches.length], BigInteger.ONE, happening);
        return happening.parts;
    }

    private BigInteger whole() {
        return BigInteger.valueOf(12).pow(matches.length);
    }

    private static long told(BigInteger above, BigInteger below, boolean upper) {
        BigInteger divisor = above.gcd(below);
        return (upper ? above : below).divide(divisor).longValueExact();
    }

    private BigInteger partsOfReach(int player, int round) {
        return partsOf(new Happening() {
            @Override
            boolean happens(int[] came) {
                for (int place = 0; place < size; place++) {
                    if (round == 0 && places[place] == player) {
                        return true;
                    }
                }
                for (Node match : matches) {
                    if (match.round == round && came[match.number] == player) {
                        return true;
                    }
                }
                return false;
            }
        });
    }

    long reach(int player, int round, boolean upper) {
        if (!isPlayer(player)) {
            return UNKNOWN;
        }
        if (round < 0 || round > last().round) {
            return OUTSIDE;
        }
        return told(partsOfReach(player, round), whole(), upper);
    }

    long meet(int a, int b, int round, boolean upper) {
        if (!isPlayer(a) || !isPlayer(b)) {
            return UNKNOWN;
        }
        if (round < 0 || round > last().round) {
            return OUTSIDE;
        }
        if (a == b) {
            return STATE;
        }
        BigInteger parts = partsOf(new Happening() {
            @Override
            boolean happens(int[] came) {
                for (Node match : matches) {
                    int one = playerFrom(match.left, came);
                    int other = playerFrom(match.right, came);
                    boolean met = one == a && other == b || one == b && other == a;
                    if (met && (round == 0 || round == match.round)) {
                        return true;
                    }
                }
                return false;
            }
        });
        return told(parts, whole(), upper);
    }

    int can(int player) {
        if (!isPlayer(player)) {
            return UNKNOWN;
        }
        Set<Integer> able = canWin(last());
        if (!able.contains(player)) {
            return 0;
        }
        return able.size() == 1 ? 2 : 1;
    }

    private static int compare(int[] one, int[] other) {
        for (int place = 0; place < one.length; place++) {
            int a = one[place] == NONE ? 100 : one[place];
            int b = other[place] == NONE ? 100 : other[place];
            if (a != b) {
                return Integer.compare(a, b);
            }
        }
        return 0;
    }

    /** The first of all that come of a row by exchanging sides, tried with every set of matches at once. */
    private static int[] firstLike(int[] row) {
        int[] best = null;
        for (int set = 0; set < 1 << (row.length - 1); set++) {
            int[] other = exchanged(row, 0, row.length, 0, set);
            if (best == null || compare(other, best) < 0) {
                best = other;
            }
        }
        return best;
    }

    private static int[] exchanged(int[] row, int from, int length, int node, int set) {
        if (length == 1) {
            return new int[] {row[from]};
        }
        int half = length / 2;
        int[] left = exchanged(row, from, half, 2 * node + 1, set);
        int[] right = exchanged(row, from + half, half, 2 * node + 2, set);
        boolean swapped = (set >> node & 1) == 1;
        int[] joined = new int[length];
        System.arraycopy(swapped ? right : left, 0, joined, 0, half);
        System.arraycopy(swapped ? left : right, 0, joined, half, half);
        return joined;
    }

    private static List<int[]> ways(int players, int size) {
        return WAYS.computeIfAbsent(players + " in " + size, key -> {
            TreeSet<int[]> found = new TreeSet<>(Oracle::compare);
            int[] row = new int[size];
            Arrays.fill(row, NONE);
            layFrom(0, players, row, found);
            return new ArrayList<>(found);
        });
    }

    private static void layFrom(int player, int players, int[] row, TreeSet<int[]> found) {
        if (player == players) {
            if (!found.contains(row)) {
                found.add(firstLike(row));
            }
            return;
        }
        for (int place = 0; place < row.length; place++) {
            if (row[place] == NONE) {
                row[place] = player;
                layFrom(player + 1, players, row, found);
                row[place] = NONE;
            }
        }
    }

    private int commonRound(int[] row, int a, int b) {
        Set<Node> overA = new HashSet<>();
        for (int place = 0; place < size; place++) {
            for (Node node = leaves[place]; node != null && row[place] == a; node = node.above) {
                overA.add(node);
            }
        }
        for (int place = 0; place < size; place++) {
            for (Node node = leaves[place]; node != null && row[place] == b; node = node.above) {
                if (overA.contains(node)) {
                    return node.round;
                }
            }
        }
        throw new IllegalStateException("both have a place");
    }

    private boolean isAllowed(int[] row) {
        for (int a = 0; a < players; a++) {
            for (int b = a + 1; b < players; b++) {
                if (apart[a][b] > 1 && commonRound(row, a, b) < apart[a][b]) {
                    return false;
                }
            }
        }
        return true;
    }

    private List<int[]> allowed() {
        if (allowed == null) {
            allowed = new ArrayList<>();
            for (int[] row : ways(players, size)) {
                if (isAllowed(row)) {
                    allowed.add(row);
                }
            }
        }
        return allowed;
    }

    int draws() {
        return allowed().size();
    }

    private boolean isDraw(int i) {
        return i >= 0 && i < draws();
    }

    int draw(int i, int place) {
        return !isDraw(i) || place < 0 || place >= size ? UNKNOWN : allowed().get(i)[place];
    }

    int lay(int i) {
        if (!isDraw(i)) {
            return UNKNOWN;
        }
        places = allowed().get(i).clone();
        winners.clear();
        return 1;
    }

    int like() {
        int[] row = firstLike(places);
        for (int i = 0; i < draws(); i++) {
            if (compare(row, allowed().get(i)) == 0) {
                return i;
            }
        }
        return NONE;
    }

    private BigInteger partsOfDraw(int i, int player) {
        int[] heldPlaces = places;
        Map<Integer, Integer> heldWinners = winners;
        places = allowed().get(i);
        winners = new HashMap<>();
        BigInteger parts = partsOfReach(player, last().round);
        places = heldPlaces;
        winners = heldWinners;
        return parts;
    }

    int best(int player, boolean least) {
        if (!isPlayer(player)) {
            return UNKNOWN;
        }
        int found = NONE;
        BigInteger most = null;
        for (int i = 0; i < draws(); i++) {
            BigInteger parts = partsOfDraw(i, player);
            if (least) {
                parts = parts.negate();
            }
            if (most == null || parts.compareTo(most) > 0) {
                most = parts;
                found = i;
            }
        }
        return found;
    }

    long wins(int i, int player, boolean upper) {
        return !isDraw(i) || !isPlayer(player) ? UNKNOWN : told(partsOfDraw(i, player), whole(), upper);
    }

    long mean(int player, boolean upper) {
        if (!isPlayer(player)) {
            return UNKNOWN;
        }
        if (draws() == 0) {
            return STATE;
        }
        BigInteger sum = BigInteger.ZERO;
        for (int i = 0; i < draws(); i++) {
            sum = sum.add(partsOfDraw(i, player));
        }
        return told(sum, whole().multiply(BigInteger.valueOf(draws())), upper);
    }

    int first(int a, int b, int round) {
        if (!isPlayer(a) || !isPlayer(b)) {
            return UNKNOWN;
        }
        if (round < 1 || round > last().round) {
            return OUTSIDE;
        }
        if (a == b) {
            return STATE;
        }
        int found = 0;
        for (int[] row : allowed()) {
            if (commonRound(row, a, b) == round) {
                found++;
            }
        }
        return found;
    }

    int count(int what) {
        switch (what) {
            case 0:
                return players;
            case 1:
                return size;
            case 2:
                return below(last()).size();
            case 3:
                return winners.size();
            case 4:
                int pairs = 0;
                for (int a = 0; a < players; a++) {
                    for (int b = 0; b < a; b++) {
                        pairs += apart[a][b] > 1 ? 1 : 0;
                    }
                }
                return pairs;
            default:
                return OUTSIDE;
        }
    }
}
