import java.util.Arrays;

/**
 * Knock-out cups: who comes how far by told chances, exactly; what results leave; all unlike draws in order,
 * with players kept apart; the best and the worst draw for one, and what a drawn one gives on the mean.
 */
public final class CupDraws {
    public static final int UNKNOWN = -1, OUTSIDE = -2, STATE = -3, NONE = -9;

    private static final int MOST = 8;
    private static final int MOST_ROUNDS = 3;
    // Inside, an empty place holds a number behind all players, so that rows compare in the order of the draws.
    private static final int EMPTY = 8;
    private static final int NOWHERE = -1;
    private static final int WHOLE = 12;
    private static final int EVEN = 6;
    private static final int NOT_APART = 1;
    // 8! ways to lay eight players, each like 2^7 others; fewer players have no more draws.
    private static final int MOST_DRAWS = 315;
    // Euclid's steps for two longs stay under a hundred.
    private static final int MOST_STEPS = 100;
    // By round: 12 to the number of matches that a winner of that round stands above, so that odds are whole numbers.
    private static final long[] PARTS = {1L, 12L, 1728L, 35831808L};

    private static final int VOID = 0, BYE = 1, UNDECIDED = 2, DECIDED = 3;

    private final Roster roster = new Roster();
    private final Bracket bracket = new Bracket();
    private final Bracket trial = new Bracket();
    private final DrawList list = new DrawList();
    private boolean listed = false;
    private boolean weighed = false;

    public CupDraws() {
    }

    // ---- players

    public int players(int n) {
        if (n < 2 || n > MOST) {
            return OUTSIDE;
        }
        int before = roster.number;
        roster.renew(n);
        bracket.clear();
        listed = false;
        return before;
    }

    public int chance(int a, int b, int k) {
        if (!roster.has(a) || !roster.has(b)) {
            return UNKNOWN;
        }
        if (k < 0 || k > WHOLE) {
            return OUTSIDE;
        }
        if (a == b) {
            return STATE;
        }
        int before = roster.chanceOf(a, b);
        roster.setChance(a, b, k);
        weighed = false;
        return before;
    }

    public int apart(int a, int b, int round) {
        if (!roster.has(a) || !roster.has(b)) {
            return UNKNOWN;
        }
        if (round < NOT_APART || round > MOST_ROUNDS) {
            return OUTSIDE;
        }
        if (a == b) {
            return STATE;
        }
        int before = roster.apartUntil(a, b);
        roster.setApart(a, b, round);
        listed = false;
        return before;
    }

    // ---- the cup

    public int cup(int size) {
        if (size != 2 && size != 4 && size != 8) {
            return OUTSIDE;
        }
        int before = bracket.size;
        bracket.resize(size);
        listed = false;
        return before;
    }

    public int put(int place, int player) {
        if (!bracket.hasPlace(place) || player != NONE && !roster.has(player)) {
            return UNKNOWN;
        }
        int laid = player == NONE ? EMPTY : player;
        int other = bracket.placeOf(laid);
        if (other != NOWHERE && other != place) {
            return STATE;
        }
        int before = bracket.playerAt(place);
        bracket.setPlace(place, laid);
        bracket.openAll();
        return told(before);
    }

    public int at(int place) {
        return bracket.hasPlace(place) ? told(bracket.playerAt(place)) : UNKNOWN;
    }

    public int won(int match, int player) {
        if (!bracket.hasMatch(match) || !roster.has(player)) {
            return UNKNOWN;
        }
        bracket.weigh(roster);
        if (!bracket.mayBeDecided(match) || !bracket.canCome(match, bracket.placeOf(player))) {
            return STATE;
        }
        bracket.setWinner(match, player);
        return bracket.decidedMatches();
    }

    public int open(int match) {
        if (!bracket.hasMatch(match)) {
            return UNKNOWN;
        }
        if (bracket.winnerOf(match) == EMPTY) {
            return STATE;
        }
        bracket.openUpwards(match);
        return bracket.decidedMatches();
    }

    public int match(int match, int what) {
        if (!bracket.hasMatch(match)) {
            return UNKNOWN;
        }
        switch (what) {
            case 0:
                return bracket.roundOf(match);
            case 1:
                return bracket.kindOf(match);
            case 2:
                return told(bracket.winnerOf(match));
            case 3:
                bracket.weigh(roster);
                return bracket.comers(match);
            default:
                return OUTSIDE;
        }
    }

    // ---- chances

    public long reach(int player, int round, boolean upper) {
        if (!roster.has(player)) {
            return UNKNOWN;
        }
        if (round < 0 || round > bracket.lastRound()) {
            return OUTSIDE;
        }
        bracket.weigh(roster);
        return fraction(bracket.oddsOf(round, bracket.placeOf(player)), partsOf(round), upper);
    }

    public long meet(int a, int b, int round, boolean upper) {
        if (!roster.has(a) || !roster.has(b)) {
            return UNKNOWN;
        }
        if (round < 0 || round > bracket.lastRound()) {
            return OUTSIDE;
        }
        if (a == b) {
            return STATE;
        }
        int placeOfA = bracket.placeOf(a);
        int placeOfB = bracket.placeOf(b);
        if (placeOfA == NOWHERE || placeOfB == NOWHERE) {
            return fraction(0L, 1L, upper);
        }
        int common = meetingRound(placeOfA, placeOfB);
        if (round != 0 && round != common) {
            return fraction(0L, 1L, upper);
        }
        bracket.weigh(roster);
        long above = bracket.oddsOf(common - 1, placeOfA) * bracket.oddsOf(common - 1, placeOfB);
        return fraction(above, partsOf(common - 1) * partsOf(common - 1), upper);
    }

    public int can(int player) {
        if (!roster.has(player)) {
            return UNKNOWN;
        }
        bracket.weigh(roster);
        if (bracket.oddsOf(bracket.lastRound(), bracket.placeOf(player)) == 0L) {
            return 0;
        }
        return bracket.possibleWinners() == 1 ? 2 : 1;
    }

    // ---- draws

    public int draws() {
        makeList();
        return list.number;
    }

    public int draw(int i, int place) {
        makeList();
        return list.has(i) && bracket.hasPlace(place) ? told(list.playerAt(i, place)) : UNKNOWN;
    }

    public int lay(int i) {
        makeList();
        if (!list.has(i)) {
            return UNKNOWN;
        }
        list.layInto(bracket, i);
        return 1;
    }

    public int like() {
        makeList();
        int i = list.numberOfLike(bracket);
        return i == NOWHERE ? NONE : i;
    }

    public int best(int player, boolean least) {
        if (!roster.has(player)) {
            return UNKNOWN;
        }
        weighList();
        int found = NONE;
        long foundOdds = 0L;
        for (int i = 0; i < list.number; i++) {
            long odds = list.oddsOf(i, player);
            if (found == NONE || (least ? odds < foundOdds : odds > foundOdds)) {
                found = i;
                foundOdds = odds;
            }
        }
        return found;
    }

    public long wins(int i, int player, boolean upper) {
        makeList();
        if (!list.has(i) || !roster.has(player)) {
            return UNKNOWN;
        }
        weighList();
        return fraction(list.oddsOf(i, player), partsOf(bracket.lastRound()), upper);
    }

    public long mean(int player, boolean upper) {
        if (!roster.has(player)) {
            return UNKNOWN;
        }
        weighList();
        if (list.number == 0) {
            return STATE;
        }
        long sum = 0L;
        for (int i = 0; i < list.number; i++) {
            sum += list.oddsOf(i, player);
        }
        return fraction(sum, partsOf(bracket.lastRound()) * list.number, upper);
    }

    public int first(int a, int b, int round) {
        if (!roster.has(a) || !roster.has(b)) {
            return UNKNOWN;
        }
        if (round < 1 || round > bracket.lastRound()) {
            return OUTSIDE;
        }
        if (a == b) {
            return STATE;
        }
        makeList();
        int counted = 0;
        for (int i = 0; i < list.number; i++) {
            if (meetingRound(list.placeOf(i, a), list.placeOf(i, b)) == round) {
                counted++;
            }
        }
        return counted;
    }

    public int count(int what) {
        switch (what) {
            case 0:
                return roster.number;
            case 1:
                return bracket.size;
            case 2:
                return bracket.playersIn(0, MOST);
            case 3:
                return bracket.decidedMatches();
            case 4:
                return roster.pairsApart();
            default:
                return OUTSIDE;
        }
    }

    // Draws are listed and weighed only when asked for: most calls change what they stand on.
    private void makeList() {
        if (!listed) {
            list.make(roster, bracket.size);
            listed = true;
            weighed = false;
        }
    }

    private void weighList() {
        makeList();
        if (!weighed) {
            trial.resize(bracket.size);
            list.weigh(trial, roster);
            weighed = true;
        }
    }

    private static int told(int held) {
        return held == EMPTY ? NONE : held;
    }

    private static long partsOf(int round) {
        return round >= 0 && round < PARTS.length ? PARTS[round] : 1L;
    }

    /** The round of the match that two places have in common. */
    private static int meetingRound(int placeOfA, int placeOfB) {
        int round = 1;
        while (round < MOST_ROUNDS && placeOfA >> round != placeOfB >> round) {
            round++;
        }
        return round;
    }

    private static long fraction(long above, long below, boolean upper) {
        long divisor = commonDivisor(above, below);
        if (divisor <= 0L) {
            return upper ? 0L : 1L;
        }
        return upper ? above / divisor : below / divisor;
    }

    private static long commonDivisor(long a, long b) {
        for (int step = 0; step < MOST_STEPS && b > 0L; step++) {
            long rest = a % b;
            a = b;
            b = rest;
        }
        return a;
    }

    /** The players, with the chances between them and the rounds until which they are apart. */
    private static final class Roster {
        int number;
        private final int[] chances = new int[MOST * MOST];
        private final int[] rounds = new int[MOST * MOST];

        Roster() {
            renew(2);
        }

        void renew(int n) {
            number = n;
            Arrays.fill(chances, EVEN);
            Arrays.fill(rounds, NOT_APART);
        }

        boolean has(int player) {
            return player >= 0 && player < number;
        }

        int chanceOf(int a, int b) {
            int cell = a * MOST + b;
            return cell >= 0 && cell < chances.length ? chances[cell] : 0;
        }

        void setChance(int a, int b, int k) {
            setCell(chances, a * MOST + b, k);
            setCell(chances, b * MOST + a, WHOLE - k);
        }

        int apartUntil(int a, int b) {
            int cell = a * MOST + b;
            return cell >= 0 && cell < rounds.length ? rounds[cell] : NOT_APART;
        }

        void setApart(int a, int b, int round) {
            setCell(rounds, a * MOST + b, round);
            setCell(rounds, b * MOST + a, round);
        }

        int pairsApart() {
            int pairs = 0;
            for (int a = 0; a < number; a++) {
                for (int b = a + 1; b < number; b++) {
                    if (apartUntil(a, b) != NOT_APART) {
                        pairs++;
                    }
                }
            }
            return pairs;
        }

        private static void setCell(int[] row, int cell, int value) {
            if (cell >= 0 && cell < row.length) {
                row[cell] = value;
            }
        }
    }

    /**
     * A cup: its places, who won which match, and the odds by round and place. Match m has the nodes 2 m and 2 m + 1
     * as its sides, where the nodes are all places and then all matches.
     */
    private static final class Bracket {
        int size;
        private final int[] places = new int[MOST];
        private final int[] winners = new int[MOST];
        private final long[] odds = new long[(MOST_ROUNDS + 1) * MOST];

        Bracket() {
            resize(MOST);
        }

        void resize(int newSize) {
            size = newSize;
            clear();
        }

        void clear() {
            Arrays.fill(places, EMPTY);
            openAll();
        }

        void openAll() {
            Arrays.fill(winners, EMPTY);
        }

        void openUpwards(int match) {
            int above = match;
            for (int step = 0; step < MOST_ROUNDS && hasMatch(above); step++) {
                setWinner(above, EMPTY);
                above = (size + above) >> 1;
            }
        }

        boolean hasPlace(int place) {
            return place >= 0 && place < size;
        }

        boolean hasMatch(int match) {
            return match >= 0 && match < size - 1;
        }

        int lastRound() {
            return size == 8 ? 3 : size == 4 ? 2 : 1;
        }

        int playerAt(int place) {
            return place >= 0 && place < places.length ? places[place] : EMPTY;
        }

        void setPlace(int place, int player) {
            if (place >= 0 && place < places.length) {
                places[place] = player;
            }
        }

        int winnerOf(int match) {
            return match >= 0 && match < winners.length ? winners[match] : EMPTY;
        }

        void setWinner(int match, int player) {
            if (match >= 0 && match < winners.length) {
                winners[match] = player;
            }
        }

        int placeOf(int player) {
            if (player != EMPTY) {
                for (int place = 0; place < size; place++) {
                    if (playerAt(place) == player) {
                        return place;
                    }
                }
            }
            return NOWHERE;
        }

        int playersIn(int from, int to) {
            int found = 0;
            for (int place = from; place < to; place++) {
                if (playerAt(place) != EMPTY) {
                    found++;
                }
            }
            return found;
        }

        int decidedMatches() {
            int found = 0;
            for (int match = 0; match < size - 1; match++) {
                if (winnerOf(match) != EMPTY) {
                    found++;
                }
            }
            return found;
        }

        int roundOf(int match) {
            int round = 1;
            while (round < MOST_ROUNDS && match >= firstMatch(round + 1)) {
                round++;
            }
            return round;
        }

        int kindOf(int match) {
            int round = roundOf(match);
            int from = firstPlace(match, round);
            int middle = from + (1 << (round - 1));
            int left = playersIn(from, middle);
            int right = playersIn(middle, from + (1 << round));
            if (left == 0 && right == 0) {
                return VOID;
            }
            if (left == 0 || right == 0) {
                return BYE;
            }
            return winnerOf(match) == EMPTY ? UNDECIDED : DECIDED;
        }

        /** Needs weigh() before, as all that tells who can come. */
        boolean mayBeDecided(int match) {
            return kindOf(match) == UNDECIDED && isSettled(2 * match - size) && isSettled(2 * match + 1 - size);
        }

        boolean canCome(int match, int place) {
            int round = roundOf(match);
            int from = firstPlace(match, round);
            return place >= from && place < from + (1 << round) && oddsOf(round - 1, place) > 0L;
        }

        int comers(int match) {
            int found = 0;
            for (int place = 0; place < size; place++) {
                if (canCome(match, place)) {
                    found++;
                }
            }
            return found;
        }

        int possibleWinners() {
            int found = 0;
            for (int place = 0; place < size; place++) {
                if (oddsOf(lastRound(), place) > 0L) {
                    found++;
                }
            }
            return found;
        }

        long oddsOf(int round, int place) {
            int cell = round * MOST + place;
            return place >= 0 && place < MOST && cell >= 0 && cell < odds.length ? odds[cell] : 0L;
        }

        /**
         * Makes the odds: by how many of partsOf(round) who is at a place wins all up to a round. They are above 0
         * for just those who CAN WIN, since products and sums of odds above 0 are above 0.
         */
        void weigh(Roster roster) {
            for (int place = 0; place < size; place++) {
                setOdds(0, place, playerAt(place) == EMPTY ? 0L : 1L);
            }
            int match = 0;
            for (int round = 1; round <= lastRound(); round++) {
                int width = 1 << round;
                for (int from = 0; from < size; from += width) {
                    weighMatch(match, round, from, roster);
                    match++;
                }
            }
        }

        private void weighMatch(int match, int round, int from, Roster roster) {
            int winner = winnerOf(match);
            int middle = from + (1 << (round - 1));
            int end = from + (1 << round);
            for (int place = from; place < end; place++) {
                if (winner != EMPTY) {
                    setOdds(round, place, playerAt(place) == winner ? partsOf(round) : 0L);
                } else if (place < middle) {
                    setOdds(round, place, oddsAgainst(round, place, middle, end, roster));
                } else {
                    setOdds(round, place, oddsAgainst(round, place, from, middle, roster));
                }
            }
        }

        private long oddsAgainst(int round, int place, int from, int to, Roster roster) {
            long come = oddsOf(round - 1, place);
            if (come == 0L) {
                return 0L;
            }
            if (playersIn(from, to) == 0) {
                return come * partsOf(round - 1) * WHOLE;
            }
            long beaten = 0L;
            for (int other = from; other < to; other++) {
                beaten += oddsOf(round - 1, other) * roster.chanceOf(playerAt(place), playerAt(other));
            }
            return come * beaten;
        }

        private void setOdds(int round, int place, long value) {
            int cell = round * MOST + place;
            if (place >= 0 && place < MOST && cell >= 0 && cell < odds.length) {
                odds[cell] = value;
            }
        }

        /** Whether just one can come from a side, or none; a match below 0 stands for a place, which is settled. */
        private boolean isSettled(int match) {
            if (match < 0) {
                return true;
            }
            int kind = kindOf(match);
            return kind == BYE ? comers(match) == 1 : kind != UNDECIDED;
        }

        private int firstMatch(int round) {
            return size - (size >> (round - 1));
        }

        private int firstPlace(int match, int round) {
            return (match - firstMatch(round)) << round;
        }
    }

    /** The allowed draws in order, and the odds of each player to win the final of each. */
    private static final class DrawList {
        int number;
        private final int[] row = new int[MOST];
        private final int[] rows = new int[MOST_DRAWS * MOST];
        private final long[] odds = new long[MOST_DRAWS * MOST];

        DrawList() {
        }

        boolean has(int i) {
            return i >= 0 && i < number;
        }

        int playerAt(int i, int place) {
            int cell = i * MOST + place;
            return has(i) && place >= 0 && place < MOST && cell < rows.length ? rows[cell] : EMPTY;
        }

        int placeOf(int i, int player) {
            for (int place = 0; place < MOST; place++) {
                if (playerAt(i, place) == player) {
                    return place;
                }
            }
            return NOWHERE;
        }

        long oddsOf(int i, int player) {
            int cell = i * MOST + player;
            return has(i) && player >= 0 && player < MOST && cell < odds.length ? odds[cell] : 0L;
        }

        void make(Roster roster, int size) {
            number = 0;
            Arrays.fill(row, EMPTY);
            if (roster.number <= size && size <= MOST) {
                fill(this, roster, size, 0, 0);
            }
        }

        // Taking the places in order, and at each the players in order and EMPTY last, finds the draws in order.
        private static void fill(DrawList list, Roster roster, int size, int place, int used) {
            if (place >= size || place >= MOST) {
                list.keepRow();
                return;
            }
            for (int player = 0; player < roster.number; player++) {
                boolean free = (used >> player & 1) == 0;
                if (free && list.keepsOrder(place, player) && list.keepsApart(roster, place, player)) {
                    list.row[place] = player;
                    fill(list, roster, size, place + 1, used | 1 << player);
                }
            }
            if (place - Integer.bitCount(used) < size - roster.number) {
                list.row[place] = EMPTY;
                fill(list, roster, size, place + 1, used);
            }
        }

        private void keepRow() {
            if (number < MOST_DRAWS) {
                System.arraycopy(row, 0, rows, number * MOST, MOST);
                number++;
            }
        }

        /**
         * A row is the first of those like it when on no match the right side goes before the left one. The first place
         * of a side holds its least player, so it is enough to look at that of the side to the left.
         */
        private boolean keepsOrder(int place, int player) {
            if (place == 0) {
                return player == 0;
            }
            int left = place - (place & -place);
            return left >= 0 && left < MOST && row[left] < player;
        }

        private boolean keepsApart(Roster roster, int place, int player) {
            for (int other = 0; other < place && other < MOST; other++) {
                if (row[other] != EMPTY && meetingRound(other, place) < roster.apartUntil(row[other], player)) {
                    return false;
                }
            }
            return true;
        }

        void layInto(Bracket bracket, int i) {
            for (int place = 0; place < bracket.size; place++) {
                bracket.setPlace(place, playerAt(i, place));
            }
            bracket.openAll();
        }

        void weigh(Bracket trial, Roster roster) {
            int last = trial.lastRound();
            for (int i = 0; i < number; i++) {
                layInto(trial, i);
                trial.weigh(roster);
                for (int place = 0; place < trial.size; place++) {
                    setOdds(i, trial.playerAt(place), trial.oddsOf(last, place));
                }
            }
        }

        private void setOdds(int i, int player, long value) {
            int cell = i * MOST + player;
            if (has(i) && player >= 0 && player < MOST && cell < odds.length) {
                odds[cell] = value;
            }
        }

        int numberOfLike(Bracket bracket) {
            orderRowOf(bracket);
            for (int i = 0; i < number; i++) {
                if (isRow(i)) {
                    return i;
                }
            }
            return NOWHERE;
        }

        private void orderRowOf(Bracket bracket) {
            for (int place = 0; place < MOST; place++) {
                row[place] = bracket.playerAt(place);
            }
            for (int half = 1; half < bracket.size; half += half) {
                for (int from = 0; from + half < MOST; from += half + half) {
                    if (row[from] > row[from + half]) {
                        exchange(from, half);
                    }
                }
            }
        }

        private void exchange(int from, int half) {
            for (int left = from; left < from + half && left + half < MOST; left++) {
                int held = row[left];
                row[left] = row[left + half];
                row[left + half] = held;
            }
        }

        private boolean isRow(int i) {
            for (int place = 0; place < MOST; place++) {
                if (playerAt(i, place) != row[place]) {
                    return false;
                }
            }
            return true;
        }
    }
}
