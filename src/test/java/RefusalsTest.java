import java.util.ArrayList;
import java.util.List;
import java.util.function.Supplier;

/**
 * Each refusal of each promise, which comes first of several, and that what is refused changes nothing that later
 * calls tell: in a new cup, one that is played in part, one that is played out, and ones too small for the players.
 */
public final class RefusalsTest {
    private static final int UNKNOWN = CupDraws.UNKNOWN, OUTSIDE = CupDraws.OUTSIDE, STATE = CupDraws.STATE;
    private static final int NONE = CupDraws.NONE;
    private static final int MIN = Integer.MIN_VALUE, MAX = Integer.MAX_VALUE;
    private static final Due DUE = new Due("RefusalsTest");

    private final String name;
    private final Supplier<CupDraws> maker;
    private final Look before;
    private final int players;
    private final int size;
    private final int draws;
    private final int lastRound;

    private RefusalsTest(String name, Supplier<CupDraws> maker) {
        this.name = name;
        this.maker = maker;
        before = new Look(maker);
        CupDraws x = maker.get();
        players = x.count(0);
        size = x.count(1);
        draws = x.draws();
        lastRound = size == 2 ? 1 : size == 4 ? 2 : 3;
    }

    public static void main(String[] args) {
        every("a new cup", CupDraws::new);
        every("a cup of 2", RefusalsTest::cupOfTwo);
        every("a cup played in part", RefusalsTest::playedInPart);
        every("a cup played out", RefusalsTest::playedOut);
        every("more players than places", RefusalsTest::crowded);
        every("apart too far", RefusalsTest::apartTooFar);
        statesOfPut();
        statesOfWon();
        statesOfOpen();
        DUE.end();
    }

    private static void every(String name, Supplier<CupDraws> maker) {
        RefusalsTest test = new RefusalsTest(name, maker);
        test.playersAndCup();
        test.chance();
        test.apart();
        test.putAndAt();
        test.won();
        test.open();
        test.match();
        test.reach();
        test.meet();
        test.can();
        test.drawAndLay();
        test.best();
        test.wins();
        test.mean();
        test.first();
        test.count();
    }

    private static CupDraws cupOfTwo() {
        CupDraws x = new CupDraws();
        x.cup(2);
        x.chance(0, 1, 7);
        x.put(0, 1);
        x.put(1, 0);
        x.won(0, 1);
        return x;
    }

    private static CupDraws playedInPart() {
        CupDraws x = new CupDraws();
        x.players(5);
        x.chance(0, 1, 9);
        x.chance(1, 2, 0);
        x.chance(3, 4, 11);
        x.chance(2, 4, 5);
        x.apart(0, 1, 2);
        x.apart(2, 3, 3);
        x.put(0, 0);
        x.put(1, 1);
        x.put(3, 2);
        x.put(4, 3);
        x.put(6, 4);
        x.won(0, 1);
        return x;
    }

    private static CupDraws playedOut() {
        CupDraws x = new CupDraws();
        x.players(8);
        x.apart(6, 7, 2);
        for (int place = 0; place < 8; place++) {
            x.put(place, 7 - place);
            x.chance(place, 7 - place, 5);
        }
        int[] winners = {7, 4, 3, 0, 4, 0, 4};
        for (int match = 0; match < 7; match++) {
            x.won(match, winners[match]);
        }
        return x;
    }

    private static CupDraws crowded() {
        CupDraws x = new CupDraws();
        x.players(6);
        x.cup(4);
        x.chance(5, 0, 12);
        x.apart(4, 5, 2);
        for (int place = 0; place < 4; place++) {
            x.put(place, 5 - place);
        }
        x.won(1, 2);
        return x;
    }

    private static CupDraws apartTooFar() {
        CupDraws x = new CupDraws();
        x.players(3);
        x.cup(4);
        x.apart(0, 2, 3);
        x.put(0, 0);
        x.put(3, 2);
        x.won(2, 2);
        return x;
    }

    private void refused(String told, Look.Call call, int want) {
        DUE.is(name + ": " + told, call.on(maker.get()), want);
        Look after = new Look(() -> {
            CupDraws x = maker.get();
            call.on(x);
            return x;
        });
        String difference = before.difference(after);
        DUE.is(name + ": " + told + " changes " + difference, difference.length(), 0);
    }

    // The numbers near what is there, and those that wrap around when they are doubled, shifted or negated.
    private static int[] numbersNotIn(int from, int to) {
        int[] tried = {from - 1, to + 1, NONE, UNKNOWN, OUTSIDE, STATE, 8, 9, 16, 100, 255, 256, 1 << 16, 1 << 28,
            1 << 29, 1 << 30, MIN, MIN + 1, MIN + to, MAX - 1, MAX};
        List<Integer> found = new ArrayList<>();
        for (int number : tried) {
            if ((number < from || number > to) && !found.contains(number)) {
                found.add(number);
            }
        }
        return found.stream().mapToInt(Integer::intValue).toArray();
    }

    private int[] noPlayers() {
        return numbersNotIn(0, players - 1);
    }

    private int[] noMatches() {
        return numbersNotIn(0, size - 2);
    }

    private int[] noPlaces() {
        return numbersNotIn(0, size - 1);
    }

    private int[] noDraws() {
        return numbersNotIn(0, draws - 1);
    }

    private void playersAndCup() {
        for (int n : numbersNotIn(2, 8)) {
            refused("players(" + n + ")", x -> x.players(n), OUTSIDE);
        }
        for (int n : numbersNotIn(2, 8)) {
            refused("cup(" + n + ")", x -> x.cup(n), OUTSIDE);
        }
        for (int n : new int[] {3, 5, 6, 7}) {
            refused("cup(" + n + ")", x -> x.cup(n), OUTSIDE);
        }
    }

    private void chance() {
        for (int no : noPlayers()) {
            refused("chance(" + no + ", 0, 5)", x -> x.chance(no, 0, 5), UNKNOWN);
            refused("chance(1, " + no + ", 5)", x -> x.chance(1, no, 5), UNKNOWN);
            refused("chance(" + no + ", 0, 13)", x -> x.chance(no, 0, 13), UNKNOWN);
            refused("chance(1, " + no + ", -1)", x -> x.chance(1, no, -1), UNKNOWN);
            refused("chance(" + no + ", the same, 5)", x -> x.chance(no, no, 5), UNKNOWN);
            refused("chance(" + no + ", the same, 13)", x -> x.chance(no, no, 13), UNKNOWN);
        }
        for (int k : numbersNotIn(0, 12)) {
            refused("chance(0, 1, " + k + ")", x -> x.chance(0, 1, k), OUTSIDE);
            refused("chance(1, 1, " + k + ")", x -> x.chance(1, 1, k), OUTSIDE);
        }
        for (int one = 0; one < players; one++) {
            int p = one;
            refused("chance(" + p + ", " + p + ", 0)", x -> x.chance(p, p, 0), STATE);
            refused("chance(" + p + ", " + p + ", 12)", x -> x.chance(p, p, 12), STATE);
        }
    }

    private void apart() {
        for (int no : noPlayers()) {
            refused("apart(" + no + ", 0, 2)", x -> x.apart(no, 0, 2), UNKNOWN);
            refused("apart(1, " + no + ", 3)", x -> x.apart(1, no, 3), UNKNOWN);
            refused("apart(" + no + ", 0, 4)", x -> x.apart(no, 0, 4), UNKNOWN);
            refused("apart(1, " + no + ", 0)", x -> x.apart(1, no, 0), UNKNOWN);
            refused("apart(" + no + ", the same, 2)", x -> x.apart(no, no, 2), UNKNOWN);
            refused("apart(" + no + ", the same, 4)", x -> x.apart(no, no, 4), UNKNOWN);
        }
        for (int round : numbersNotIn(1, 3)) {
            refused("apart(0, 1, " + round + ")", x -> x.apart(0, 1, round), OUTSIDE);
            refused("apart(1, 1, " + round + ")", x -> x.apart(1, 1, round), OUTSIDE);
        }
        for (int one = 0; one < players; one++) {
            int p = one;
            refused("apart(" + p + ", " + p + ", 1)", x -> x.apart(p, p, 1), STATE);
            refused("apart(" + p + ", " + p + ", 3)", x -> x.apart(p, p, 3), STATE);
        }
    }

    private void putAndAt() {
        int placed = maker.get().at(0);
        for (int no : noPlaces()) {
            refused("at(" + no + ")", x -> x.at(no), UNKNOWN);
            refused("put(" + no + ", 0)", x -> x.put(no, 0), UNKNOWN);
            refused("put(" + no + ", NONE)", x -> x.put(no, NONE), UNKNOWN);
            refused("put(" + no + ", who has a place)", x -> x.put(no, placed), UNKNOWN);
            refused("put(" + no + ", no player)", x -> x.put(no, players), UNKNOWN);
        }
        for (int no : noPlayers()) {
            if (no != NONE) {
                refused("put(0, " + no + ")", x -> x.put(0, no), UNKNOWN);
            }
        }
    }

    private void won() {
        for (int no : noMatches()) {
            refused("won(" + no + ", 0)", x -> x.won(no, 0), UNKNOWN);
        }
        for (int no : noPlayers()) {
            refused("won(0, " + no + ")", x -> x.won(0, no), UNKNOWN);
            refused("won of the final by " + no, x -> x.won(size - 2, no), UNKNOWN);
        }
    }

    private void open() {
        for (int no : noMatches()) {
            refused("open(" + no + ")", x -> x.open(no), UNKNOWN);
        }
        for (int match = 0; match < size - 1; match++) {
            int m = match;
            if (maker.get().match(m, 1) != 3) {
                refused("open(" + m + "), which is not decided", x -> x.open(m), STATE);
            }
        }
    }

    private void match() {
        for (int no : noMatches()) {
            refused("match(" + no + ", 0)", x -> x.match(no, 0), UNKNOWN);
            refused("match(" + no + ", 3)", x -> x.match(no, 3), UNKNOWN);
            refused("match(" + no + ", 4)", x -> x.match(no, 4), UNKNOWN);
            refused("match(" + no + ", -1)", x -> x.match(no, -1), UNKNOWN);
        }
        for (int what : numbersNotIn(0, 3)) {
            refused("match(0, " + what + ")", x -> x.match(0, what), OUTSIDE);
        }
    }

    private void refusedTwice(String told, Look.Call above, Look.Call below, int want) {
        refused(told + " above", above, want);
        refused(told + " below", below, want);
    }

    private void reach() {
        for (int no : noPlayers()) {
            refusedTwice("reach(" + no + ", 0)", x -> x.reach(no, 0, true), x -> x.reach(no, 0, false), UNKNOWN);
            refusedTwice("reach(" + no + ", 4)", x -> x.reach(no, 4, true), x -> x.reach(no, -1, false), UNKNOWN);
        }
        for (int round : numbersNotIn(0, lastRound)) {
            refusedTwice("reach(1, " + round + ")", x -> x.reach(1, round, true), x -> x.reach(1, round, false),
                    OUTSIDE);
        }
    }

    private void meet() {
        for (int no : noPlayers()) {
            refusedTwice("meet(" + no + ", 0, 1)", x -> x.meet(no, 0, 1, true), x -> x.meet(no, 0, 1, false), UNKNOWN);
            refusedTwice("meet(1, " + no + ", 0)", x -> x.meet(1, no, 0, true), x -> x.meet(1, no, 0, false), UNKNOWN);
            refusedTwice("meet(" + no + ", 0, 4)", x -> x.meet(no, 0, 4, true), x -> x.meet(0, no, -1, false), UNKNOWN);
            refusedTwice("meet(" + no + ", the same, 0)", x -> x.meet(no, no, 0, true), x -> x.meet(no, no, 4, false),
                    UNKNOWN);
        }
        for (int round : numbersNotIn(0, lastRound)) {
            refusedTwice("meet(0, 1, " + round + ")", x -> x.meet(0, 1, round, true), x -> x.meet(0, 1, round, false),
                    OUTSIDE);
            refusedTwice("meet(1, 1, " + round + ")", x -> x.meet(1, 1, round, true), x -> x.meet(1, 1, round, false),
                    OUTSIDE);
        }
        for (int one = 0; one < players; one++) {
            int p = one;
            refusedTwice("meet(" + p + ", " + p + ")", x -> x.meet(p, p, 0, true), x -> x.meet(p, p, lastRound, false),
                    STATE);
        }
    }

    private void can() {
        for (int no : noPlayers()) {
            refused("can(" + no + ")", x -> x.can(no), UNKNOWN);
        }
    }

    private void drawAndLay() {
        for (int no : noDraws()) {
            refused("draw(" + no + ", 0)", x -> x.draw(no, 0), UNKNOWN);
            refused("draw(" + no + ", no place)", x -> x.draw(no, size), UNKNOWN);
            refused("lay(" + no + ")", x -> x.lay(no), UNKNOWN);
        }
        for (int no : noPlaces()) {
            refused("draw(0, " + no + ")", x -> x.draw(0, no), UNKNOWN);
        }
    }

    private void best() {
        for (int no : noPlayers()) {
            refused("best(" + no + ", false)", x -> x.best(no, false), UNKNOWN);
            refused("best(" + no + ", true)", x -> x.best(no, true), UNKNOWN);
        }
    }

    private void wins() {
        for (int no : noDraws()) {
            refusedTwice("wins(" + no + ", 0)", x -> x.wins(no, 0, true), x -> x.wins(no, 0, false), UNKNOWN);
            refused("wins(" + no + ", no player)", x -> x.wins(no, players, true), UNKNOWN);
        }
        for (int no : noPlayers()) {
            refusedTwice("wins(0, " + no + ")", x -> x.wins(0, no, true), x -> x.wins(0, no, false), UNKNOWN);
        }
    }

    private void mean() {
        for (int no : noPlayers()) {
            refusedTwice("mean(" + no + ")", x -> x.mean(no, true), x -> x.mean(no, false), UNKNOWN);
        }
        for (int one = 0; one < players && draws == 0; one++) {
            int p = one;
            refusedTwice("mean(" + p + ") of none", x -> x.mean(p, true), x -> x.mean(p, false), STATE);
        }
    }

    private void first() {
        for (int no : noPlayers()) {
            refused("first(" + no + ", 0, 1)", x -> x.first(no, 0, 1), UNKNOWN);
            refused("first(1, " + no + ", 1)", x -> x.first(1, no, 1), UNKNOWN);
            refused("first(" + no + ", 0, 0)", x -> x.first(no, 0, 0), UNKNOWN);
            refused("first(1, " + no + ", 4)", x -> x.first(1, no, 4), UNKNOWN);
            refused("first(" + no + ", the same, 1)", x -> x.first(no, no, 1), UNKNOWN);
            refused("first(" + no + ", the same, 0)", x -> x.first(no, no, 0), UNKNOWN);
        }
        for (int round : numbersNotIn(1, lastRound)) {
            refused("first(0, 1, " + round + ")", x -> x.first(0, 1, round), OUTSIDE);
            refused("first(1, 1, " + round + ")", x -> x.first(1, 1, round), OUTSIDE);
        }
        for (int one = 0; one < players; one++) {
            int p = one;
            refused("first(" + p + ", " + p + ")", x -> x.first(p, p, lastRound), STATE);
        }
    }

    private void count() {
        for (int what : numbersNotIn(0, 4)) {
            refused("count(" + what + ")", x -> x.count(what), OUTSIDE);
        }
    }

    private static void statesOfPut() {
        RefusalsTest test = new RefusalsTest("put", RefusalsTest::playedInPart);
        test.refused("0 from the first place to the last", x -> x.put(7, 0), STATE);
        test.refused("4 to a place before the own", x -> x.put(2, 4), STATE);
        test.refused("3 to another's place", x -> x.put(0, 3), STATE);
        test.refused("who has a place to none", x -> x.put(8, 0), UNKNOWN);
    }

    private static void statesOfWon() {
        RefusalsTest test = new RefusalsTest("won", RefusalsTest::playedInPart);
        test.refused("a bye, by its player", x -> x.won(1, 2), STATE);
        test.refused("decided, by the same", x -> x.won(0, 1), STATE);
        test.refused("decided, by the other", x -> x.won(0, 0), STATE);
        test.refused("of round 2, by who lost below", x -> x.won(4, 0), STATE);
        test.refused("of round 2, by one from beside", x -> x.won(4, 3), STATE);
        test.refused("the final, open on both sides", x -> x.won(6, 1), STATE);
        test.refused("a match that is unknown, in a state", x -> x.won(7, 1), UNKNOWN);
        test.refused("a player who is unknown, in a state", x -> x.won(6, 5), UNKNOWN);
        RefusalsTest half = new RefusalsTest("won, the left side open", () -> {
            CupDraws x = playedInPart();
            x.won(5, 4);
            return x;
        });
        half.refused("the final, by the one from the right", x -> x.won(6, 4), STATE);
        RefusalsTest rest = new RefusalsTest("won, the right side open", () -> {
            CupDraws x = playedInPart();
            x.won(4, 2);
            return x;
        });
        rest.refused("the final, by the one from the left", x -> x.won(6, 2), STATE);
        RefusalsTest empty = new RefusalsTest("won, all void", CupDraws::new);
        for (int match = 0; match < 7; match++) {
            int m = match;
            empty.refused("match " + m, x -> x.won(m, 0), STATE);
        }
        RefusalsTest out = new RefusalsTest("won, all decided", RefusalsTest::playedOut);
        for (int match = 0; match < 7; match++) {
            int m = match;
            out.refused("match " + m, x -> x.won(m, x.match(m, 2)), STATE);
        }
        RefusalsTest without = new RefusalsTest("won, by one who has no place", RefusalsTest::crowded);
        without.refused("of round 1", x -> x.won(0, 0), STATE);
        without.refused("the final", x -> x.won(2, 1), STATE);
    }

    private static void statesOfOpen() {
        RefusalsTest test = new RefusalsTest("open", () -> {
            CupDraws x = playedOut();
            x.open(5);
            return x;
        });
        test.refused("the final, which opened with the one below", x -> x.open(6), STATE);
        test.refused("the same again", x -> x.open(5), STATE);
    }
}
