/** Promises 5 to 10: cup, put, at, won, open, match. */
public final class CupTest {
    private static final Due DUE = new Due("CupTest");

    public static void main(String[] args) {
        cupAnew();
        cupOutside();
        putAndTakeAway();
        putRefusals();
        putOpensAll();
        atRefusals();
        wonUpToTheFinal();
        wonRefusals();
        wonAboveByes();
        wonWithChanceNought();
        openTakesThoseAbove();
        openRefusals();
        matchNumbers();
        matchKinds();
        matchComers();
        matchRefusals();
        DUE.end();
    }

    /** Eight players on the places of their numbers. */
    private static CupDraws fullCup() {
        CupDraws x = new CupDraws();
        x.players(8);
        for (int place = 0; place < 8; place++) {
            x.put(place, place);
        }
        return x;
    }

    private static void cupAnew() {
        CupDraws x = new CupDraws();
        x.put(0, 0);
        x.put(1, 1);
        x.won(0, 0);
        x.chance(0, 1, 5);
        x.apart(0, 1, 2);
        DUE.is("cup(8)", x.cup(8), 8);
        DUE.is("places are empty", x.count(2), 0);
        DUE.is("nothing is decided", x.count(3), 0);
        DUE.is("cup(2)", x.cup(2), 8);
        DUE.is("cup(4)", x.cup(4), 2);
        DUE.is("count(1)", x.count(1), 4);
        DUE.is("players stay", x.count(0), 2);
        DUE.is("those apart stay", x.count(4), 1);
        DUE.is("chances stay", x.chance(0, 1, 5), 5);
    }

    private static void cupOutside() {
        CupDraws x = new CupDraws();
        x.put(7, 1);
        for (int size : new int[] {0, 1, 3, 5, 6, 7, 9, 16, -2, -8, Integer.MIN_VALUE, Integer.MAX_VALUE}) {
            DUE.is("cup(" + size + ")", x.cup(size), CupDraws.OUTSIDE);
        }
        DUE.is("what is refused changes nothing", x.at(7), 1);
    }

    private static void putAndTakeAway() {
        CupDraws x = new CupDraws();
        DUE.is("put(7, 1)", x.put(7, 1), CupDraws.NONE);
        DUE.is("at(7)", x.at(7), 1);
        DUE.is("instead of another", x.put(7, 0), 1);
        DUE.is("the other is free", x.put(0, 1), CupDraws.NONE);
        DUE.is("on the own place", x.put(0, 1), 1);
        DUE.is("away", x.put(0, CupDraws.NONE), 1);
        DUE.is("away again", x.put(0, CupDraws.NONE), CupDraws.NONE);
        DUE.is("at(0)", x.at(0), CupDraws.NONE);
        DUE.is("at(7) still", x.at(7), 0);
    }

    private static void putRefusals() {
        CupDraws x = new CupDraws();
        x.cup(4);
        x.put(0, 0);
        DUE.is("place 4 of 4", x.put(4, 1), CupDraws.UNKNOWN);
        DUE.is("place -1", x.put(-1, 1), CupDraws.UNKNOWN);
        DUE.is("away from no place", x.put(4, CupDraws.NONE), CupDraws.UNKNOWN);
        DUE.is("player 2 of 2", x.put(1, 2), CupDraws.UNKNOWN);
        DUE.is("player 8", x.put(1, 8), CupDraws.UNKNOWN);
        DUE.is("player -1", x.put(1, -1), CupDraws.UNKNOWN);
        DUE.is("player -8", x.put(1, -8), CupDraws.UNKNOWN);
        DUE.is("has another place", x.put(1, 0), CupDraws.STATE);
        DUE.is("unknown before state", x.put(4, 0), CupDraws.UNKNOWN);
        DUE.is("what is refused changes nothing", x.at(1), CupDraws.NONE);
    }

    private static void putOpensAll() {
        CupDraws x = fullCup();
        x.won(0, 0);
        x.won(3, 7);
        DUE.is("a refused put", x.put(0, 1), CupDraws.STATE);
        DUE.is("opens none", x.count(3), 2);
        DUE.is("the same once more", x.put(5, 5), 5);
        DUE.is("opens all", x.count(3), 0);
        x.won(0, 0);
        x.put(7, CupDraws.NONE);
        DUE.is("taking away opens all", x.count(3), 0);
    }

    private static void atRefusals() {
        CupDraws x = new CupDraws();
        x.cup(2);
        DUE.is("at(2) of 2", x.at(2), CupDraws.UNKNOWN);
        DUE.is("at(8)", x.at(8), CupDraws.UNKNOWN);
        DUE.is("at(-1)", x.at(-1), CupDraws.UNKNOWN);
        DUE.is("at(-9)", x.at(-9), CupDraws.UNKNOWN);
        DUE.is("at(1)", x.at(1), CupDraws.NONE);
    }

    private static void wonUpToTheFinal() {
        CupDraws x = fullCup();
        int[] winners = {1, 2, 4, 7, 2, 4, 4};
        for (int match = 0; match < 7; match++) {
            DUE.is("won " + match, x.won(match, winners[match]), match + 1);
        }
        for (int match = 0; match < 7; match++) {
            DUE.is("who won " + match, x.match(match, 2), winners[match]);
        }
        DUE.is("sure of it", x.can(4), 2);
    }

    private static void wonRefusals() {
        CupDraws x = fullCup();
        DUE.is("match 7 of 7", x.won(7, 0), CupDraws.UNKNOWN);
        DUE.is("match -1", x.won(-1, 0), CupDraws.UNKNOWN);
        DUE.is("player 8 of 8", x.won(0, 8), CupDraws.UNKNOWN);
        DUE.is("player NONE", x.won(0, CupDraws.NONE), CupDraws.UNKNOWN);
        DUE.is("of another match", x.won(0, 2), CupDraws.STATE);
        DUE.is("sides are open", x.won(4, 0), CupDraws.STATE);
        DUE.is("unknown before state", x.won(4, 9), CupDraws.UNKNOWN);
        x.won(0, 0);
        DUE.is("decided already", x.won(0, 0), CupDraws.STATE);
        DUE.is("one side is open", x.won(4, 0), CupDraws.STATE);
        x.won(1, 3);
        x.open(0);
        DUE.is("the other side is open", x.won(4, 3), CupDraws.STATE);
        x.won(0, 0);
        DUE.is("who lost below", x.won(4, 1), CupDraws.STATE);
        DUE.is("who won below", x.won(4, 3), 3);
        DUE.is("the final's other side is open", x.won(6, 3), CupDraws.STATE);
        x.put(2, CupDraws.NONE);
        DUE.is("a bye", x.won(1, 3), CupDraws.STATE);
        x.put(3, CupDraws.NONE);
        DUE.is("a void one", x.won(1, 3), CupDraws.STATE);
        DUE.is("who has no place", x.won(0, 3), CupDraws.STATE);
        DUE.is("what is refused changes nothing", x.count(3), 0);
    }

    private static void wonAboveByes() {
        CupDraws x = new CupDraws();
        x.players(4);
        x.put(0, 0);
        x.put(1, 1);
        x.put(4, 2);
        DUE.is("match 4 is a bye", x.match(4, 1), 1);
        DUE.is("above a bye where two can come", x.won(6, 2), CupDraws.STATE);
        x.chance(0, 1, 12);
        DUE.is("where just one can come", x.match(4, 3), 1);
        DUE.is("not who can not come", x.won(6, 1), CupDraws.STATE);
        DUE.is("that one", x.won(6, 0), 1);
        DUE.is("open again", x.open(6), 0);
        x.chance(0, 1, 6);
        x.won(0, 1);
        DUE.is("above a bye of a decided one", x.won(6, 1), 2);
        x.put(6, 3);
        x.won(0, 1);
        DUE.is("above an open one of byes", x.won(6, 1), CupDraws.STATE);
        DUE.is("which is not decided by chances alone", x.chance(2, 3, 12), 6);
        DUE.is("so not either", x.won(6, 1), CupDraws.STATE);
        DUE.is("but when it is won", x.won(5, 3), 2);
        DUE.is("the final then", x.won(6, 3), 3);
    }

    private static void wonWithChanceNought() {
        CupDraws x = new CupDraws();
        x.cup(2);
        x.put(0, 0);
        x.put(1, 1);
        x.chance(0, 1, 0);
        DUE.is("without a chance", x.can(0), 0);
        DUE.is("won for all that", x.won(0, 0), 1);
        DUE.is("surely", x.can(0), 2);
    }

    private static void openTakesThoseAbove() {
        CupDraws x = fullCup();
        int[] winners = {0, 2, 4, 6, 0, 4, 0};
        for (int match = 0; match < 7; match++) {
            x.won(match, winners[match]);
        }
        DUE.is("the final", x.open(6), 6);
        x.won(6, 4);
        DUE.is("of round 2", x.open(5), 5);
        DUE.is("the other of round 2 stays", x.match(4, 2), 0);
        x.won(5, 6 - 2);
        x.won(6, 4);
        DUE.is("of round 1", x.open(1), 4);
        DUE.is("its neighbour stays", x.match(0, 2), 0);
        DUE.is("above it", x.match(4, 2), CupDraws.NONE);
        DUE.is("the final too", x.match(6, 2), CupDraws.NONE);
        DUE.is("not beside", x.match(5, 2), 4);
    }

    private static void openRefusals() {
        CupDraws x = fullCup();
        DUE.is("match 7 of 7", x.open(7), CupDraws.UNKNOWN);
        DUE.is("match -1", x.open(-1), CupDraws.UNKNOWN);
        DUE.is("not decided", x.open(0), CupDraws.STATE);
        x.won(0, 0);
        DUE.is("not that one", x.open(4), CupDraws.STATE);
        DUE.is("what is refused changes nothing", x.count(3), 1);
        x.cup(2);
        DUE.is("match 1 of 1", x.open(1), CupDraws.UNKNOWN);
        DUE.is("void", x.open(0), CupDraws.STATE);
    }

    private static void matchNumbers() {
        CupDraws x = new CupDraws();
        int[] rounds = {1, 1, 1, 1, 2, 2, 3};
        for (int match = 0; match < 7; match++) {
            DUE.is("round of " + match + " of 8", x.match(match, 0), rounds[match]);
        }
        x.cup(4);
        DUE.is("round of 0 of 4", x.match(0, 0), 1);
        DUE.is("round of 1 of 4", x.match(1, 0), 1);
        DUE.is("round of 2 of 4", x.match(2, 0), 2);
        x.cup(2);
        DUE.is("round of 0 of 2", x.match(0, 0), 1);
    }

    private static void matchKinds() {
        CupDraws x = new CupDraws();
        x.players(3);
        x.put(0, 0);
        DUE.is("a bye", x.match(0, 1), 1);
        DUE.is("a bye above", x.match(4, 1), 1);
        DUE.is("the final is a bye", x.match(6, 1), 1);
        DUE.is("void", x.match(1, 1), 0);
        DUE.is("void above", x.match(5, 1), 0);
        x.put(1, 1);
        x.put(7, 2);
        DUE.is("open", x.match(0, 1), 2);
        DUE.is("the final is open", x.match(6, 1), 2);
        DUE.is("a bye of the right side", x.match(5, 1), 1);
        DUE.is("nobody won", x.match(0, 2), CupDraws.NONE);
        DUE.is("who has a bye did not win", x.match(5, 2), CupDraws.NONE);
        x.won(0, 1);
        DUE.is("decided", x.match(0, 1), 3);
        DUE.is("who won", x.match(0, 2), 1);
    }

    private static void matchComers() {
        CupDraws x = fullCup();
        DUE.is("to round 1", x.match(0, 3), 2);
        DUE.is("to round 2", x.match(4, 3), 4);
        DUE.is("to the final", x.match(6, 3), 8);
        x.chance(0, 1, 0);
        DUE.is("less who can not", x.match(4, 3), 3);
        DUE.is("there all the same", x.match(0, 3), 2);
        x.won(1, 2);
        DUE.is("less who lost", x.match(4, 3), 2);
        x.chance(1, 2, 12);
        DUE.is("to the final less three", x.match(6, 3), 5);
        x.cup(8);
        DUE.is("to a void one", x.match(6, 3), 0);
        x.put(2, 3);
        DUE.is("to a bye", x.match(6, 3), 1);
    }

    private static void matchRefusals() {
        CupDraws x = new CupDraws();
        DUE.is("match 7", x.match(7, 0), CupDraws.UNKNOWN);
        DUE.is("match -1", x.match(-1, 0), CupDraws.UNKNOWN);
        DUE.is("what 4", x.match(0, 4), CupDraws.OUTSIDE);
        DUE.is("what -1", x.match(0, -1), CupDraws.OUTSIDE);
        DUE.is("unknown before outside", x.match(7, 4), CupDraws.UNKNOWN);
        x.cup(4);
        DUE.is("match 3 of 3", x.match(3, 0), CupDraws.UNKNOWN);
    }
}
