/** Promises 1 to 4: a new object, players, chance, apart. */
public final class PlayersTest {
    private static final Due DUE = new Due("PlayersTest");

    public static void main(String[] args) {
        newObject();
        playersAnew();
        playersOutside();
        chanceAndItsOpposite();
        chanceEdges();
        chanceRefusals();
        chanceLeavesWhatIsDecided();
        apartForBoth();
        apartRefusals();
        DUE.end();
    }

    private static void newObject() {
        CupDraws x = new CupDraws();
        DUE.is("players of a new one", x.count(0), 2);
        DUE.is("size of a new one", x.count(1), 8);
        DUE.is("filled places of a new one", x.count(2), 0);
        DUE.is("decided matches of a new one", x.count(3), 0);
        DUE.is("pairs apart of a new one", x.count(4), 0);
        for (int place = 0; place < 8; place++) {
            DUE.is("at " + place, x.at(place), CupDraws.NONE);
        }
        for (int match = 0; match < 7; match++) {
            DUE.is("kind of match " + match, x.match(match, 1), 0);
        }
        DUE.is("draws as the first call", new CupDraws().draws(), 3);
        DUE.is("best as the first call", new CupDraws().best(1, true), 0);
        DUE.isFraction("mean as the first call", new CupDraws().mean(0, true), new CupDraws().mean(0, false), 1, 2);
        DUE.is("a chance at first", x.chance(1, 0, 3), 6);
        DUE.is("apart at first", x.apart(1, 0, 2), 1);
    }

    private static void playersAnew() {
        CupDraws x = new CupDraws();
        DUE.is("players(3)", x.players(3), 2);
        DUE.is("cup(4)", x.cup(4), 8);
        x.chance(0, 1, 12);
        x.apart(0, 1, 2);
        x.put(0, 0);
        x.put(1, 1);
        x.put(3, 2);
        DUE.is("won", x.won(0, 0), 1);
        DUE.is("players(8)", x.players(8), 3);
        DUE.is("count(0)", x.count(0), 8);
        DUE.is("the size stays", x.count(1), 4);
        DUE.is("places are empty", x.count(2), 0);
        DUE.is("nothing is decided", x.count(3), 0);
        DUE.is("nobody is apart", x.count(4), 0);
        DUE.is("the chance is even again", x.chance(0, 1, 6), 6);
        DUE.is("no draw of 8 in 4", x.draws(), 0);
        DUE.is("players(2)", x.players(2), 8);
        DUE.is("the last one is unknown", x.can(2), CupDraws.UNKNOWN);
        DUE.is("players(2) again", x.players(2), 2);
    }

    private static void playersOutside() {
        CupDraws x = new CupDraws();
        x.put(0, 1);
        for (int n : new int[] {1, 9, 0, -1, Integer.MIN_VALUE, Integer.MAX_VALUE}) {
            DUE.is("players(" + n + ")", x.players(n), CupDraws.OUTSIDE);
        }
        DUE.is("what is refused changes nothing", x.at(0), 1);
        DUE.is("count(0)", x.count(0), 2);
    }

    private static void chanceAndItsOpposite() {
        CupDraws x = new CupDraws();
        x.players(3);
        DUE.is("chance(0, 2, 5)", x.chance(0, 2, 5), 6);
        DUE.is("its opposite", x.chance(2, 0, 1), 7);
        DUE.is("back again", x.chance(0, 2, 6), 11);
        DUE.is("others are as they were", x.chance(0, 1, 6), 6);
        DUE.is("others are as they were", x.chance(1, 2, 6), 6);
    }

    private static void chanceEdges() {
        CupDraws x = new CupDraws();
        DUE.is("0", x.chance(0, 1, 0), 6);
        DUE.is("of 0 the opposite is 12", x.chance(1, 0, 12), 12);
        DUE.is("12", x.chance(0, 1, 12), 0);
        DUE.is("of 12 the opposite is 0", x.chance(1, 0, 6), 0);
    }

    private static void chanceRefusals() {
        CupDraws x = new CupDraws();
        DUE.is("no such a", x.chance(2, 0, 5), CupDraws.UNKNOWN);
        DUE.is("no such b", x.chance(0, 2, 5), CupDraws.UNKNOWN);
        DUE.is("NONE is no player", x.chance(CupDraws.NONE, 0, 5), CupDraws.UNKNOWN);
        DUE.is("-1 is no player", x.chance(0, -1, 5), CupDraws.UNKNOWN);
        DUE.is("k 13", x.chance(0, 1, 13), CupDraws.OUTSIDE);
        DUE.is("k -1", x.chance(0, 1, -1), CupDraws.OUTSIDE);
        DUE.is("both are one", x.chance(1, 1, 6), CupDraws.STATE);
        DUE.is("unknown before outside", x.chance(0, 2, 13), CupDraws.UNKNOWN);
        DUE.is("unknown before state", x.chance(2, 2, 6), CupDraws.UNKNOWN);
        DUE.is("outside before state", x.chance(0, 0, 13), CupDraws.OUTSIDE);
        DUE.is("what is refused changes nothing", x.chance(0, 1, 6), 6);
    }

    private static void chanceLeavesWhatIsDecided() {
        CupDraws x = new CupDraws();
        x.put(0, 0);
        x.put(1, 1);
        x.won(0, 1);
        x.chance(0, 1, 12);
        DUE.is("still decided", x.match(0, 2), 1);
        DUE.is("still sure", x.can(1), 2);
    }

    private static void apartForBoth() {
        CupDraws x = new CupDraws();
        x.players(3);
        DUE.is("apart(0, 2, 3)", x.apart(0, 2, 3), 1);
        DUE.is("the other way round", x.apart(2, 0, 2), 3);
        DUE.is("count(4)", x.count(4), 1);
        DUE.is("not any more", x.apart(0, 2, 1), 2);
        DUE.is("count(4) then", x.count(4), 0);
        DUE.is("others are as they were", x.apart(0, 1, 1), 1);
        x.apart(0, 1, 2);
        x.cup(2);
        DUE.is("a new cup leaves them apart", x.apart(1, 0, 2), 2);
        x.put(0, 0);
        DUE.is("apart leaves places", x.at(0), 0);
    }

    private static void apartRefusals() {
        CupDraws x = new CupDraws();
        DUE.is("no such a", x.apart(2, 0, 2), CupDraws.UNKNOWN);
        DUE.is("no such b", x.apart(0, -1, 2), CupDraws.UNKNOWN);
        DUE.is("round 0", x.apart(0, 1, 0), CupDraws.OUTSIDE);
        DUE.is("round 4", x.apart(0, 1, 4), CupDraws.OUTSIDE);
        DUE.is("both are one", x.apart(0, 0, 2), CupDraws.STATE);
        DUE.is("unknown before outside", x.apart(2, 0, 4), CupDraws.UNKNOWN);
        DUE.is("unknown before state", x.apart(2, 2, 2), CupDraws.UNKNOWN);
        DUE.is("outside before state", x.apart(1, 1, 0), CupDraws.OUTSIDE);
        DUE.is("what is refused changes nothing", x.apart(0, 1, 1), 1);
        x.cup(2);
        DUE.is("a round above the final's is taken", x.apart(0, 1, 3), 1);
    }
}
