/**
 * The places where the document's words leave more than one way to read them, as the program takes them: results
 * that later changes below no longer lead to, who is kept apart, and who can win a cup that nobody can win.
 */
public final class ReadingsTest {
    private static final int NONE = CupDraws.NONE, STATE = CupDraws.STATE;
    private static final Due DUE = new Due("ReadingsTest");

    public static void main(String[] args) {
        finalDecidedBeforeTheMatchBelow();
        finalWonFromTheOpenSide();
        finalWonAgainstTheOpenSide();
        finalWonByWhoLosesBelow();
        openFromBelow();
        openSideOnTheRight();
        apartByPlacesAlone();
        couldMeetByPlacesAlone();
        surelyNotInAnEmptyCup();
        objectsInTurns();
        DUE.end();
    }

    private static CupDraws of(int players, int size, int... places) {
        CupDraws x = new CupDraws();
        x.players(players);
        x.cup(size);
        for (int place = 0; place < places.length; place++) {
            if (places[place] != NONE) {
                x.put(place, places[place]);
            }
        }
        return x;
    }

    /** 0 and 1 in match 0, above it a bye, 2 on the other side: 0 can come to the final by chance 12. */
    private static CupDraws openBelow() {
        CupDraws x = of(3, 8, 0, 1, NONE, NONE, 2);
        x.chance(0, 1, 12);
        return x;
    }

    private static void reach(CupDraws x, int player, int round, long above, long below) {
        DUE.isFraction("reach(" + player + ", " + round + ")", x.reach(player, round, true),
                x.reach(player, round, false), above, below);
    }

    private static void meet(CupDraws x, int a, int b, int round, long above, long below) {
        DUE.isFraction("meet(" + a + ", " + b + ", " + round + ")", x.meet(a, b, round, true),
                x.meet(a, b, round, false), above, below);
    }

    private static void canAll(CupDraws x, int... due) {
        for (int player = 0; player < due.length; player++) {
            DUE.is("can(" + player + ")", x.can(player), due[player]);
        }
    }

    // "nor a BYE where just one CAN come": so the FINAL may be DECIDED while match 0 is not.
    private static void finalDecidedBeforeTheMatchBelow() {
        CupDraws x = openBelow();
        DUE.is("the final", x.won(6, 0), 1);
        DUE.is("match 0 is not DECIDED", x.match(0, 1), 2);
        DUE.is("open(0)", x.open(0), STATE);
        canAll(x, 2, 0, 0);
        reach(x, 0, 2, 1, 1);
        meet(x, 0, 2, 3, 1, 1);
        meet(x, 1, 2, 3, 0, 1);
        DUE.is("match 0 then", x.won(0, 0), 2);
        canAll(x, 2, 0, 0);
        meet(x, 0, 2, 3, 1, 1);
    }

    // "DECIDED: who WON it"; "each MATCH that is not, goes by CHANCES, each by itself"
    private static void finalWonFromTheOpenSide() {
        CupDraws x = openBelow();
        x.won(6, 0);
        x.chance(0, 1, 3);
        DUE.is("still DECIDED", x.match(6, 1), 3);
        DUE.is("who WON", x.match(6, 2), 0);
        DUE.is("who CAN come there", x.match(6, 3), 3);
        canAll(x, 2, 0, 0);
        int[][] due = {{0, 1, 1, 4}, {0, 2, 1, 4}, {0, 3, 1, 1}, {1, 1, 3, 4}, {1, 2, 3, 4}, {1, 3, 0, 1},
            {2, 1, 1, 1}, {2, 2, 1, 1}, {2, 3, 0, 1}};
        for (int[] row : due) {
            reach(x, row[0], row[1], row[2], row[3]);
        }
        meet(x, 0, 1, 1, 1, 1);
        // They meet if both come there, and by what CHANCES they come is told by the matches below alone.
        meet(x, 0, 2, 3, 1, 4);
        meet(x, 1, 2, 3, 3, 4);
    }

    private static void finalWonAgainstTheOpenSide() {
        CupDraws x = openBelow();
        x.won(6, 2);
        x.chance(0, 1, 8);
        canAll(x, 0, 0, 2);
        reach(x, 0, 2, 2, 3);
        reach(x, 1, 2, 1, 3);
        reach(x, 0, 3, 0, 1);
        reach(x, 1, 3, 0, 1);
        reach(x, 2, 3, 1, 1);
        meet(x, 0, 2, 0, 2, 3);
        meet(x, 2, 1, 0, 1, 3);
    }

    // "(CHANCE 0 does not bar it.)": nor does a FINAL that is DECIDED bar it.
    private static void finalWonByWhoLosesBelow() {
        CupDraws x = openBelow();
        x.won(6, 0);
        DUE.is("match 0 by who has CHANCE 0", x.won(0, 1), 2);
        DUE.is("who WON the final", x.match(6, 2), 0);
        DUE.is("who CAN come there", x.match(6, 3), 2);
        canAll(x, 2, 0, 0);
        reach(x, 0, 1, 0, 1);
        reach(x, 0, 2, 0, 1);
        reach(x, 0, 3, 1, 1);
        reach(x, 1, 2, 1, 1);
        reach(x, 1, 3, 0, 1);
        meet(x, 0, 1, 0, 1, 1);
        meet(x, 1, 2, 3, 1, 1);
        meet(x, 0, 2, 3, 0, 1);
    }

    // "A MATCH is not DECIDED any more, nor those above it"
    private static void openFromBelow() {
        CupDraws x = openBelow();
        x.won(6, 0);
        x.won(0, 1);
        DUE.is("match 0 and the final", x.open(0), 0);
        DUE.is("the final is not any more", x.match(6, 1), 2);
        canAll(x, 1, 0, 1);
        CupDraws y = openBelow();
        y.won(6, 0);
        y.chance(0, 1, 11);
        DUE.is("the final alone", y.open(6), 0);
        DUE.is("two CAN come from the BYE now", y.won(6, 0), STATE);
        DUE.is("so neither", y.won(6, 2), STATE);
        canAll(y, 1, 1, 1);
    }

    private static void openSideOnTheRight() {
        CupDraws x = of(4, 8, 3, NONE, NONE, NONE, NONE, NONE, 0, 1);
        x.chance(1, 0, 12);
        DUE.is("by who CAN not come", x.won(6, 0), STATE);
        DUE.is("by who CAN", x.won(6, 1), 1);
        x.chance(1, 0, 6);
        canAll(x, 0, 2, 0, 0);
        reach(x, 1, 2, 1, 2);
        reach(x, 1, 3, 1, 1);
        meet(x, 0, 3, 3, 1, 2);
        DUE.is("of the places none changed", x.count(2), 3);
    }

    // "they are not to be able to meet in a MATCH of a lesser ROUND, whatever happens"
    private static void apartByPlacesAlone() {
        CupDraws x = of(3, 4);
        x.chance(0, 2, 0);
        x.chance(1, 2, 0);
        x.apart(0, 1, 3);
        DUE.is("who CAN not win round 1 could meet all the same", x.draws(), 0);
        x.apart(0, 1, 2);
        DUE.is("in the final", x.draws(), 2);
    }

    private static void couldMeetByPlacesAlone() {
        CupDraws x = of(4, 4);
        for (int other = 1; other < 4; other++) {
            x.chance(0, other, 0);
        }
        DUE.is("0, who CAN not come to the final, and 1 there", x.first(0, 1, 2), 2);
        DUE.is("in round 1", x.first(0, 1, 1), 1);
    }

    // "whether none but this one CAN WIN it, whether this one CAN"
    private static void surelyNotInAnEmptyCup() {
        CupDraws x = new CupDraws();
        canAll(x, 0, 0);
        x.put(7, 1);
        canAll(x, 0, 2);
        x.put(7, NONE);
        canAll(x, 0, 0);
    }

    // "A new object: Two PLAYERS, an EMPTY CUP of SIZE 8", whatever others hold; what one holds is its own.
    private static void objectsInTurns() {
        CupDraws x = openBelow();
        CupDraws y = new CupDraws();
        DUE.is("players of the new one", y.count(0), 2);
        DUE.is("its places", y.count(2), 0);
        y.cup(4);
        y.put(0, 1);
        x.apart(1, 2, 3);
        DUE.is("draws of x", x.draws(), 4);
        DUE.is("draws of y", y.draws(), 2);
        y.chance(0, 1, 1);
        DUE.is("the chance in x", x.chance(0, 1, 12), 12);
        DUE.isFraction("mean in y", y.mean(0, true), y.mean(0, false), 1, 12);
        x.won(6, 0);
        DUE.is("DECIDED in y", y.count(3), 0);
        DUE.is("apart in y", y.count(4), 0);
        DUE.is("draw of x", x.draw(3, 4), 1);
        DUE.is("draw of y", y.draw(1, 2), 1);
        DUE.is("at a place of y", y.at(0), 1);
        DUE.is("at a place of x", x.at(4), 2);
    }
}
