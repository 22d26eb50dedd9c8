/** Promises 11 to 13: reach, meet, can. */
public final class ChancesTest {
    private static final Due DUE = new Due("ChancesTest");

    public static void main(String[] args) {
        reachOfAll();
        reachOfEven();
        reachOfTheBetter();
        reachInLeastTerms();
        reachWithByes();
        reachWithResults();
        reachRefusals();
        meetInOneRound();
        meetWithResults();
        meetWithByes();
        meetRefusals();
        canOfChances();
        canOfResults();
        canRefusals();
        DUE.end();
    }

    private static CupDraws fullCup() {
        CupDraws x = new CupDraws();
        x.players(8);
        for (int place = 0; place < 8; place++) {
            x.put(place, place);
        }
        return x;
    }

    private static void reach(CupDraws x, int player, int round, long above, long below) {
        DUE.isFraction("reach(" + player + ", " + round + ")", x.reach(player, round, true),
                x.reach(player, round, false), above, below);
    }

    private static void meet(CupDraws x, int a, int b, int round, long above, long below) {
        DUE.isFraction("meet(" + a + ", " + b + ", " + round + ")", x.meet(a, b, round, true),
                x.meet(a, b, round, false), above, below);
    }

    private static void reachOfAll() {
        CupDraws x = new CupDraws();
        reach(x, 0, 0, 0, 1);
        reach(x, 0, 3, 0, 1);
        x.put(3, 0);
        reach(x, 0, 0, 1, 1);
        reach(x, 0, 3, 1, 1);
        reach(x, 1, 0, 0, 1);
        reach(x, 1, 1, 0, 1);
    }

    private static void reachOfEven() {
        CupDraws x = fullCup();
        for (int player = 0; player < 8; player++) {
            reach(x, player, 0, 1, 1);
            reach(x, player, 1, 1, 2);
            reach(x, player, 2, 1, 4);
            reach(x, player, 3, 1, 8);
        }
    }

    private static void reachOfTheBetter() {
        CupDraws x = fullCup();
        for (int other = 1; other < 8; other++) {
            x.chance(0, other, 11);
        }
        reach(x, 0, 1, 11, 12);
        reach(x, 0, 2, 121, 144);
        reach(x, 0, 3, 1331, 1728);
        reach(x, 1, 1, 1, 12);
        reach(x, 1, 2, 1, 24);
        reach(x, 1, 3, 1, 48);
        // 1/4 * (121/144 * 1/12 + 23/144 * 1/2): 7 comes to the final by 1/4 and finds 0 there by 121/144.
        reach(x, 7, 3, 259, 6912);
    }

    private static void reachInLeastTerms() {
        CupDraws x = new CupDraws();
        x.cup(2);
        x.put(0, 0);
        x.put(1, 1);
        int[][] due = {{0, 1}, {1, 12}, {1, 6}, {1, 4}, {1, 3}, {5, 12}, {1, 2}, {7, 12}, {2, 3}, {3, 4}, {5, 6},
            {11, 12}, {1, 1}};
        for (int k = 0; k <= 12; k++) {
            x.chance(0, 1, k);
            reach(x, 0, 1, due[k][0], due[k][1]);
            reach(x, 1, 1, due[12 - k][0], due[12 - k][1]);
        }
    }

    private static void reachWithByes() {
        CupDraws x = new CupDraws();
        x.players(3);
        x.chance(0, 1, 4);
        x.chance(0, 2, 9);
        x.chance(1, 2, 8);
        x.put(0, 0);
        x.put(1, 1);
        x.put(6, 2);
        reach(x, 0, 1, 1, 3);
        reach(x, 0, 2, 1, 3);
        reach(x, 2, 1, 1, 1);
        reach(x, 2, 2, 1, 1);
        reach(x, 0, 3, 1, 4);
        reach(x, 1, 3, 4, 9);
        reach(x, 2, 3, 11, 36);
    }

    private static void reachWithResults() {
        CupDraws x = fullCup();
        x.chance(0, 1, 12);
        x.won(0, 1);
        reach(x, 0, 0, 1, 1);
        reach(x, 0, 1, 0, 1);
        reach(x, 1, 1, 1, 1);
        reach(x, 1, 2, 1, 2);
        x.won(1, 2);
        x.won(4, 2);
        reach(x, 1, 2, 0, 1);
        reach(x, 2, 2, 1, 1);
        reach(x, 2, 3, 1, 2);
        reach(x, 7, 3, 1, 8);
        x.open(0);
        reach(x, 1, 1, 0, 1);
        reach(x, 0, 2, 1, 2);
        reach(x, 3, 1, 0, 1);
    }

    private static void reachRefusals() {
        CupDraws x = new CupDraws();
        DUE.is("player 2 of 2", x.reach(2, 0, true), CupDraws.UNKNOWN);
        DUE.is("player -1", x.reach(-1, 0, false), CupDraws.UNKNOWN);
        DUE.is("round 4", x.reach(0, 4, true), CupDraws.OUTSIDE);
        DUE.is("round -1", x.reach(0, -1, false), CupDraws.OUTSIDE);
        DUE.is("unknown before outside", x.reach(2, 4, true), CupDraws.UNKNOWN);
        x.cup(4);
        DUE.is("round 3 of 4", x.reach(0, 3, true), CupDraws.OUTSIDE);
        DUE.is("round 2 of 4", x.reach(0, 2, false), 1);
        x.cup(2);
        DUE.is("round 2 of 2", x.reach(0, 2, true), CupDraws.OUTSIDE);
        DUE.is("round 1 of 2", x.reach(0, 1, false), 1);
    }

    private static void meetInOneRound() {
        CupDraws x = fullCup();
        for (int other = 1; other < 8; other++) {
            x.chance(0, other, 11);
        }
        meet(x, 0, 1, 1, 1, 1);
        meet(x, 0, 1, 0, 1, 1);
        meet(x, 0, 1, 2, 0, 1);
        meet(x, 2, 0, 2, 11, 24);
        meet(x, 0, 2, 0, 11, 24);
        meet(x, 0, 2, 3, 0, 1);
        meet(x, 0, 7, 3, 121, 576);
        meet(x, 7, 0, 0, 121, 576);
        meet(x, 7, 0, 2, 0, 1);
        meet(x, 1, 3, 2, 1, 24);
        x.put(7, CupDraws.NONE);
        meet(x, 0, 7, 0, 0, 1);
        meet(x, 7, 0, 3, 0, 1);
    }

    private static void meetWithResults() {
        CupDraws x = fullCup();
        x.won(0, 0);
        x.won(1, 3);
        meet(x, 0, 1, 1, 1, 1);
        meet(x, 0, 3, 2, 1, 1);
        meet(x, 1, 3, 2, 0, 1);
        x.won(4, 3);
        meet(x, 0, 3, 2, 1, 1);
        meet(x, 3, 0, 0, 1, 1);
        meet(x, 3, 4, 3, 1, 4);
        meet(x, 0, 4, 3, 0, 1);
        meet(x, 0, 4, 0, 0, 1);
    }

    private static void meetWithByes() {
        CupDraws x = new CupDraws();
        x.put(0, 0);
        x.put(7, 1);
        meet(x, 0, 1, 3, 1, 1);
        meet(x, 0, 1, 0, 1, 1);
        meet(x, 0, 1, 1, 0, 1);
        x.chance(0, 1, 0);
        meet(x, 0, 1, 3, 1, 1);
    }

    private static void meetRefusals() {
        CupDraws x = new CupDraws();
        DUE.is("a 2 of 2", x.meet(2, 0, 0, true), CupDraws.UNKNOWN);
        DUE.is("b -1", x.meet(0, -1, 0, true), CupDraws.UNKNOWN);
        DUE.is("round 4", x.meet(0, 1, 4, true), CupDraws.OUTSIDE);
        DUE.is("round -1", x.meet(0, 1, -1, false), CupDraws.OUTSIDE);
        DUE.is("both are one", x.meet(1, 1, 0, false), CupDraws.STATE);
        DUE.is("unknown before outside", x.meet(0, 2, 4, true), CupDraws.UNKNOWN);
        DUE.is("unknown before state", x.meet(2, 2, 0, true), CupDraws.UNKNOWN);
        DUE.is("outside before state", x.meet(0, 0, 4, true), CupDraws.OUTSIDE);
        x.cup(4);
        DUE.is("round 3 of 4", x.meet(0, 1, 3, true), CupDraws.OUTSIDE);
    }

    private static void canOfChances() {
        CupDraws x = new CupDraws();
        DUE.is("without a place", x.can(0), 0);
        x.put(5, 0);
        DUE.is("alone", x.can(0), 2);
        DUE.is("not there", x.can(1), 0);
        x.put(0, 1);
        DUE.is("perhaps", x.can(0), 1);
        DUE.is("perhaps the other", x.can(1), 1);
        x.chance(0, 1, 1);
        DUE.is("perhaps by 1", x.can(0), 1);
        x.chance(0, 1, 0);
        DUE.is("surely not", x.can(0), 0);
        DUE.is("surely", x.can(1), 2);
        x.cup(2);
        x.put(0, 0);
        x.put(1, 1);
        x.chance(0, 1, 1);
        DUE.is("not surely against 1", x.can(1), 1);
    }

    private static void canOfResults() {
        CupDraws x = fullCup();
        x.won(0, 0);
        DUE.is("who lost", x.can(1), 0);
        DUE.is("who won", x.can(0), 1);
        // 0 can win only against 3, so what happens between 2 and 3 decides.
        for (int other = 2; other < 8; other++) {
            x.chance(0, other, other == 3 ? 1 : 12);
        }
        x.chance(2, 3, 0);
        DUE.is("3 bars not quite", x.can(0), 1);
        DUE.is("3 may", x.can(3), 1);
        DUE.is("2 can not", x.can(2), 0);
        x.chance(0, 3, 12);
        DUE.is("barred is all else", x.can(0), 2);
        DUE.is("such as 3", x.can(3), 0);
        x.won(1, 2);
        DUE.is("2 can not even so", x.can(2), 0);
        x.won(4, 2);
        DUE.is("but now", x.can(2), 1);
    }

    private static void canRefusals() {
        CupDraws x = new CupDraws();
        DUE.is("player 2 of 2", x.can(2), CupDraws.UNKNOWN);
        DUE.is("player -1", x.can(-1), CupDraws.UNKNOWN);
        DUE.is("player NONE", x.can(CupDraws.NONE), CupDraws.UNKNOWN);
        DUE.is("player 8", x.can(8), CupDraws.UNKNOWN);
    }
}
