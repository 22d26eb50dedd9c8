/** Promises 14 to 21: draws, draw, lay, like, best, wins, mean, first. */
public final class DrawsTest {
    private static final int NONE = CupDraws.NONE;
    private static final Due DUE = new Due("DrawsTest");

    public static void main(String[] args) {
        drawsOfAllNumbers();
        drawsApart();
        drawInOrder();
        drawRefusals();
        layTakesAllPlaces();
        layRefusals();
        likeAfterExchanges();
        likeNone();
        bestAndWorst();
        bestRefusals();
        winsOfDraws();
        winsRefusals();
        meanOfAll();
        meanRefusals();
        firstOfAll();
        firstRefusals();
        DUE.end();
    }

    private static CupDraws of(int players, int size) {
        CupDraws x = new CupDraws();
        x.players(players);
        x.cup(size);
        return x;
    }

    private static void row(CupDraws x, int i, int... row) {
        for (int place = 0; place < row.length; place++) {
            DUE.is("draw(" + i + ", " + place + ")", x.draw(i, place), row[place]);
        }
    }

    private static void drawsOfAllNumbers() {
        int[][] due = {{1, 0, 0, 0, 0, 0, 0}, {2, 3, 3, 0, 0, 0, 0}, {3, 9, 27, 75, 180, 315, 315}};
        for (int kind = 0; kind < 3; kind++) {
            for (int players = 2; players <= 8; players++) {
                CupDraws x = of(players, 2 << kind);
                DUE.is(players + " players in " + (2 << kind), x.draws(), due[kind][players - 2]);
            }
        }
    }

    private static void drawsApart() {
        CupDraws x = of(8, 8);
        x.apart(0, 1, 2);
        DUE.is("not in round 1", x.draws(), 270);
        x.apart(0, 1, 3);
        DUE.is("not before round 3", x.draws(), 180);
        x.apart(1, 0, 1);
        DUE.is("not apart any more", x.draws(), 315);
        CupDraws y = of(4, 4);
        y.apart(0, 1, 3);
        DUE.is("no round 3 in 4", y.draws(), 0);
        y.apart(0, 1, 2);
        DUE.is("round 2 is the final of 4", y.draws(), 2);
        CupDraws z = of(2, 8);
        z.apart(0, 1, 3);
        DUE.is("byes keep apart", z.draws(), 1);
        row(z, 0, 0, NONE, NONE, NONE, 1, NONE, NONE, NONE);
        z.chance(0, 1, 0);
        DUE.is("chances do not matter", z.draws(), 1);
    }

    private static void drawInOrder() {
        CupDraws x = of(3, 8);
        row(x, 0, 0, 1, 2, NONE, NONE, NONE, NONE, NONE);
        row(x, 1, 0, 1, NONE, NONE, 2, NONE, NONE, NONE);
        row(x, 2, 0, 2, 1, NONE, NONE, NONE, NONE, NONE);
        row(x, 3, 0, 2, NONE, NONE, 1, NONE, NONE, NONE);
        row(x, 4, 0, NONE, 1, 2, NONE, NONE, NONE, NONE);
        row(x, 5, 0, NONE, 1, NONE, 2, NONE, NONE, NONE);
        row(x, 6, 0, NONE, 2, NONE, 1, NONE, NONE, NONE);
        row(x, 7, 0, NONE, NONE, NONE, 1, 2, NONE, NONE);
        row(x, 8, 0, NONE, NONE, NONE, 1, NONE, 2, NONE);
        x.apart(1, 2, 2);
        DUE.is("two fewer", x.draws(), 7);
        row(x, 4, 0, NONE, 1, NONE, 2, NONE, NONE, NONE);
        CupDraws y = of(8, 8);
        row(y, 0, 0, 1, 2, 3, 4, 5, 6, 7);
        row(y, 1, 0, 1, 2, 3, 4, 6, 5, 7);
        row(y, 314, 0, 7, 5, 6, 1, 4, 2, 3);
    }

    private static void drawRefusals() {
        CupDraws x = of(4, 4);
        DUE.is("draw 3 of 3", x.draw(3, 0), CupDraws.UNKNOWN);
        DUE.is("draw -1", x.draw(-1, 0), CupDraws.UNKNOWN);
        DUE.is("place 4 of 4", x.draw(0, 4), CupDraws.UNKNOWN);
        DUE.is("place -1", x.draw(0, -1), CupDraws.UNKNOWN);
        x.players(5);
        DUE.is("more players than places", x.draw(0, 0), CupDraws.UNKNOWN);
        CupDraws y = of(8, 8);
        DUE.is("draw 1 << 29", y.draw(1 << 29, 0), CupDraws.UNKNOWN);
        DUE.is("draw 315 of 315", y.draw(315, 7), CupDraws.UNKNOWN);
    }

    private static void layTakesAllPlaces() {
        CupDraws x = of(3, 8);
        x.put(7, 0);
        x.put(6, 1);
        x.won(3, 0);
        DUE.is("lay(6)", x.lay(6), 1);
        int[] row = {0, NONE, 2, NONE, 1, NONE, NONE, NONE};
        for (int place = 0; place < 8; place++) {
            DUE.is("at(" + place + ")", x.at(place), row[place]);
        }
        DUE.is("nothing is decided", x.count(3), 0);
        x.won(4, 2);
        x.lay(6);
        DUE.is("nothing is decided after the same", x.count(3), 0);
        for (int i = 0; i < x.draws(); i++) {
            x.lay(i);
            DUE.is("like after lay(" + i + ")", x.like(), i);
        }
    }

    private static void layRefusals() {
        CupDraws x = of(4, 4);
        x.put(0, 3);
        DUE.is("draw 3 of 3", x.lay(3), CupDraws.UNKNOWN);
        DUE.is("draw -1", x.lay(-1), CupDraws.UNKNOWN);
        DUE.is("what is refused changes nothing", x.at(0), 3);
        x.apart(0, 1, 3);
        DUE.is("none is allowed", x.lay(0), CupDraws.UNKNOWN);
    }

    private static void likeAfterExchanges() {
        CupDraws x = of(8, 8);
        int[] row = {7, 6, 4, 5, 2, 3, 0, 1};
        for (int place = 0; place < 8; place++) {
            x.put(place, row[place]);
        }
        DUE.is("all exchanged", x.like(), 0);
        CupDraws y = of(3, 4);
        y.put(3, 0);
        y.put(1, 1);
        y.put(0, 2);
        DUE.is("an empty place goes behind", y.like(), 2);
        row(y, 2, 0, NONE, 1, 2);
        DUE.is("places stay", y.at(0), 2);
        y.won(0, 1);
        DUE.is("results do not matter", y.like(), 2);
        DUE.is("and stay", y.count(3), 1);
    }

    private static void likeNone() {
        CupDraws x = of(3, 4);
        DUE.is("nobody has a place", x.like(), NONE);
        x.put(0, 0);
        x.put(1, 1);
        DUE.is("one has none", x.like(), NONE);
        x.put(2, 2);
        DUE.is("all have one", x.like(), 0);
        x.apart(0, 1, 2);
        DUE.is("not allowed", x.like(), NONE);
        x.apart(0, 1, 1);
        x.apart(0, 2, 2);
        DUE.is("allowed, and the first now", x.like(), 0);
        x.apart(0, 2, 1);
        x.apart(1, 2, 2);
        DUE.is("allowed still", x.like(), 0);
        CupDraws y = of(3, 2);
        y.put(0, 0);
        y.put(1, 1);
        DUE.is("more players than places", y.like(), NONE);
    }

    private static void bestAndWorst() {
        CupDraws x = of(4, 4);
        DUE.is("all alike: the first", x.best(0, false), 0);
        DUE.is("all alike: the first as the worst", x.best(3, true), 0);
        x.chance(0, 1, 12);
        x.chance(0, 2, 0);
        x.chance(0, 3, 12);
        DUE.is("1/2, 0, 1/2: the best is the first of two", x.best(0, false), 0);
        DUE.is("the worst", x.best(0, true), 1);
        x.chance(1, 2, 12);
        DUE.is("1/2, 0, 1: the best where 1 keeps off 2", x.best(0, false), 2);
        x.chance(1, 2, 0);
        DUE.is("1/2, 0, 0: the best where 3 keeps off 2", x.best(0, false), 0);
        DUE.is("1/2, 0, 0: the worst is the first of two", x.best(0, true), 1);
        x.chance(1, 2, 12);
        x.apart(0, 1, 2);
        DUE.is("0, 1: the best of those that are allowed", x.best(0, false), 1);
        DUE.is("0, 1: the worst of those", x.best(0, true), 0);
        x.chance(0, 3, 0);
        DUE.is("0, 0: the first", x.best(0, false), 0);
    }

    private static void bestRefusals() {
        CupDraws x = of(5, 4);
        DUE.is("none is allowed", x.best(4, false), NONE);
        DUE.is("none is allowed for the worst", x.best(4, true), NONE);
        DUE.is("player 5 of 5", x.best(5, false), CupDraws.UNKNOWN);
        DUE.is("player -1", x.best(-1, true), CupDraws.UNKNOWN);
        CupDraws y = of(2, 2);
        DUE.is("the only one", y.best(1, true), 0);
    }

    private static void wins(CupDraws x, int i, int player, long above, long below) {
        DUE.isFraction("wins(" + i + ", " + player + ")", x.wins(i, player, true), x.wins(i, player, false), above,
                below);
    }

    private static void mean(CupDraws x, int player, long above, long below) {
        DUE.isFraction("mean(" + player + ")", x.mean(player, true), x.mean(player, false), above, below);
    }

    private static void winsOfDraws() {
        CupDraws x = of(3, 4);
        x.chance(0, 1, 4);
        x.chance(0, 2, 9);
        x.chance(1, 2, 8);
        // Draw 0: 0 and 1 first; draw 1: 0 and 2 first; draw 2: 1 and 2 first.
        wins(x, 0, 0, 1, 4);
        wins(x, 0, 1, 4, 9);
        wins(x, 0, 2, 11, 36);
        wins(x, 1, 0, 1, 4);
        wins(x, 1, 1, 2, 3);
        wins(x, 2, 0, 17, 36);
        x.lay(0);
        x.won(0, 1);
        wins(x, 0, 0, 1, 4);
        x.chance(0, 1, 0);
        wins(x, 0, 0, 0, 1);
        wins(x, 2, 0, 1, 4);
        CupDraws y = of(8, 8);
        for (int other = 1; other < 8; other++) {
            y.chance(0, other, 11);
        }
        wins(y, 314, 0, 1331, 1728);
        y.players(8);
        wins(y, 314, 0, 1, 8);
    }

    private static void winsRefusals() {
        CupDraws x = of(4, 4);
        DUE.is("draw 3 of 3", x.wins(3, 0, true), CupDraws.UNKNOWN);
        DUE.is("draw -1", x.wins(-1, 0, false), CupDraws.UNKNOWN);
        DUE.is("player 4 of 4", x.wins(0, 4, true), CupDraws.UNKNOWN);
        DUE.is("player -1", x.wins(0, -1, true), CupDraws.UNKNOWN);
        DUE.is("none is allowed", of(4, 2).wins(0, 0, true), CupDraws.UNKNOWN);
    }

    private static void meanOfAll() {
        CupDraws x = of(3, 4);
        x.chance(0, 1, 4);
        x.chance(0, 2, 9);
        x.chance(1, 2, 8);
        mean(x, 0, 35, 108);
        x.apart(1, 2, 2);
        mean(x, 0, 1, 4);
        x.chance(0, 1, 0);
        mean(x, 0, 0, 1);
        x.chance(0, 1, 12);
        x.chance(0, 2, 12);
        mean(x, 0, 1, 1);
        for (int players = 2; players <= 8; players++) {
            mean(of(players, 8), players - 1, 1, players);
        }
    }

    private static void meanRefusals() {
        CupDraws x = of(5, 4);
        DUE.is("none is allowed", x.mean(4, true), CupDraws.STATE);
        DUE.is("none is allowed, below", x.mean(4, false), CupDraws.STATE);
        DUE.is("unknown before state", x.mean(5, true), CupDraws.UNKNOWN);
        DUE.is("player -1", x.mean(-1, true), CupDraws.UNKNOWN);
        x.cup(8);
        DUE.is("allowed now", x.mean(4, false), 5);
    }

    private static void firstOfAll() {
        CupDraws x = of(8, 8);
        DUE.is("round 1", x.first(0, 1, 1), 45);
        DUE.is("round 2", x.first(1, 0, 2), 90);
        DUE.is("round 3", x.first(6, 7, 3), 180);
        x.apart(0, 1, 2);
        DUE.is("round 1 when apart", x.first(0, 1, 1), 0);
        DUE.is("round 2 when apart", x.first(0, 1, 2), 90);
        DUE.is("another pair in round 1", x.first(0, 2, 1), 45);
        CupDraws y = of(3, 8);
        DUE.is("3 players, round 1", y.first(1, 2, 1), 2);
        DUE.is("3 players, round 2", y.first(1, 2, 2), 3);
        DUE.is("3 players, round 3", y.first(1, 2, 3), 4);
        y.chance(0, 1, 12);
        DUE.is("chances do not matter", y.first(1, 2, 2), 3);
        DUE.is("none is allowed", of(8, 4).first(0, 1, 1), 0);
    }

    private static void firstRefusals() {
        CupDraws x = of(4, 4);
        DUE.is("a 4 of 4", x.first(4, 0, 1), CupDraws.UNKNOWN);
        DUE.is("b -1", x.first(0, -1, 1), CupDraws.UNKNOWN);
        DUE.is("round 0", x.first(0, 1, 0), CupDraws.OUTSIDE);
        DUE.is("round 3 of 4", x.first(0, 1, 3), CupDraws.OUTSIDE);
        DUE.is("both are one", x.first(2, 2, 1), CupDraws.STATE);
        DUE.is("unknown before outside", x.first(4, 0, 0), CupDraws.UNKNOWN);
        DUE.is("unknown before state", x.first(4, 4, 1), CupDraws.UNKNOWN);
        DUE.is("outside before state", x.first(1, 1, 3), CupDraws.OUTSIDE);
    }
}
