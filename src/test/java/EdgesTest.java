/** The words of "Promise 1" to "Promise 22" that name a boundary case, sentence by sentence; refusals: RefusalsTest. */
public final class EdgesTest {
    private static final int NONE = CupDraws.NONE, UNKNOWN = CupDraws.UNKNOWN, STATE = CupDraws.STATE;
    private static final int OUTSIDE = CupDraws.OUTSIDE;
    private static final Due DUE = new Due("EdgesTest");

    public static void main(String[] args) {
        newObject();
        playersForgetAll();
        playersKeepTheSize();
        chanceWhatItWas();
        apartUntilWhich();
        cupEmptiesAll();
        cupOfLessAndMorePlaces();
        putWhoWasThere();
        putOpensEvenWithoutChange();
        atFirstAndLast();
        wonAboveAByeWhereTwoCanCome();
        wonAboveAByeWhereJustOneCanCome();
        wonOfEachRound();
        wonByChanceNought();
        openThoseAbove();
        matchOfVoidAndFull();
        matchOfManyAndByes();
        chancesAndDraws();
        DUE.end();
    }

    private static void chancesAndDraws() {
        reachRoundNought();
        reachOfTheFinal();
        meetOfAnyRound();
        meetWhatIsDecided();
        canOfNone();
        canOfOneAndTwo();
        drawsOfTheSizeAndThePlayers();
        drawFirstAndLast();
        layTakesThePlaces();
        likeNeedsAll();
        likeFollowsWhatIsAllowed();
        bestOfSeveralTheFirst();
        bestIsTheFirstByWins();
        bestFollowsChanges();
        winsWithoutWhatIsDecided();
        meanOfAllAllowed();
        firstOfEachRound();
        countFromNoneToAll();
        callsUpToTheLast();
    }

    private static CupDraws of(int players, int size, int... places) {
        CupDraws x = new CupDraws();
        x.players(players);
        x.cup(size);
        for (int place = 0; place < places.length; place++) {
            if (places[place] != NONE) {
                x.put(place, places[place]);
            }
        }
        return x;
    }

    private static CupDraws full() {
        return of(8, 8, 0, 1, 2, 3, 4, 5, 6, 7);
    }

    private static CupDraws playedOut() {
        CupDraws x = full();
        int[] winners = {0, 2, 4, 6, 0, 4, 0};
        for (int match = 0; match < 7; match++) {
            x.won(match, winners[match]);
        }
        return x;
    }

    private static void reach(CupDraws x, int player, int round, long above, long below) {
        DUE.isFraction("reach(" + player + ", " + round + ")", x.reach(player, round, true),
                x.reach(player, round, false), above, below);
    }

    private static void meet(CupDraws x, int a, int b, int round, long above, long below) {
        DUE.isFraction("meet(" + a + ", " + b + ", " + round + ")", x.meet(a, b, round, true),
                x.meet(a, b, round, false), above, below);
    }

    private static void wins(CupDraws x, int i, int player, long above, long below) {
        DUE.isFraction("wins(" + i + ", " + player + ")", x.wins(i, player, true), x.wins(i, player, false), above,
                below);
    }

    private static void mean(CupDraws x, int player, long above, long below) {
        DUE.isFraction("mean(" + player + ")", x.mean(player, true), x.mean(player, false), above, below);
    }

    // 1: "Two PLAYERS, an EMPTY CUP of SIZE 8." Each call as the very first one.
    private static void newObject() {
        DUE.is("players", new CupDraws().players(8), 2);
        DUE.is("chance", new CupDraws().chance(1, 0, 12), 6);
        DUE.is("apart", new CupDraws().apart(1, 0, 3), 1);
        DUE.is("cup", new CupDraws().cup(2), 8);
        DUE.is("put", new CupDraws().put(7, 1), NONE);
        DUE.is("put NONE", new CupDraws().put(7, NONE), NONE);
        DUE.is("at", new CupDraws().at(7), NONE);
        DUE.is("won", new CupDraws().won(6, 1), STATE);
        DUE.is("open", new CupDraws().open(6), STATE);
        DUE.is("match 0", new CupDraws().match(6, 0), 3);
        DUE.is("match 1", new CupDraws().match(6, 1), 0);
        DUE.is("match 2", new CupDraws().match(6, 2), NONE);
        DUE.is("match 3", new CupDraws().match(6, 3), 0);
        reach(new CupDraws(), 1, 3, 0, 1);
        meet(new CupDraws(), 1, 0, 3, 0, 1);
        DUE.is("can", new CupDraws().can(1), 0);
        DUE.is("draws", new CupDraws().draws(), 3);
        DUE.is("draw", new CupDraws().draw(2, 4), 1);
        DUE.is("lay", new CupDraws().lay(2), 1);
        DUE.is("like", new CupDraws().like(), NONE);
        DUE.is("best", new CupDraws().best(1, false), 0);
        wins(new CupDraws(), 2, 1, 1, 2);
        mean(new CupDraws(), 1, 1, 2);
        DUE.is("first", new CupDraws().first(0, 1, 3), 1);
        DUE.is("count", new CupDraws().count(0), 2);
    }

    // 2: "all CHANCES are 6, nobody is APART, all PLACES EMPTY, no MATCH is DECIDED: how many there were"
    private static void playersForgetAll() {
        CupDraws x = playedOut();
        for (int a = 0; a < 8; a++) {
            for (int b = a + 1; b < 8; b++) {
                x.chance(a, b, 12);
                x.apart(a, b, 3);
            }
        }
        DUE.is("as many as before", x.players(8), 8);
        for (int what = 2; what < 5; what++) {
            DUE.is("count(" + what + ")", x.count(what), 0);
        }
        DUE.is("draws()", x.draws(), 315);
        mean(x, 0, 1, 8);
        for (int a = 0; a < 8; a++) {
            DUE.is("at(" + a + ")", x.at(a), NONE);
            for (int b = a + 1; b < 8; b++) {
                DUE.is("chance(" + a + ", " + b + ")", x.chance(a, b, 6), 6);
                DUE.is("apart(" + a + ", " + b + ")", x.apart(a, b, 1), 1);
            }
        }
        CupDraws y = full();
        y.chance(6, 7, 1);
        y.apart(6, 7, 3);
        DUE.is("players(2)", y.players(2), 8);
        DUE.is("players(8)", y.players(8), 2);
        DUE.is("those who went have no place", y.count(2), 0);
        DUE.is("nor chances", y.chance(6, 7, 6), 6);
        DUE.is("nor are they apart", y.apart(6, 7, 1), 1);
    }

    private static void playersKeepTheSize() {
        for (int size = 2; size <= 8; size += size) {
            CupDraws x = of(2, size);
            x.players(8);
            DUE.is("the size", x.count(1), size);
            x.players(2);
            DUE.is("the size again", x.cup(8), size);
        }
    }

    // 3: "what it was"
    private static void chanceWhatItWas() {
        CupDraws x = full();
        DUE.is("at first", x.chance(7, 0, 0), 6);
        DUE.is("0", x.chance(7, 0, 12), 0);
        DUE.is("12", x.chance(7, 0, 1), 12);
        DUE.is("the same twice", x.chance(7, 0, 1), 1);
        DUE.is("the other's", x.chance(0, 7, 11), 11);
        x.won(0, 1);
        x.chance(0, 1, 12);
        DUE.is("what is DECIDED stays", x.match(0, 2), 1);
        DUE.is("how many", x.count(3), 1);
    }

    // 4: "until a ROUND (1: not, 2, 3): until which they were (1)"
    private static void apartUntilWhich() {
        CupDraws x = full();
        x.won(0, 0);
        DUE.is("at first", x.apart(0, 7, 3), 1);
        DUE.is("until 3", x.apart(7, 0, 2), 3);
        DUE.is("until 2", x.apart(0, 7, 2), 2);
        DUE.is("one pair", x.count(4), 1);
        DUE.is("until 2 again", x.apart(0, 7, 1), 2);
        DUE.is("not", x.apart(7, 0, 1), 1);
        DUE.is("no pair", x.count(4), 0);
        DUE.is("what is DECIDED stays", x.count(3), 1);
        DUE.is("places stay", x.count(2), 8);
        CupDraws y = of(2, 2);
        DUE.is("until a ROUND above the final", y.apart(0, 1, 3), 1);
        DUE.is("none is ALLOWED", y.draws(), 0);
        y.cup(8);
        DUE.is("a CUP leaves who is apart", y.apart(0, 1, 1), 3);
        y.cup(2);
        DUE.is("the only one", y.draws(), 1);
    }

    // 5: "all PLACES EMPTY, nothing DECIDED: the SIZE that was"
    private static void cupEmptiesAll() {
        for (int size = 2; size <= 8; size += size) {
            CupDraws x = playedOut();
            x.chance(0, 7, 3);
            x.apart(0, 7, 2);
            DUE.is("the SIZE that was", x.cup(size), 8);
            DUE.is("PLACES", x.count(2), 0);
            DUE.is("DECIDED", x.count(3), 0);
            DUE.is("the players stay", x.count(0), 8);
            DUE.is("those apart stay", x.count(4), 1);
            DUE.is("the chances stay", x.chance(0, 7, 3), 3);
            DUE.is("who had a place is free", x.put(size - 1, 0), NONE);
            DUE.is("the SIZE that was then", x.cup(2), size);
        }
    }

    private static void cupOfLessAndMorePlaces() {
        CupDraws x = playedOut();
        x.cup(2);
        DUE.is("behind 2", x.put(2, 0), UNKNOWN);
        x.put(0, 7);
        x.put(1, 6);
        x.won(0, 6);
        DUE.is("the final of 2", x.can(6), 2);
        DUE.is("back to 8", x.cup(8), 2);
        for (int place = 0; place < 8; place++) {
            DUE.is("at(" + place + ")", x.at(place), NONE);
        }
        for (int match = 0; match < 7; match++) {
            DUE.is("kind of " + match, x.match(match, 1), 0);
            DUE.is("who WON " + match, x.match(match, 2), NONE);
        }
        DUE.is("who WON can not any more", x.can(6), 0);
    }

    // 6: "(NONE: it is EMPTY then) .. who was there (NONE)"
    private static void putWhoWasThere() {
        CupDraws x = of(8, 8);
        DUE.is("nobody taken away", x.put(0, NONE), NONE);
        DUE.is("to the first place", x.put(0, 7), NONE);
        DUE.is("to the last place", x.put(7, 0), NONE);
        DUE.is("the same one", x.put(7, 0), 0);
        DUE.is("another", x.put(7, 1), 0);
        DUE.is("the one before", x.put(7, 0), 1);
        DUE.is("taken away", x.put(7, NONE), 0);
        DUE.is("it is EMPTY then", x.at(7), NONE);
        DUE.is("one is left", x.count(2), 1);
    }

    // 6: "no MATCH is DECIDED any more"
    private static void putOpensEvenWithoutChange() {
        for (int place = 0; place < 8; place++) {
            CupDraws x = playedOut();
            DUE.is("the same one", x.put(place, place), place);
            DUE.is("DECIDED after it", x.count(3), 0);
        }
        CupDraws y = of(2, 8, 0, 1);
        y.won(0, 1);
        DUE.is("nobody from an EMPTY place", y.put(7, NONE), NONE);
        DUE.is("DECIDED after it", y.count(3), 0);
        y.won(0, 1);
        DUE.is("taken away", y.put(0, NONE), 0);
        DUE.is("DECIDED after that", y.count(3), 0);
    }

    // 7: "Who is at a PLACE; NONE."
    private static void atFirstAndLast() {
        CupDraws x = of(8, 8, 7, NONE, NONE, NONE, NONE, NONE, NONE, 0);
        DUE.is("the first", x.at(0), 7);
        DUE.is("the last", x.at(7), 0);
        DUE.is("an EMPTY one", x.at(6), NONE);
        DUE.is("results do not matter", x.won(6, 7), 1);
        DUE.is("the last still", x.at(7), 0);
    }

    // 8: "nor a BYE where just one CAN come", of the left and of the right SIDE
    private static void wonAboveAByeWhereTwoCanCome() {
        CupDraws x = of(4, 8, 0, 1, NONE, NONE, NONE, NONE, 2);
        DUE.is("two of the left side, by one of them", x.won(6, 0), STATE);
        DUE.is("two of the left side, by the one of the right", x.won(6, 2), STATE);
        CupDraws y = of(4, 8, 2, NONE, NONE, NONE, NONE, NONE, 0, 1);
        DUE.is("two of the right side, by one of them", y.won(6, 1), STATE);
        DUE.is("two of the right side, by the one of the left", y.won(6, 2), STATE);
        y.chance(0, 1, 1);
        DUE.is("1 of twelve bars it", y.won(6, 1), STATE);
        y.chance(0, 1, 11);
        DUE.is("11 of twelve bar it", y.won(6, 0), STATE);
    }

    private static void wonAboveAByeWhereJustOneCanCome() {
        CupDraws x = of(4, 8, 0, 1, NONE, NONE, NONE, NONE, 2);
        x.chance(0, 1, 12);
        DUE.is("who can not come", x.won(6, 1), STATE);
        DUE.is("who can, by chance", x.won(6, 0), 1);
        x.open(6);
        DUE.is("the one of the other side", x.won(6, 2), 1);
        CupDraws y = of(4, 8, 2, NONE, NONE, NONE, NONE, NONE, 0, 1);
        y.won(3, 1);
        DUE.is("who lost below", y.won(6, 0), STATE);
        DUE.is("who WON below", y.won(6, 1), 2);
        CupDraws z = of(4, 8, 0, 1, 2, NONE, NONE, 3);
        z.chance(0, 1, 12);
        DUE.is("above one that is open, though just one CAN come", z.won(4, 0), STATE);
        z.chance(0, 2, 12);
        DUE.is("the final above that", z.won(6, 0), STATE);
    }

    private static void wonOfEachRound() {
        CupDraws x = of(2, 2, 1, 0);
        DUE.is("the only match of 2", x.won(0, 0), 1);
        DUE.is("again", x.won(0, 0), STATE);
        CupDraws y = of(4, 4, 3, 2, 1, 0);
        DUE.is("the final of 4 first", y.won(2, 3), STATE);
        DUE.is("match 1 of 4", y.won(1, 0), 1);
        DUE.is("the final after one", y.won(2, 0), STATE);
        DUE.is("match 0 of 4", y.won(0, 3), 2);
        DUE.is("who lost", y.won(2, 1), STATE);
        DUE.is("the final of 4", y.won(2, 0), 3);
        CupDraws z = full();
        int[] order = {3, 2, 5, 1, 0, 4, 6};
        int[] winners = {1, 3, 5, 7, 3, 7, 7};
        for (int k = 0; k < 7; k++) {
            DUE.is("how many are DECIDED", z.won(order[k], winners[order[k]]), k + 1);
        }
        DUE.is("the first match still", z.match(0, 2), 1);
    }

    // 8: "(CHANCE 0 does not bar it.)"
    private static void wonByChanceNought() {
        CupDraws x = full();
        for (int other = 1; other < 8; other++) {
            x.chance(0, other, 0);
        }
        DUE.is("round 1", x.won(0, 0), 1);
        x.won(1, 2);
        DUE.is("round 2", x.won(4, 0), 3);
        x.won(2, 4);
        x.won(3, 6);
        x.won(5, 4);
        DUE.is("the final", x.won(6, 0), 7);
        DUE.is("surely", x.can(0), 2);
        reach(x, 0, 3, 1, 1);
    }

    // 9: "nor those above it: how many are"
    private static void openThoseAbove() {
        int[][] left = {{1, 2, 3, 5}, {0, 2, 3, 5}, {0, 1, 3, 4}, {0, 1, 2, 4}, {0, 1, 2, 3, 5}, {0, 1, 2, 3, 4},
            {0, 1, 2, 3, 4, 5}};
        for (int match = 0; match < 7; match++) {
            CupDraws x = playedOut();
            DUE.is("open(" + match + ")", x.open(match), left[match].length);
            DUE.is("count(3)", x.count(3), left[match].length);
            for (int stays : left[match]) {
                DUE.is("stays " + stays, x.match(stays, 1), 3);
            }
            DUE.is("it is not any more", x.open(match), STATE);
        }
        CupDraws y = of(2, 2, 0, 1);
        y.won(0, 0);
        DUE.is("the only one of 2", y.open(0), 0);
        CupDraws z = of(4, 4, 0, 1, 2, 3);
        z.won(0, 0);
        z.won(1, 2);
        z.won(2, 0);
        DUE.is("match 1 of 4", z.open(1), 1);
        DUE.is("match 0 stays", z.match(0, 2), 0);
        CupDraws w = of(3, 8, 0, 1, NONE, NONE, 2);
        w.won(0, 0);
        w.won(6, 2);
        DUE.is("through a BYE", w.open(0), 0);
        DUE.is("the final is open", w.match(6, 1), 2);
    }

    // 10: 0 to 3, in the smallest, an empty and a full cup
    private static void matchOfVoidAndFull() {
        CupDraws x = of(2, 2);
        int[] empty = {1, 0, NONE, 0};
        int[] one = {1, 1, NONE, 1};
        int[] two = {1, 2, NONE, 2};
        int[] won = {1, 3, 0, 2};
        for (int what = 0; what < 4; what++) {
            DUE.is("of none: " + what, x.match(0, what), empty[what]);
        }
        x.put(1, 0);
        for (int what = 0; what < 4; what++) {
            DUE.is("of one: " + what, x.match(0, what), one[what]);
        }
        x.put(0, 1);
        for (int what = 0; what < 4; what++) {
            DUE.is("of two: " + what, x.match(0, what), two[what]);
        }
        x.won(0, 0);
        for (int what = 0; what < 4; what++) {
            DUE.is("won: " + what, x.match(0, what), won[what]);
        }
        DUE.is("what 4", x.match(0, 4), OUTSIDE);
        DUE.is("what -1", x.match(0, -1), OUTSIDE);
    }

    private static void matchOfManyAndByes() {
        CupDraws x = full();
        int[] comers = {2, 2, 2, 2, 4, 4, 8};
        for (int match = 0; match < 7; match++) {
            DUE.is("who CAN come to " + match, x.match(match, 3), comers[match]);
        }
        CupDraws y = playedOut();
        for (int match = 0; match < 7; match++) {
            DUE.is("who CAN come to " + match + " of those played", y.match(match, 3), 2);
        }
        y.put(0, NONE);
        DUE.is("a BYE", y.match(0, 1), 1);
        DUE.is("who WON a BYE", y.match(0, 2), NONE);
        DUE.is("who CAN come to a BYE", y.match(0, 3), 1);
        y.put(1, NONE);
        DUE.is("VOID", y.match(0, 1), 0);
        DUE.is("who CAN come to a VOID one", y.match(0, 3), 0);
        DUE.is("a BYE of two", y.match(4, 3), 2);
        DUE.is("is one", y.match(4, 1), 1);
    }

    // 11: "(0: has a PLACE)"
    private static void reachRoundNought() {
        CupDraws x = of(3, 2, 2, 0);
        reach(x, 0, 0, 1, 1);
        reach(x, 1, 0, 0, 1);
        reach(x, 2, 0, 1, 1);
        x.won(0, 0);
        reach(x, 2, 0, 1, 1);
        reach(x, 2, 1, 0, 1);
        x.put(0, NONE);
        reach(x, 2, 0, 0, 1);
        reach(x, 0, 1, 1, 1);
    }

    // 11: "BYES too"; "round is not 0 .. that of the FINAL"
    private static void reachOfTheFinal() {
        for (int size = 2; size <= 8; size += size) {
            int last = size == 2 ? 1 : size == 4 ? 2 : 3;
            CupDraws x = of(2, size);
            x.put(size - 1, 1);
            for (int round = 0; round <= last; round++) {
                reach(x, 1, round, 1, 1);
                reach(x, 0, round, 0, 1);
            }
            DUE.is("above the final", x.reach(1, last + 1, true), OUTSIDE);
            DUE.is("below 0", x.reach(1, -1, true), OUTSIDE);
            x.put(0, 0);
            x.chance(0, 1, 1);
            reach(x, 1, last - 1, 1, 1);
            reach(x, 1, last, 11, 12);
        }
    }

    // 12: "(0: of any)"
    private static void meetOfAnyRound() {
        CupDraws x = full();
        int[] rounds = {0, 1, 2, 2, 3, 3, 3, 3};
        int[] below = {0, 1, 4, 4, 16, 16, 16, 16};
        for (int other = 1; other < 8; other++) {
            for (int round = 1; round <= 3; round++) {
                boolean there = round == rounds[other];
                meet(x, 0, other, round, there ? 1 : 0, there ? below[other] : 1);
            }
            meet(x, 0, other, 0, 1, below[other]);
            meet(x, other, 0, 0, 1, below[other]);
        }
        CupDraws y = of(3, 2, 0, 1);
        meet(y, 0, 1, 0, 1, 1);
        meet(y, 1, 0, 1, 1, 1);
        meet(y, 0, 2, 0, 0, 1);
        meet(y, 2, 1, 1, 0, 1);
        DUE.is("above the final", y.meet(0, 1, 2, true), OUTSIDE);
        DUE.is("below 0", y.meet(0, 1, -1, true), OUTSIDE);
        y.put(0, NONE);
        meet(y, 0, 1, 0, 0, 1);
    }

    // 12: "(What is DECIDED counts as it is: those who WON, those who lost met.)"
    private static void meetWhatIsDecided() {
        CupDraws x = playedOut();
        int[][] met = {{0, 1, 1}, {2, 3, 1}, {4, 5, 1}, {6, 7, 1}, {0, 2, 2}, {4, 6, 2}, {0, 4, 3}};
        for (int a = 0; a < 8; a++) {
            for (int b = a + 1; b < 8; b++) {
                int round = 0;
                for (int[] pair : met) {
                    round = pair[0] == a && pair[1] == b ? pair[2] : round;
                }
                for (int asked = 0; asked <= 3; asked++) {
                    boolean there = round > 0 && (asked == 0 || asked == round);
                    meet(x, a, b, asked, there ? 1 : 0, 1);
                }
            }
        }
        CupDraws y = of(4, 4, 0, 1, 2, 3);
        y.chance(0, 1, 0);
        y.won(0, 0);
        meet(y, 0, 1, 1, 1, 1);
        meet(y, 0, 2, 2, 1, 2);
        meet(y, 1, 2, 2, 0, 1);
    }

    // 13: "surely not 0", in an empty cup and of one who has no place
    private static void canOfNone() {
        for (int size = 2; size <= 8; size += size) {
            CupDraws x = of(8, size);
            for (int player = 0; player < 8; player++) {
                DUE.is("in an empty cup", x.can(player), 0);
            }
            x.put(size - 1, 0);
            DUE.is("the only one", x.can(0), 2);
            DUE.is("one who has no place", x.can(7), 0);
        }
    }

    // 13: "whether none but this one CAN WIN it, whether this one CAN"
    private static void canOfOneAndTwo() {
        CupDraws x = of(2, 2, 0, 1);
        int[][] due = {{0, 2}, {1, 1}, {1, 1}, {2, 0}};
        int[] twelfths = {0, 1, 11, 12};
        for (int k = 0; k < 4; k++) {
            x.chance(0, 1, twelfths[k]);
            DUE.is("0 by " + twelfths[k], x.can(0), due[k][0]);
            DUE.is("1 by " + twelfths[k], x.can(1), due[k][1]);
        }
        x.won(0, 1);
        DUE.is("who lost against chance", x.can(0), 0);
        DUE.is("who WON against chance", x.can(1), 2);
        CupDraws y = playedOut();
        for (int player = 0; player < 8; player++) {
            DUE.is("when all is played", y.can(player), player == 0 ? 2 : 0);
        }
        y.open(6);
        for (int player = 0; player < 8; player++) {
            DUE.is("before the final", y.can(player), player == 0 || player == 4 ? 1 : 0);
        }
        CupDraws z = full();
        for (int other = 0; other < 7; other++) {
            z.chance(7, other, 12);
        }
        DUE.is("who beats all", z.can(7), 2);
        z.chance(7, 3, 11);
        DUE.is("not all surely", z.can(7), 1);
        DUE.is("by a small chance", z.can(3), 1);
        DUE.is("the others not", z.can(6), 0);
    }

    // 14: "(of the SIZE and the PLAYERS)", as they are after each change
    private static void drawsOfTheSizeAndThePlayers() {
        CupDraws x = new CupDraws();
        DUE.is("2 in 8", x.draws(), 3);
        x.cup(4);
        DUE.is("2 in 4", x.draws(), 2);
        x.players(4);
        DUE.is("4 in 4", x.draws(), 3);
        x.apart(2, 3, 2);
        DUE.is("4 in 4, two apart", x.draws(), 2);
        x.apart(2, 3, 3);
        DUE.is("4 in 4, two apart too far", x.draws(), 0);
        x.cup(8);
        DUE.is("4 in 8, two apart", x.draws() > 0 && x.draws() < 27 ? 1 : 0, 1);
        x.apart(3, 2, 1);
        DUE.is("4 in 8", x.draws(), 27);
        x.put(0, 3);
        x.chance(0, 1, 12);
        DUE.is("places and chances do not matter", x.draws(), 27);
        x.players(8);
        DUE.is("8 in 8", x.draws(), 315);
        x.cup(2);
        DUE.is("8 in 2", x.draws(), 0);
        x.players(2);
        DUE.is("2 in 2", x.draws(), 1);
    }

    // 15: "Who is at a PLACE in a DRAW; NONE: it is EMPTY"
    private static void drawFirstAndLast() {
        CupDraws x = of(2, 2);
        DUE.is("the only one, 0", x.draw(0, 0), 0);
        DUE.is("the only one, 1", x.draw(0, 1), 1);
        DUE.is("a second one", x.draw(1, 0), UNKNOWN);
        DUE.is("a third place", x.draw(0, 2), UNKNOWN);
        CupDraws y = of(2, 8);
        int[][] rows = {{0, 1, NONE, NONE, NONE, NONE, NONE, NONE}, {0, NONE, 1, NONE, NONE, NONE, NONE, NONE},
            {0, NONE, NONE, NONE, 1, NONE, NONE, NONE}};
        for (int i = 0; i < 3; i++) {
            for (int place = 0; place < 8; place++) {
                DUE.is("draw(" + i + ", " + place + ")", y.draw(i, place), rows[i][place]);
            }
        }
        DUE.is("behind the last one", y.draw(3, 0), UNKNOWN);
        y.apart(0, 1, 2);
        DUE.is("the first that is ALLOWED", y.draw(0, 2), 1);
        DUE.is("behind the last that is ALLOWED", y.draw(2, 0), UNKNOWN);
        y.put(0, 1);
        DUE.is("PLACES do not matter", y.draw(0, 0), 0);
    }

    // 16: "PLACES become those of a DRAW, nothing is DECIDED: 1."
    private static void layTakesThePlaces() {
        CupDraws x = playedOut();
        DUE.is("the first", x.lay(0), 1);
        DUE.is("DECIDED", x.count(3), 0);
        DUE.is("the last", x.lay(314), 1);
        int[] last = {0, 7, 5, 6, 1, 4, 2, 3};
        for (int place = 0; place < 8; place++) {
            DUE.is("at(" + place + ")", x.at(place), last[place]);
        }
        CupDraws y = of(2, 8, NONE, NONE, NONE, NONE, NONE, NONE, 1, 0);
        y.won(3, 1);
        DUE.is("over others", y.lay(2), 1);
        DUE.is("who was elsewhere is there", y.at(4), 1);
        DUE.is("not where they were", y.at(6), NONE);
        DUE.is("nor the other", y.at(7), NONE);
        DUE.is("two PLACES", y.count(2), 2);
        DUE.is("DECIDED", y.count(3), 0);
        y.apart(0, 1, 3);
        DUE.is("the only one ALLOWED", y.lay(0), 1);
        DUE.is("the same", y.at(4), 1);
        DUE.is("which is no other's number", y.lay(1), UNKNOWN);
    }

    // 17: "NONE: not all PLAYERS have one"
    private static void likeNeedsAll() {
        CupDraws x = of(3, 8);
        DUE.is("nobody", x.like(), NONE);
        x.put(7, 2);
        DUE.is("one", x.like(), NONE);
        x.put(3, 0);
        DUE.is("two of three", x.like(), NONE);
        x.put(0, 1);
        DUE.is("all", x.like(), 5);
        x.won(4, 1);
        DUE.is("results do not matter", x.like(), 5);
        x.put(7, NONE);
        DUE.is("one went", x.like(), NONE);
        x.players(3);
        DUE.is("nobody again", x.like(), NONE);
    }

    // 17: "or it is not ALLOWED"
    private static void likeFollowsWhatIsAllowed() {
        CupDraws x = of(4, 4, 3, 0, 1, 2);
        DUE.is("the last of 3", x.like(), 2);
        x.apart(0, 1, 2);
        DUE.is("the last of 2", x.like(), 1);
        x.apart(0, 2, 2);
        DUE.is("the only one", x.like(), 0);
        x.apart(0, 3, 2);
        DUE.is("not ALLOWED", x.like(), NONE);
        x.apart(0, 1, 1);
        DUE.is("not ALLOWED, but another", x.like(), NONE);
        DUE.is("that other", x.draws(), 1);
        x.lay(0);
        DUE.is("laid", x.like(), 0);
        DUE.is("with 0 and 1", x.at(1), 1);
    }

    // 18: "of several the first; NONE: none is ALLOWED"
    private static void bestOfSeveralTheFirst() {
        int[][] alike = {{2, 2}, {2, 4}, {4, 4}, {2, 8}, {8, 8}};
        for (int[] kind : alike) {
            CupDraws x = of(kind[0], kind[1]);
            for (int player = 0; player < kind[0]; player++) {
                DUE.is("the greatest of all alike", x.best(player, false), 0);
                DUE.is("the least of all alike", x.best(player, true), 0);
            }
        }
        CupDraws y = of(4, 4);
        y.chance(0, 1, 0);
        DUE.is("the greatest, 1/4, is of 1 and 2", y.best(0, false), 1);
        DUE.is("the least is 0", y.best(0, true), 0);
        y.chance(0, 1, 12);
        DUE.is("the least of two alike", y.best(0, true), 1);
        DUE.is("the greatest is the first", y.best(0, false), 0);
        y.apart(0, 1, 3);
        DUE.is("none is ALLOWED", y.best(0, false), NONE);
        DUE.is("nor for the least", y.best(0, true), NONE);
        DUE.is("UNKNOWN all the same", y.best(4, true), UNKNOWN);
    }

    // 18: by all that wins() tells, read from two cups so that none is asked more often than the document says
    private static void bestIsTheFirstByWins() {
        for (int players = 3; players <= 7; players++) {
            for (int player = 0; player < players; player += 2) {
                CupDraws above = unevenOf(players);
                CupDraws below = unevenOf(players);
                int best = 0;
                int worst = 0;
                long[][] told = new long[above.draws()][];
                for (int i = 0; i < told.length; i++) {
                    told[i] = new long[] {above.wins(i, player, true), below.wins(i, player, false)};
                    best = compare(told[i], told[best]) > 0 ? i : best;
                    worst = compare(told[i], told[worst]) < 0 ? i : worst;
                }
                DUE.is("the greatest for " + player + " of " + players, above.best(player, false), best);
                DUE.is("the least for " + player + " of " + players, below.best(player, true), worst);
            }
        }
    }

    private static CupDraws unevenOf(int players) {
        CupDraws x = of(players, 8);
        for (int a = 1; a < players; a++) {
            x.chance(a - 1, a, 5 * a % 13);
        }
        return x;
    }

    private static int compare(long[] one, long[] other) {
        return Long.compare(one[0] * other[1], other[0] * one[1]);
    }

    private static void bestFollowsChanges() {
        CupDraws x = of(4, 4);
        DUE.is("all alike", x.best(3, false), 0);
        x.chance(3, 0, 0);
        DUE.is("away from 0", x.best(3, false), 0);
        DUE.is("worst against 0", x.best(3, true), 2);
        x.apart(2, 3, 2);
        DUE.is("one fewer before it", x.best(3, true), 1);
        DUE.is("the greatest of those left", x.best(3, false), 0);
        x.players(4);
        DUE.is("all alike again", x.best(3, true), 0);
        x.chance(3, 0, 0);
        DUE.is("worst again", x.best(3, true), 2);
        x.cup(8);
        DUE.is("another size", x.draw(x.best(3, true), 1), 3);
        x.cup(2);
        DUE.is("too small a size", x.best(3, true), NONE);
    }

    // 19: "That a PLAYER wins the FINAL of a DRAW", whatever is in the cup
    private static void winsWithoutWhatIsDecided() {
        CupDraws x = of(2, 8, 0, 1);
        x.chance(0, 1, 1);
        x.won(0, 0);
        for (int i = 0; i < 3; i++) {
            wins(x, i, 0, 1, 12);
            wins(x, i, 1, 11, 12);
        }
        DUE.is("still DECIDED", x.count(3), 1);
        DUE.is("places stay", x.at(1), 1);
        reach(x, 0, 3, 1, 1);
        DUE.is("behind the last one", x.wins(3, 0, true), UNKNOWN);
        x.apart(0, 1, 3);
        wins(x, 0, 0, 1, 12);
        DUE.is("behind the only one", x.wins(1, 0, true), UNKNOWN);
        x.chance(0, 1, 0);
        wins(x, 0, 0, 0, 1);
        wins(x, 0, 1, 1, 1);
        x.cup(2);
        DUE.is("none is ALLOWED", x.wins(0, 0, true), UNKNOWN);
        x.apart(0, 1, 1);
        wins(x, 0, 1, 1, 1);
        x.players(2);
        wins(x, 0, 1, 1, 2);
    }

    // 20: "The mean of these over all DRAWS that are ALLOWED"
    private static void meanOfAllAllowed() {
        CupDraws x = of(4, 4);
        x.chance(0, 1, 12);
        x.chance(0, 2, 0);
        // With 1 first: 1/2 of 3's other; with 2 first: 0; with 3 first: 1/2 * 1/2.
        wins(x, 0, 0, 1, 4);
        wins(x, 1, 0, 0, 1);
        wins(x, 2, 0, 1, 4);
        mean(x, 0, 1, 6);
        x.apart(0, 2, 2);
        mean(x, 0, 1, 4);
        x.apart(0, 2, 1);
        x.apart(0, 1, 2);
        mean(x, 0, 1, 8);
        x.apart(0, 3, 2);
        mean(x, 0, 0, 1);
        x.apart(0, 2, 2);
        DUE.is("none is ALLOWED", x.mean(0, true), STATE);
        DUE.is("none is ALLOWED, below", x.mean(0, false), STATE);
        x.put(0, 0);
        x.apart(0, 1, 1);
        x.apart(0, 2, 1);
        x.apart(0, 3, 1);
        mean(x, 0, 1, 6);
        x.chance(0, 2, 12);
        x.chance(0, 3, 12);
        mean(x, 0, 1, 1);
    }

    // 21: "In how many .. two PLAYERS could meet first in a ROUND (1 .. that of the FINAL)"
    private static void firstOfEachRound() {
        for (int players = 2; players <= 8; players++) {
            CupDraws x = of(players, 8);
            int sum = x.first(0, players - 1, 1) + x.first(players - 1, 0, 2) + x.first(0, players - 1, 3);
            DUE.is("all rounds of " + players, sum, x.draws());
        }
        CupDraws y = of(2, 2);
        DUE.is("the only one", y.first(1, 0, 1), 1);
        DUE.is("round 2 of 2", y.first(1, 0, 2), OUTSIDE);
        DUE.is("round 0", y.first(1, 0, 0), OUTSIDE);
        y.cup(4);
        DUE.is("round 1 of 4", y.first(0, 1, 1), 1);
        DUE.is("round 2 of 4", y.first(0, 1, 2), 1);
        DUE.is("round 3 of 4", y.first(0, 1, 3), OUTSIDE);
        y.apart(0, 1, 2);
        DUE.is("not ALLOWED", y.first(0, 1, 1), 0);
        DUE.is("ALLOWED", y.first(0, 1, 2), 1);
        y.cup(2);
        DUE.is("none is ALLOWED", y.first(0, 1, 1), 0);
        CupDraws z = of(4, 4);
        z.apart(0, 1, 2);
        z.apart(2, 3, 2);
        DUE.is("of two draws that are ALLOWED", z.first(0, 2, 1), 1);
        DUE.is("in the other one", z.first(0, 2, 2), 1);
        DUE.is("in both of them", z.first(3, 2, 2), 2);
    }

    // 22: from none to all of each
    private static void countFromNoneToAll() {
        CupDraws x = of(8, 8);
        int pairs = 0;
        for (int a = 0; a < 8; a++) {
            DUE.is("PLACES that are not EMPTY", x.count(2), a);
            x.put(a, 7 - a);
            for (int b = 0; b < a; b++) {
                DUE.is("pairs", x.count(4), pairs);
                x.apart(a, b, 2 + (a + b) % 2);
                pairs++;
            }
        }
        DUE.is("all places", x.count(2), 8);
        DUE.is("all pairs", x.count(4), 28);
        int[] winners = {7, 5, 3, 1, 7, 3, 7};
        for (int match = 0; match < 7; match++) {
            DUE.is("MATCHES that are DECIDED", x.count(3), match);
            x.won(match, winners[match]);
        }
        DUE.is("all matches", x.count(3), 7);
        x.apart(0, 1, 3);
        DUE.is("the same pair once more", x.count(4), 28);
        x.apart(0, 1, 1);
        DUE.is("a pair that is not any more", x.count(4), 27);
        DUE.is("what 5", x.count(5), OUTSIDE);
        DUE.is("what -1", x.count(-1), OUTSIDE);
        x.put(0, NONE);
        DUE.is("a BYE is no MATCH that is DECIDED", x.count(3), 0);
        DUE.is("seven places", x.count(2), 7);
    }

    // "An object is used for at most 512 calls": the dearest ones, and the last is answered as the first.
    private static void callsUpToTheLast() {
        CupDraws x = new CupDraws();
        x.players(8);
        int[][] due = {{0, 1}, {1, 1728}, {1, 216}, {1, 64}, {1, 27}, {125, 1728}, {1, 8}, {343, 1728}, {8, 27},
            {27, 64}, {125, 216}, {1331, 1728}, {1, 1}};
        int calls = 1;
        for (int run = 0; calls + 11 <= 512; run++) {
            int k = run * 5 % 13;
            for (int other = 1; other < 8; other++) {
                x.chance(0, other, k);
            }
            x.apart(6, 7, 1 + run % 3);
            DUE.is("draws()", x.draws(), run % 3 == 0 ? 315 : run % 3 == 1 ? 270 : 180);
            mean(x, 0, due[k][0], due[k][1]);
            calls += 11;
        }
        while (calls < 511) {
            x.apart(6, 7, 1);
            calls++;
        }
        DUE.is("the last call", x.draws(), 315);
    }
}
