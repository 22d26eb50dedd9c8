import java.util.Arrays;

/** The words of "Terms" that name a boundary case, sentence by sentence. */
public final class TermsTest {
    private static final int NONE = CupDraws.NONE;
    private static final Due DUE = new Due("TermsTest");

    public static void main(String[] args) {
        noneIsMinusNine();
        longsTellRefusalsLikewise();
        fractionOfNought();
        fractionOfOne();
        fractionInLeastTerms();
        fractionBeyondInt();
        playersAreTwoToEight();
        chanceOfTheOther();
        placesOfEachSize();
        emptyAtFirst();
        noPlayerHasTwoPlaces();
        sidesOfEachMatch();
        voidAndBye();
        whoComesToAByeGoesOn();
        decidedOnlyWhatIsNeither();
        eachMatchByItself();
        canWinAgainstOneOfMany();
        canWinAgainstNone();
        canComeFromAByeAndADecided();
        likeByAllExchanges();
        notLikeByOthers();
        apartInEachSize();
        apartPassedByByes();
        apartWhateverHappens();
        emptyIsBehindAllPlayers();
        drawIsTheFirstOfThoseLike();
        noneIfMorePlayersThanPlaces();
        DUE.end();
    }

    private static CupDraws of(int players, int size, int... places) {
        CupDraws x = new CupDraws();
        x.players(players);
        x.cup(size);
        for (int place = 0; place < places.length; place++) {
            if (places[place] != NONE) {
                x.put(place, places[place]);
            }
        }
        return x;
    }

    private static void reach(CupDraws x, int player, int round, long above, long below) {
        DUE.isFraction("reach(" + player + ", " + round + ")", x.reach(player, round, true),
                x.reach(player, round, false), above, below);
    }

    private static void mean(CupDraws x, int player, long above, long below) {
        DUE.isFraction("mean(" + player + ")", x.mean(player, true), x.mean(player, false), above, below);
    }

    private static int lastRound(int size) {
        return size == 2 ? 1 : size == 4 ? 2 : 3;
    }

    // "NONE is -9."
    private static void noneIsMinusNine() {
        CupDraws x = new CupDraws();
        DUE.is("nobody at a place", x.at(0), -9);
        DUE.is("nobody was there", x.put(0, 1), -9);
        DUE.is("put(0, -9) takes away", x.put(0, -9), 1);
        DUE.is("nobody won", x.match(0, 2), -9);
        DUE.is("an empty place of a draw", x.draw(0, 7), -9);
        DUE.is("like none", x.like(), -9);
        x.apart(0, 1, 2);
        x.cup(2);
        DUE.is("no best one", x.best(0, false), -9);
    }

    // "Numbers told as longs: refusals are told likewise."
    private static void longsTellRefusalsLikewise() {
        CupDraws x = of(3, 2, 0, 1);
        for (boolean upper : new boolean[] {true, false}) {
            DUE.is("reach UNKNOWN " + upper, x.reach(3, 1, upper), -1L);
            DUE.is("reach OUTSIDE " + upper, x.reach(0, 2, upper), -2L);
            DUE.is("meet UNKNOWN " + upper, x.meet(0, 3, 1, upper), -1L);
            DUE.is("meet OUTSIDE " + upper, x.meet(0, 1, 2, upper), -2L);
            DUE.is("meet STATE " + upper, x.meet(1, 1, 1, upper), -3L);
            DUE.is("wins UNKNOWN " + upper, x.wins(0, 0, upper), -1L);
            DUE.is("mean UNKNOWN " + upper, x.mean(3, upper), -1L);
            DUE.is("mean STATE " + upper, x.mean(0, upper), -3L);
        }
    }

    // "(.. 1 and more; of 0: 1)"
    private static void fractionOfNought() {
        CupDraws x = of(2, 2, 0, 1);
        x.chance(0, 1, 0);
        reach(x, 0, 1, 0, 1);
        DUE.isFraction("wins", x.wins(0, 0, true), x.wins(0, 0, false), 0, 1);
        mean(x, 0, 0, 1);
        CupDraws y = of(4, 4, 0, 1, 2);
        reach(y, 3, 0, 0, 1);
        reach(y, 3, 2, 0, 1);
        DUE.isFraction("meet of one without a place", y.meet(0, 3, 1, true), y.meet(0, 3, 1, false), 0, 1);
        DUE.isFraction("meet in another round", y.meet(0, 1, 2, true), y.meet(0, 1, 2, false), 0, 1);
        y.chance(0, 1, 0);
        DUE.isFraction("meet of one who can not come", y.meet(0, 2, 2, true), y.meet(0, 2, 2, false), 0, 1);
    }

    private static void fractionOfOne() {
        CupDraws x = of(2, 2, 0, 1);
        x.chance(0, 1, 12);
        reach(x, 0, 0, 1, 1);
        reach(x, 0, 1, 1, 1);
        DUE.isFraction("meet", x.meet(0, 1, 1, true), x.meet(0, 1, 1, false), 1, 1);
        DUE.isFraction("wins", x.wins(0, 0, true), x.wins(0, 0, false), 1, 1);
        mean(x, 0, 1, 1);
    }

    // "FRACTIONS are told in least terms": both 12 to the seventh, which nothing shortens, and what is shortened.
    private static void fractionInLeastTerms() {
        CupDraws x = of(8, 8, 0, 1, 2, 3, 4, 5, 6, 7);
        int[][] chances = {{0, 1, 11}, {0, 2, 1}, {0, 3, 0}, {2, 3, 5}, {0, 4, 1}, {0, 5, 0}, {0, 6, 0}, {0, 7, 0},
            {4, 5, 5}, {6, 7, 7}, {4, 6, 7}, {4, 7, 2}};
        for (int[] chance : chances) {
            x.chance(chance[0], chance[1], chance[2]);
        }
        reach(x, 0, 1, 11, 12);
        reach(x, 0, 2, 55, 1728);
        // 11/12 * 5/144 * 5/12 * (7/12 * 7/12 + 5/12 * 2/12) * 1/12
        reach(x, 0, 3, 16225, 35831808);
        reach(x, 4, 2, 295, 1728);
        DUE.isFraction("meet(0, 4, 3)", x.meet(0, 4, 3, true), x.meet(0, 4, 3, false), 16225, 2985984);
        x.chance(0, 4, 2);
        reach(x, 0, 3, 16225, 17915904);
        x.chance(0, 4, 12);
        reach(x, 0, 3, 16225, 2985984);
    }

    // The dues were worked out apart from this program, over all 315 draws.
    private static void fractionBeyondInt() {
        CupDraws x = of(8, 8);
        for (int a = 0; a < 8; a++) {
            for (int b = a + 1; b < 8; b++) {
                x.chance(a, b, (a * 5 + b * 7 + a * b * 3 + 1) % 13);
            }
        }
        mean(x, 0, 46690633L, 806215680L);
        mean(x, 1, 40239683L, 3762339840L);
        mean(x, 2, 1229774447L, 1612431360L);
        mean(x, 3, 4636379L, 282175488L);
        mean(x, 4, 133052447L, 1881169920L);
        mean(x, 5, 34771319L, 3762339840L);
        mean(x, 6, 269864947L, 3762339840L);
        mean(x, 7, 1L, 1728L);
        int[] best = {280, 74, 261, 199, 67, 243, 60, 0};
        int[] worst = {72, 90, 61, 294, 223, 0, 306, 0};
        for (int player = 0; player < 8; player++) {
            DUE.is("best(" + player + ", false)", x.best(player, false), best[player]);
            DUE.is("best(" + player + ", true)", x.best(player, true), worst[player]);
        }
    }

    // "PLAYERS 0 .. n - 1 (2 to 8)."
    private static void playersAreTwoToEight() {
        CupDraws x = new CupDraws();
        int before = 2;
        for (int n = 2; n <= 8; n++) {
            DUE.is("players(" + n + ")", x.players(n), before);
            before = n;
            DUE.is("the first of " + n, x.can(0), 0);
            DUE.is("the last of " + n, x.can(n - 1), 0);
            DUE.is("behind the last of " + n, x.can(n), CupDraws.UNKNOWN);
            DUE.is("the last one comes to a place", x.put(0, n - 1), NONE);
        }
        DUE.is("players(1)", x.players(1), CupDraws.OUTSIDE);
        DUE.is("players(9)", x.players(9), CupDraws.OUTSIDE);
    }

    // "that a beats b is a told number k of twelfths (0 to 12; 6 at first), that b beats a is 12 - k."
    private static void chanceOfTheOther() {
        for (int k = 0; k <= 12; k++) {
            CupDraws x = of(8, 8);
            DUE.is("6 at first", x.chance(6, 7, k), 6);
            DUE.is("the other's of " + k, x.chance(7, 6, 12 - k), 12 - k);
            DUE.is("what it was", x.chance(6, 7, 6), k);
            DUE.is("set by the other's", x.chance(7, 6, k), 6);
            DUE.is("is the rest of it", x.chance(6, 7, 6), 12 - k);
        }
    }

    // "A CUP has a SIZE (2, 4, 8; 8 at first) of PLACES 0 .. SIZE - 1"
    private static void placesOfEachSize() {
        CupDraws x = new CupDraws();
        DUE.is("8 at first", x.count(1), 8);
        DUE.is("the last place of 8", x.at(7), NONE);
        DUE.is("behind it", x.at(8), CupDraws.UNKNOWN);
        for (int size = 2; size <= 8; size += size) {
            x.cup(size);
            DUE.is("the first place of " + size, x.put(0, 0), NONE);
            DUE.is("the last place of " + size, x.put(size - 1, 1), NONE);
            DUE.is("at the last place", x.at(size - 1), 1);
            DUE.is("behind it", x.at(size), CupDraws.UNKNOWN);
            DUE.is("put behind it", x.put(size, NONE), CupDraws.UNKNOWN);
            DUE.is("before the first", x.at(-1), CupDraws.UNKNOWN);
            DUE.is("the final", x.match(size - 2, 0), lastRound(size));
            DUE.is("behind the final", x.match(size - 1, 0), CupDraws.UNKNOWN);
        }
    }

    // "each EMPTY (at first)"
    private static void emptyAtFirst() {
        CupDraws x = new CupDraws();
        for (int place = 0; place < 8; place++) {
            DUE.is("at(" + place + ")", x.at(place), NONE);
        }
        DUE.is("places that are not empty", x.count(2), 0);
    }

    // "no PLAYER has two"
    private static void noPlayerHasTwoPlaces() {
        for (int from = 0; from < 8; from++) {
            CupDraws x = of(8, 8);
            x.put(from, 5);
            for (int to = 0; to < 8; to++) {
                DUE.is("from " + from + " to " + to, x.put(to, 5), to == from ? 5 : CupDraws.STATE);
            }
            DUE.is("places that are not empty", x.count(2), 1);
            x.put(from, NONE);
            DUE.is("free again", x.put((from + 3) % 8, 5), NONE);
            x.put((from + 3) % 8, 6);
            DUE.is("free when another comes", x.put(from, 5), NONE);
        }
    }

    // "MATCH k of PLACES 2 k and 2 k + 1; then those of ROUND 2 are numbered on .. to the last one (the FINAL)"
    private static void sidesOfEachMatch() {
        int[][] eight = {{0, 4, 6}, {0, 4, 6}, {1, 4, 6}, {1, 4, 6}, {2, 5, 6}, {2, 5, 6}, {3, 5, 6}, {3, 5, 6}};
        int[][] four = {{0, 2}, {0, 2}, {1, 2}, {1, 2}};
        int[][] two = {{0}, {0}};
        for (int[][] above : new int[][][] {two, four, eight}) {
            int size = above.length;
            for (int place = 0; place < size; place++) {
                CupDraws x = of(2, size);
                x.put(place, 0);
                for (int match = 0; match < size - 1; match++) {
                    int way = Arrays.binarySearch(above[place], match);
                    DUE.is("match " + match + " of " + size + " above " + place, x.match(match, 3), way < 0 ? 0 : 1);
                    DUE.is("its kind", x.match(match, 1), way < 0 ? 0 : 1);
                    if (way >= 0) {
                        DUE.is("its round", x.match(match, 0), way + 1);
                    }
                }
            }
        }
    }

    // "A MATCH below which no PLACE has a PLAYER is VOID; one with PLAYERS below only one SIDE is a BYE"
    private static void voidAndBye() {
        for (int one = 0; one < 8; one++) {
            for (int other = one + 1; other < 8; other++) {
                CupDraws x = of(2, 8);
                x.put(one, 0);
                x.put(other, 1);
                for (int match = 0; match < 7; match++) {
                    int round = match < 4 ? 1 : match < 6 ? 2 : 3;
                    int first = match < 4 ? 2 * match : match < 6 ? 4 * (match - 4) : 0;
                    int half = 1 << (round - 1);
                    int left = inside(one, first, half) + inside(other, first, half);
                    int right = inside(one, first + half, half) + inside(other, first + half, half);
                    int kind = left > 0 && right > 0 ? 2 : left + right > 0 ? 1 : 0;
                    DUE.is("match " + match + " of " + one + ", " + other, x.match(match, 1), kind);
                    DUE.is("who CAN come there", x.match(match, 3), left + right);
                }
            }
        }
    }

    private static int inside(int place, int first, int number) {
        return place >= first && place < first + number ? 1 : 0;
    }

    // "who comes there goes on"
    private static void whoComesToAByeGoesOn() {
        CupDraws x = of(3, 8, NONE, 2);
        for (int round = 0; round <= 3; round++) {
            reach(x, 2, round, 1, 1);
        }
        DUE.is("through byes alone", x.can(2), 2);
        CupDraws y = of(2, 8, 0, 1);
        y.chance(0, 1, 5);
        for (int round = 1; round <= 3; round++) {
            reach(y, 0, round, 5, 12);
            reach(y, 1, round, 7, 12);
        }
    }

    // "A MATCH that is neither may be DECIDED"
    private static void decidedOnlyWhatIsNeither() {
        CupDraws x = of(2, 8, 0, NONE, NONE, 1);
        DUE.is("a bye", x.won(0, 0), CupDraws.STATE);
        DUE.is("the other bye", x.won(1, 1), CupDraws.STATE);
        DUE.is("a void one", x.won(2, 0), CupDraws.STATE);
        DUE.is("a void one of round 2", x.won(5, 0), CupDraws.STATE);
        DUE.is("the final, a bye", x.won(6, 0), CupDraws.STATE);
        DUE.is("the one that is neither", x.won(4, 1), 1);
        DUE.is("the final, a bye still", x.won(6, 1), CupDraws.STATE);
    }

    // "each MATCH that is not, goes by CHANCES, each by itself"
    private static void eachMatchByItself() {
        CupDraws x = of(4, 4, 0, 1, 2, 3);
        x.chance(0, 1, 3);
        x.chance(2, 3, 4);
        x.chance(0, 2, 2);
        x.chance(0, 3, 8);
        // 3/12 * (4/12 * 2/12 + 8/12 * 8/12)
        reach(x, 0, 2, 1, 8);
        x.won(0, 0);
        reach(x, 0, 2, 1, 2);
        x.won(1, 2);
        reach(x, 0, 2, 1, 6);
        x.won(2, 2);
        reach(x, 0, 2, 0, 1);
        x.open(1);
        reach(x, 0, 2, 1, 2);
    }

    // "has not CHANCE 0 against each PLAYER who CAN come there from the other SIDE": one above 0 is enough.
    private static void canWinAgainstOneOfMany() {
        for (int open = 4; open < 8; open++) {
            CupDraws x = of(8, 8, 0, 1, 2, 3, 4, 5, 6, 7);
            for (int other = 4; other < 8; other++) {
                x.chance(0, other, other == open ? 1 : 0);
            }
            DUE.is("against " + open + " alone", x.can(0), 1);
            x.chance(0, open, 0);
            DUE.is("against none", x.can(0), 0);
            DUE.is("another may", x.can(1), 1);
        }
    }

    // Those who can not come from the other SIDE do not count.
    private static void canWinAgainstNone() {
        CupDraws x = of(4, 4, 0, 1, 2, 3);
        x.chance(0, 2, 0);
        x.chance(0, 3, 1);
        DUE.is("3 may come", x.can(0), 1);
        x.chance(2, 3, 12);
        DUE.is("3 can not come", x.can(0), 0);
        DUE.is("who CAN come to the final", x.match(2, 3), 3);
        x.chance(2, 3, 11);
        DUE.is("3 may come by 1", x.can(0), 1);
        x.won(1, 2);
        DUE.is("3 lost", x.can(0), 0);
        x.open(1);
        x.won(1, 3);
        DUE.is("3 won", x.can(0), 1);
    }

    // "CAN WIN a MATCH that is a BYE: who CAN come there; DECIDED: who WON it"
    private static void canComeFromAByeAndADecided() {
        CupDraws x = of(3, 8, 0, 1, NONE, NONE, 2);
        DUE.is("two go on through a bye", x.match(6, 3), 3);
        x.chance(0, 1, 12);
        DUE.is("one goes on through a bye", x.match(6, 3), 2);
        x.won(0, 1);
        DUE.is("who WON goes on, by CHANCE 0", x.match(6, 3), 2);
        DUE.is("that is 1", x.can(1), 1);
        DUE.is("not 0", x.can(0), 0);
    }

    private static int[] exchanged(int[] row, int set) {
        int[] held = row.clone();
        int node = 0;
        for (int half = row.length / 2; half >= 1; half /= 2) {
            for (int from = 0; from < row.length; from += 2 * half) {
                for (int k = 0; (set >> node & 1) == 1 && k < half; k++) {
                    int left = held[from + k];
                    held[from + k] = held[from + half + k];
                    held[from + half + k] = left;
                }
                node++;
            }
        }
        return held;
    }

    // "LIKE, if one comes of the other by exchanging, once or more, what lies below the two SIDES of a MATCH"
    private static void likeByAllExchanges() {
        int[][] rows = {{0, 6, 3, 4, 1, 7, 2, 5}, {0, NONE, 1, 3, 2, NONE, NONE, NONE}, {0, NONE, 1, NONE},
            {0, 3, 1, 2}, {0, 1}};
        int[] players = {8, 4, 2, 4, 2};
        for (int kind = 0; kind < rows.length; kind++) {
            int size = rows[kind].length;
            CupDraws first = of(players[kind], size, rows[kind]);
            int number = first.like();
            for (int place = 0; place < size; place++) {
                DUE.is("the draw itself", first.draw(number, place), rows[kind][place]);
            }
            for (int set = 0; set < 1 << (size - 1); set++) {
                CupDraws x = of(players[kind], size, exchanged(rows[kind], set));
                DUE.is("like by " + set, x.like(), number);
            }
        }
    }

    // What comes by exchanging two players of two matches is another draw.
    private static void notLikeByOthers() {
        int[] row = {0, 6, 3, 4, 1, 7, 2, 5};
        int number = of(8, 8, row).like();
        for (int one = 0; one < 8; one++) {
            for (int other = one + 1; other < 8; other++) {
                int[] held = row.clone();
                held[one] = row[other];
                held[other] = row[one];
                boolean same = one / 2 == other / 2;
                DUE.is(one + " for " + other, of(8, 8, held).like() == number ? 1 : 0, same ? 1 : 0);
            }
        }
    }

    // "PLAYERS may be APART until a ROUND: they are not to be able to meet in a MATCH of a lesser ROUND"
    private static void apartInEachSize() {
        int[][] due = {{1, 0, 0}, {3, 2, 0}, {315, 270, 180}};
        for (int kind = 0; kind < 3; kind++) {
            int size = 2 << kind;
            for (int round = 1; round <= 3; round++) {
                CupDraws x = of(size, size);
                x.apart(0, size - 1, round);
                DUE.is("size " + size + ", until " + round, x.draws(), due[kind][round - 1]);
                for (int early = 1; early < round && early <= lastRound(size); early++) {
                    DUE.is("they could meet in " + early, x.first(size - 1, 0, early), 0);
                }
            }
        }
        CupDraws y = of(4, 4);
        y.apart(0, 1, 2);
        y.apart(0, 2, 2);
        DUE.is("one is left for 0", y.draws(), 1);
        DUE.is("that is 3", y.draw(0, 1), 3);
        y.apart(3, 0, 2);
        DUE.is("none is left", y.draws(), 0);
    }

    // "(EMPTY PLACES are passed by BYES)"
    private static void apartPassedByByes() {
        CupDraws x = of(2, 8);
        x.apart(0, 1, 2);
        DUE.is("in rounds 2 and 3", x.draws(), 2);
        DUE.is("in round 2", x.draw(0, 2), 1);
        DUE.is("in round 3", x.draw(1, 4), 1);
        x.apart(0, 1, 3);
        DUE.is("in round 3 alone", x.draws(), 1);
        DUE.is("there", x.draw(0, 4), 1);
        CupDraws y = of(2, 4);
        y.apart(0, 1, 2);
        DUE.is("in the final of 4", y.draws(), 1);
        DUE.is("there", y.draw(0, 2), 1);
    }

    // "whatever happens": neither chances nor results matter.
    private static void apartWhateverHappens() {
        CupDraws x = of(4, 4, 0, 2, 1, 3);
        x.apart(0, 1, 3);
        x.chance(0, 2, 0);
        x.won(0, 2);
        DUE.is("they could meet in the final", x.draws(), 0);
        x.apart(0, 1, 2);
        DUE.is("allowed in the final", x.draws(), 2);
    }

    // "the first one, by PLACE 0, then PLACE 1, .., EMPTY being behind all PLAYERS"
    private static void emptyIsBehindAllPlayers() {
        CupDraws x = of(2, 4);
        int[][] rows = {{0, 1, NONE, NONE}, {0, NONE, 1, NONE}};
        DUE.is("2 in 4", x.draws(), 2);
        for (int i = 0; i < 2; i++) {
            for (int place = 0; place < 4; place++) {
                DUE.is("draw(" + i + ", " + place + ")", x.draw(i, place), rows[i][place]);
            }
        }
        CupDraws y = of(7, 8);
        DUE.is("0 against the last player", y.draw(269, 1), 6);
        DUE.is("then against nobody", y.draw(270, 1), NONE);
        DUE.is("to the last draw", y.draw(314, 1), NONE);
        int last = y.draws() - 1;
        int[] row = {0, NONE, 5, 6, 1, 4, 2, 3};
        for (int place = 0; place < 8; place++) {
            DUE.is("the last one at " + place, y.draw(last, place), row[place]);
        }
    }

    // "A DRAW is one way of those that are LIKE: the first one"; "they are numbered 0, 1, .. in the same order"
    private static void drawIsTheFirstOfThoseLike() {
        for (int players = 2; players <= 8; players++) {
            CupDraws x = of(players, 8);
            int[] before = new int[8];
            for (int i = 0; i < x.draws(); i += players < 5 ? 1 : 9) {
                int[] row = new int[8];
                for (int place = 0; place < 8; place++) {
                    // A cup of its own for each call, so that none is asked more often than the document says.
                    int player = of(players, 8).draw(i, place);
                    row[place] = player == NONE ? 8 : player;
                }
                DUE.is(players + ": behind the one before", Arrays.compare(before, row) < 0 ? 1 : 0, 1);
                for (int set = 1; set < 128; set++) {
                    DUE.is(players + ": the first", Arrays.compare(row, exchanged(row, set)) <= 0 ? 1 : 0, 1);
                }
                before = row;
            }
        }
    }

    // "(There are none, if there are more PLAYERS than PLACES.)"
    private static void noneIfMorePlayersThanPlaces() {
        for (int size = 2; size <= 4; size += size) {
            CupDraws full = of(size, size);
            DUE.is("as many as places", full.draws() > 0 ? 1 : 0, 1);
            for (int players = size + 1; players <= 8; players++) {
                CupDraws x = of(players, size);
                for (int place = 0; place < size; place++) {
                    x.put(place, place);
                }
                DUE.is("draws()", x.draws(), 0);
                DUE.is("draw(0, 0)", x.draw(0, 0), CupDraws.UNKNOWN);
                DUE.is("lay(0)", x.lay(0), CupDraws.UNKNOWN);
                DUE.is("like()", x.like(), NONE);
                DUE.is("best(0, false)", x.best(0, false), NONE);
                DUE.is("best of the last, true", x.best(players - 1, true), NONE);
                DUE.is("wins(0, 0, true)", x.wins(0, 0, true), CupDraws.UNKNOWN);
                DUE.is("mean(0, true)", x.mean(0, true), CupDraws.STATE);
                DUE.is("first(0, 1, 1)", x.first(0, 1, 1), 0);
                DUE.is("the places stay", x.count(2), size);
            }
        }
    }
}
