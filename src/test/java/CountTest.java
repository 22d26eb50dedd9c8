/** Promise 22: count; and that no call of the 512 throws or leaves its kind of answers, whatever it is given. */
public final class CountTest {
    private static final Due DUE = new Due("CountTest");
    private static final int[] NUMBERS = {Integer.MIN_VALUE, Integer.MIN_VALUE + 1, -(1 << 29), -9, -8, -2, -1, 0, 1, 2,
        3, 4, 7, 8, 9, 12, 13, 315, 1 << 28, (1 << 28) + 1, 1 << 29, 1 << 30, Integer.MAX_VALUE - 1,
        Integer.MAX_VALUE};

    public static void main(String[] args) {
        counts();
        countOutside();
        anyNumbers(2, 8);
        anyNumbers(8, 8);
        anyNumbers(5, 4);
        anyNumbers(3, 2);
        DUE.end();
    }

    private static void counts() {
        CupDraws x = new CupDraws();
        x.players(5);
        x.cup(4);
        x.put(0, 4);
        x.put(1, 3);
        x.put(3, 0);
        x.won(0, 4);
        x.apart(0, 1, 2);
        x.apart(3, 1, 3);
        x.apart(2, 4, 2);
        x.apart(4, 2, 3);
        DUE.is("players", x.count(0), 5);
        DUE.is("size", x.count(1), 4);
        DUE.is("places that are not empty", x.count(2), 3);
        DUE.is("matches that are decided", x.count(3), 1);
        DUE.is("pairs that are apart", x.count(4), 3);
        x.players(8);
        x.apart(0, 1, 2);
        DUE.is("one pair of 8", x.count(4), 1);
        x.apart(6, 7, 3);
        DUE.is("two pairs of 8", x.count(4), 2);
    }

    private static void countOutside() {
        CupDraws x = new CupDraws();
        for (int what : new int[] {-1, 5, -9, Integer.MIN_VALUE, Integer.MAX_VALUE}) {
            DUE.is("count(" + what + ")", x.count(what), CupDraws.OUTSIDE);
        }
    }

    private static void anyNumbers(int players, int size) {
        for (int a : NUMBERS) {
            for (int b : NUMBERS) {
                CupDraws x = new CupDraws();
                x.players(players);
                x.cup(size);
                for (int place = 0; place < size; place++) {
                    x.put(place, place);
                }
                for (int k = 0; k < NUMBERS.length; k++) {
                    askAll(x, a, b, NUMBERS[k]);
                }
                boolean kept = x.count(0) >= 2 && x.count(0) <= 8 && x.count(2) <= x.count(1);
                DUE.is("what stands after " + a + ", " + b, kept ? 1 : 0, 1);
            }
        }
    }

    private static void askAll(CupDraws x, int a, int b, int c) {
        long sum = x.chance(a, b, c) + x.apart(a, b, c) + x.put(a, b) + x.at(a) + x.won(a, b) + x.open(a)
                + x.match(a, b) + x.can(a) + x.draws() + x.draw(a, b) + x.lay(c) + x.like() + x.best(a, false)
                + x.best(b, true) + x.first(a, b, c) + x.count(a);
        long above = x.reach(a, b, true) + x.meet(a, b, c, true) + x.wins(a, b, true) + x.mean(a, true);
        DUE.is("answers are small", sum >= -200 && above >= -12 ? 1 : 0, 1);
        boolean below = x.reach(a, b, false) != 0 && x.meet(a, b, c, false) != 0 && x.wins(a, b, false) != 0
                && x.mean(a, false) != 0;
        DUE.is("no fraction has 0 below", below ? 1 : 0, 1);
        if (c > 8 || c < 0) {
            DUE.is("players(" + c + ")", x.players(c), CupDraws.OUTSIDE);
            DUE.is("cup(" + c + ")", x.cup(c), CupDraws.OUTSIDE);
        }
    }
}
