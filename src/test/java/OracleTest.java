/** Long mixed runs of calls, ordinary, at the edges and wrong, each answered as the oracle answers it. */
public final class OracleTest {
    private static final int RUNS = 400;
    private static final int CALLS = 120;
    // An object is used for at most 512 calls; some runs go all the way, and a step takes four calls at most.
    private static final int ALL_CALLS = 512;
    private static final int STEP = 4;
    private static final int[] ODD_NUMBERS = {-9, -2, -1, 8, 9, 13, 100, Integer.MIN_VALUE, Integer.MAX_VALUE,
        1 << 29, (1 << 29) + 1, 1 << 28};

    private final Due due = new Due("OracleTest");
    private long seed;
    private CupDraws program;
    private Oracle oracle;
    private int asked;
    private String run = "";

    public static void main(String[] args) {
        OracleTest test = new OracleTest();
        for (int i = 0; i < RUNS; i++) {
            test.go(i);
        }
        test.due.end();
    }

    private void go(int number) {
        seed = number * 7919L + 17L;
        program = new CupDraws();
        oracle = new Oracle();
        asked = 0;
        run = "run " + number + ":";
        if (number % 8 != 0) {
            ask("players", 2 + pick(7), 0, 0);
            ask("cup", 2 << pick(5) % 3, 0, 0);
        }
        int enough = number % 20 == 7 ? ALL_CALLS - STEP : CALLS;
        while (asked <= enough) {
            step();
        }
        for (int what = 0; asked < ALL_CALLS && enough > CALLS; what++) {
            ask("count", what % 5, 0, 0);
        }
    }

    private int pick(int bound) {
        seed = seed * 6364136223846793005L + 1442695040888963407L;
        return (int) ((seed >>> 33) % bound);
    }

    private int or(int usual) {
        return pick(25) == 0 ? ODD_NUMBERS[pick(ODD_NUMBERS.length)] : usual;
    }

    private int player() {
        return or(pick(oracle.count(0)));
    }

    private int twelfths() {
        int kind = pick(4);
        return or(kind == 0 ? 0 : kind == 1 ? 12 : pick(13));
    }

    private void step() {
        int kind = pick(100);
        int size = oracle.count(1);
        if (kind < 2) {
            ask("players", or(2 + pick(7)), 0, 0);
        } else if (kind < 4) {
            ask("cup", or(2 << pick(3)), 0, 0);
        } else if (kind < 18) {
            ask("chance", player(), player(), twelfths());
        } else if (kind < 24) {
            ask("apart", player(), player(), or(pick(3) == 0 ? 1 + pick(3) : 2 - pick(2)));
        } else if (kind < 34) {
            ask("put", or(pick(size)), pick(4) == 0 ? -9 : player(), 0);
        } else if (kind < 38) {
            ask("lay", or(pick(Math.max(1, oracle.draws()))), 0, 0);
        } else if (kind < 56) {
            ask("won", or(pick(size - 1)), player(), 0);
        } else if (kind < 60) {
            ask("open", or(pick(size - 1)), 0, 0);
        } else {
            look(kind, size);
        }
    }

    private void look(int kind, int size) {
        int round = or(pick(4));
        int draw = or(pick(Math.max(1, oracle.draws())));
        if (kind < 64) {
            ask("at", or(pick(size)), 0, 0);
        } else if (kind < 70) {
            ask("match", or(pick(size - 1)), or(pick(4)), 0);
        } else if (kind < 76) {
            ask("reach", player(), round, 0);
        } else if (kind < 82) {
            ask("meet", player(), player(), round);
        } else if (kind < 85) {
            ask("can", player(), 0, 0);
        } else if (kind < 88) {
            ask("draw", draw, or(pick(size)), 0);
        } else if (kind < 92) {
            ask("like", 0, 0, 0);
        } else if (kind < 94) {
            ask("best", player(), pick(2), 0);
        } else if (kind < 95) {
            ask("mean", player(), 0, 0);
        } else if (kind < 97) {
            ask("wins", draw, player(), 0);
        } else if (kind < 99) {
            ask("first", player(), player(), or(1 + pick(3)));
        } else {
            ask("count", or(pick(5)), 0, 0);
            ask("draws", 0, 0, 0);
        }
    }

    private void ask(String call, int x, int y, int z) {
        String told = run + " " + call + "(" + x + ", " + y + ", " + z + ")";
        due.is(told, answer(call, x, y, z, true), want(call, x, y, z, true));
        asked++;
        if (call.equals("reach") || call.equals("meet") || call.equals("wins") || call.equals("mean")) {
            due.is(told + " below", answer(call, x, y, z, false), want(call, x, y, z, false));
            asked++;
        }
    }

    private long answer(String call, int x, int y, int z, boolean upper) {
        switch (call) {
            case "players": return program.players(x);
            case "chance": return program.chance(x, y, z);
            case "apart": return program.apart(x, y, z);
            case "cup": return program.cup(x);
            case "put": return program.put(x, y);
            case "at": return program.at(x);
            case "won": return program.won(x, y);
            case "open": return program.open(x);
            case "match": return program.match(x, y);
            case "reach": return program.reach(x, y, upper);
            case "meet": return program.meet(x, y, z, upper);
            case "can": return program.can(x);
            case "draws": return program.draws();
            case "draw": return program.draw(x, y);
            case "lay": return program.lay(x);
            case "like": return program.like();
            case "best": return program.best(x, y == 1);
            case "wins": return program.wins(x, y, upper);
            case "mean": return program.mean(x, upper);
            case "first": return program.first(x, y, z);
            default: return program.count(x);
        }
    }

    private long want(String call, int x, int y, int z, boolean upper) {
        switch (call) {
            case "players": return oracle.players(x);
            case "chance": return oracle.chance(x, y, z);
            case "apart": return oracle.apart(x, y, z);
            case "cup": return oracle.cup(x);
            case "put": return oracle.put(x, y);
            case "at": return oracle.at(x);
            case "won": return oracle.won(x, y);
            case "open": return oracle.open(x);
            case "match": return oracle.match(x, y);
            case "reach": return oracle.reach(x, y, upper);
            case "meet": return oracle.meet(x, y, z, upper);
            case "can": return oracle.can(x);
            case "draws": return oracle.draws();
            case "draw": return oracle.draw(x, y);
            case "lay": return oracle.lay(x);
            case "like": return oracle.like();
            case "best": return oracle.best(x, y == 1);
            case "wins": return oracle.wins(x, y, upper);
            case "mean": return oracle.mean(x, upper);
            case "first": return oracle.first(x, y, z);
            default: return oracle.count(x);
        }
    }
}
