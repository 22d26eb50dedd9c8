import java.util.ArrayList;
import java.util.List;
import java.util.function.Supplier;

/**
 * All that later calls tell of an object. It is read from several objects made alike, so that none of them is asked
 * more often than the document's 512 times.
 */
final class Look {
    /** One call on an object, with its arguments. */
    interface Call {
        long on(CupDraws x);
    }

    private static final int ASKED_OF_ONE = 200;
    private static final int MOST_DRAWS_READ = 24;

    private final List<String> names = new ArrayList<>();
    private final List<Call> calls = new ArrayList<>();
    private final List<Long> answers = new ArrayList<>();

    Look(Supplier<CupDraws> maker) {
        CupDraws x = maker.get();
        int players = x.count(0);
        int size = x.count(1);
        for (int what = 0; what < 5; what++) {
            int w = what;
            add("count(" + w + ")", y -> y.count(w));
        }
        addCup(size);
        addChances(players, size);
        addDraws(players, size, x.draws());
        addPairs(players, size);
        read(maker);
    }

    private void add(String name, Call call) {
        names.add(name);
        calls.add(call);
    }

    private void addBoth(String name, Call above, Call below) {
        add(name + " above", above);
        add(name + " below", below);
    }

    private static int lastRound(int size) {
        return size == 2 ? 1 : size == 4 ? 2 : 3;
    }

    private void addCup(int size) {
        for (int place = 0; place < size; place++) {
            int p = place;
            add("at(" + p + ")", x -> x.at(p));
        }
        for (int match = 0; match < size - 1; match++) {
            for (int what = 0; what < 4; what++) {
                int m = match;
                int w = what;
                add("match(" + m + ", " + w + ")", x -> x.match(m, w));
            }
        }
    }

    private void addChances(int players, int size) {
        for (int player = 0; player < players; player++) {
            int p = player;
            add("can(" + p + ")", x -> x.can(p));
            for (int round = 0; round <= lastRound(size); round++) {
                int r = round;
                addBoth("reach(" + p + ", " + r + ")", x -> x.reach(p, r, true), x -> x.reach(p, r, false));
                for (int other = 0; other < p; other++) {
                    int o = other;
                    addBoth("meet(" + p + ", " + o + ", " + r + ")", x -> x.meet(p, o, r, true),
                            x -> x.meet(p, o, r, false));
                }
            }
        }
    }

    private void addDraws(int players, int size, int draws) {
        add("draws()", CupDraws::draws);
        add("like()", CupDraws::like);
        int step = Math.max(1, draws / MOST_DRAWS_READ);
        for (int draw = 0; draw < draws; draw += step) {
            int i = draw;
            for (int place = 0; place < size; place++) {
                int p = place;
                add("draw(" + i + ", " + p + ")", x -> x.draw(i, p));
            }
            for (int player = 0; player < players; player++) {
                int p = player;
                addBoth("wins(" + i + ", " + p + ")", x -> x.wins(i, p, true), x -> x.wins(i, p, false));
            }
        }
        for (int player = 0; player < players; player++) {
            int p = player;
            add("best(" + p + ", false)", x -> x.best(p, false));
            add("best(" + p + ", true)", x -> x.best(p, true));
            addBoth("mean(" + p + ")", x -> x.mean(p, true), x -> x.mean(p, false));
            for (int round = 1; round <= lastRound(size); round++) {
                for (int other = 0; other < p; other++) {
                    int o = other;
                    int r = round;
                    add("first(" + p + ", " + o + ", " + r + ")", x -> x.first(p, o, r));
                }
            }
        }
    }

    // What is told only by setting it anew is set back at once.
    private void addPairs(int players, int size) {
        for (int player = 0; player < players; player++) {
            for (int other = 0; other < players; other++) {
                int a = player;
                int b = other;
                if (a != b) {
                    add("the chance of " + a + " against " + b, x -> {
                        int was = x.chance(a, b, 6);
                        x.chance(a, b, was);
                        return was;
                    });
                    add("the round until which " + a + " and " + b + " are apart", x -> {
                        int was = x.apart(a, b, 1);
                        x.apart(a, b, was);
                        return was;
                    });
                }
            }
        }
    }

    private void read(Supplier<CupDraws> maker) {
        CupDraws x = null;
        for (int i = 0; i < calls.size(); i++) {
            if (i % ASKED_OF_ONE == 0) {
                x = maker.get();
            }
            answers.add(calls.get(i).on(x));
        }
    }

    /** The first call that is answered otherwise by another object; empty if there is none. */
    String difference(Look other) {
        if (names.size() != other.names.size()) {
            return "other players, another size or other draws";
        }
        for (int i = 0; i < answers.size(); i++) {
            if (!answers.get(i).equals(other.answers.get(i))) {
                return names.get(i) + ": " + answers.get(i) + ", then " + other.answers.get(i);
            }
        }
        return "";
    }
}
