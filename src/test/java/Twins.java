import java.util.Random;

/**
 * Two servers that must be alike: in all that can be looked at, and, since much of a server can't be looked at
 * (what was told, when a leader was heard, an assembly ..), in what they answer to the same calls from then on.
 */
final class Twins {
    private static final int WAYS = 4;
    private static final int STEPS = 40;

    private Twins() {
    }

    /** How a server is made. */
    interface Recipe {
        LogServer make();
    }

    /** What is done to a server. */
    interface Deed {
        void on(LogServer x);
    }

    /** A deed that leaves everything as it was. */
    static void unchanged(String what, Recipe recipe, Deed deed) {
        alike(what, recipe, () -> {
            LogServer x = recipe.make();
            deed.on(x);
            return x;
        });
    }

    static void alike(String what, Recipe one, Recipe other) {
        for (int way = 0; way < WAYS; way++) {
            LogServer a = one.make();
            LogServer b = other.make();
            same(what + ", at once", a, b);
            Random random = new Random(way);
            for (int k = 0; k < STEPS; k++) {
                long seed = random.nextLong();
                String of = step(a, new Random(seed));
                String by = step(b, new Random(seed));
                if (!of.equals(by)) {
                    Check.fail(what + ": then one answers " + of + ", the other " + by);
                    return;
                }
            }
            same(what + ", later", a, b);
        }
    }

    private static void same(String what, LogServer a, LogServer b) {
        String difference = Picture.difference(Picture.of(a), Picture.of(b));
        Check.due(what + ": " + difference, difference == null, true);
    }

    /** One call that goes on with what there is, more or less; both twins choose alike, as long as they are alike. */
    private static String step(LogServer x, Random random) {
        try {
            return call(x, random);
        } catch (IllegalArgumentException | IndexOutOfBoundsException | IllegalStateException e) {
            return e.getClass().getSimpleName();
        }
    }

    private static String call(LogServer x, Random random) {
        int from = random.nextInt(7);
        int term = x.state(1) + (random.nextInt(12) == 0 ? 1 : 0);
        int last = x.state(8);
        int choice = random.nextInt(20);
        switch (choice) {
            case 0: return "tick " + x.tick(1 + random.nextInt(60));
            case 1: return "tick " + x.tick(10);
            case 2: x.preask(from, term + 1, last, 9); return "preask";
            case 3: x.preanswer(from, term + 1, true); return "preanswer";
            case 4: x.ask(from, term, last, 9); return "ask";
            case 5: x.answer(from, term, true); return "answer";
            case 6: return "entry " + x.entry(term, 2, random.nextInt());
            case 7: x.append(from, term, last, x.log(last, 0), last, 1); return "append";
            case 8: x.append(from, term, last, x.log(last, 0), x.state(4), 1); return "append";
            case 9: x.appended(from, term, true, random.nextInt(last + 2), x.state(15)); return "appended";
            case 10: x.appended(from, term, false, random.nextInt(last + 2), x.state(15)); return "appended";
            case 11: x.describe(last + 1, 1, 7, 400); return "describe";
            case 12: x.piece(from, term, 200 * random.nextInt(3), random.nextInt(201), 1); return "piece";
            case 13: x.stored(from, term, x.state(7), 100 * random.nextInt(5), x.state(15)); return "stored";
            case 14: return "command " + x.command(random.nextInt());
            case 15: return "read " + x.read();
            case 16: return "learners " + x.learners(random.nextInt(128));
            case 17: return "hand " + x.hand(from);
            case 18: return "compact " + x.compact(300);
            default: return "sync " + x.sync();
        }
    }
}
