import java.util.Arrays;
import java.util.HashMap;
import java.util.Map;
import java.util.Random;

/**
 * "What it sends waits until what it wrote before is on its disk. Whatever other servers are said to have sent, at any
 * time, in any order, it never takes back what it said": servers to whom letters come that no honest ones would have
 * sent, watched from outside. What is said here follows from the document's rules, but no rule is repeated.
 */
public final class TakesNothingBackTest {
    private static final int RUNS = 4000;
    private static final int CALLS = 200;

    private final Random random;
    private final LogServer x;
    private final int itself;
    private final String name;
    private String last = "a new object";
    private boolean syncs = false;
    private boolean restarts = false;

    private final Map<Integer, Integer> votedIn = new HashMap<>();
    private final Map<Integer, Integer> grantedIn = new HashMap<>();
    private final Map<Integer, String> committed = new HashMap<>();
    private final int[] outcomes = new int[CALLS + 1];
    private final int[] targets = new int[CALLS + 1];
    private int[] before;
    private int[][] lettersBefore = new int[0][];
    private int lastDone = 0;

    private static int grants = 0;
    private static int commits = 0;
    private static int refusals = 0;
    private static int leads = 0;
    private static int installed = 0;

    private TakesNothingBackTest(long seed) {
        random = new Random(seed);
        itself = random.nextInt(7);
        name = "run " + seed + ": ";
        x = new LogServer(itself, random.nextInt(3) == 0 ? 1 << itself : 7 | 1 << itself, random.nextLong());
        before = states();
    }

    public static void main(String[] args) {
        for (long seed = 0; seed < RUNS && !Check.failed(); seed++) {
            TakesNothingBackTest run = new TakesNothingBackTest(seed);
            for (int k = 0; k < CALLS && !Check.failed(); k++) {
                run.step();
                run.watch();
            }
        }
        // Runs in which nothing was said would show nothing.
        Check.due("votes went", grants > RUNS, true);
        Check.due("entries were committed", commits > 5 * RUNS, true);
        Check.due("letters were refused", refusals > RUNS, true);
        Check.due("some led", leads > RUNS, true);
        Check.due("snapshots were taken in", installed > RUNS, true);
        Check.end("TakesNothingBackTest");
    }

    // ---- calls ----

    private void step() {
        syncs = false;
        restarts = false;
        if (x.state(0) == 1 && random.nextInt(3) == 0) {
            tell("preanswer", () -> x.preanswer(other(), x.state(1) + 1, true));
        } else if (x.state(0) == 2 && random.nextInt(3) == 0) {
            tell("answer", () -> x.answer(other(), x.state(1), true));
        } else {
            anything();
        }
    }

    private void anything() {
        switch (random.nextInt(26)) {
            case 0: tell("tick", () -> x.tick(1 + random.nextInt(120))); break;
            case 1: tell("preask", () -> x.preask(other(), term(), number(), term())); break;
            case 2: tell("preanswer", () -> x.preanswer(other(), x.state(1) + 1, random.nextInt(6) > 0)); break;
            case 3: case 4: tell("ask", () -> x.ask(other(), term(), number(), term())); break;
            case 5: case 6: tell("answer", () -> x.answer(other(), term(), random.nextBoolean())); break;
            case 7: case 8: case 9: case 10: append(); break;
            case 11: case 12: tell("appended", () -> x.appended(other(), term(), random.nextInt(3) > 0, number(), number())); break;
            case 13: case 14: piece(); break;
            case 15: tell("stored", () -> x.stored(other(), term(), x.state(7), random.nextInt(400), number())); break;
            case 16: tell("go", () -> x.go(other(), term())); break;
            case 17: case 18: case 19: case 20:
                syncs = true;
                tell("sync", x::sync);
                break;
            case 21: tell("command", () -> x.command(random.nextInt())); break;
            case 22: tell("read", x::read); break;
            case 23: tell("members", () -> x.members(random.nextInt(128))); break;
            case 24: tell("compact", () -> x.compact(1 + random.nextInt(400))); break;
            default: seldom(); break;
        }
    }

    private void seldom() {
        switch (random.nextInt(4)) {
            case 0:
                restarts = true;
                tell("restart", x::restart);
                break;
            case 1: tell("hand", () -> x.hand(random.nextInt(7))); break;
            case 2: tell("learners", () -> x.learners(random.nextInt(128))); break;
            default: tell("tick", () -> x.tick(100)); break;
        }
    }

    private void append() {
        tell("append", () -> {
            int t = term();
            int p = number();
            int least = random.nextInt(4) > 0 && p >= x.state(7) && p <= x.state(8) ? x.log(p, 0) : random.nextInt(t + 1);
            int entryTerm = least;
            for (int k = random.nextInt(7); k > 0 && entryTerm <= t; k--) {
                entryTerm += random.nextInt(3) == 0 ? random.nextInt(t - entryTerm + 1) : 0;
                int kind = random.nextInt(12) == 0 ? 1 : random.nextInt(2) * 2;
                x.entry(entryTerm, kind, kind == 1 ? 1 << itself | 1 + random.nextInt(127) : random.nextInt());
            }
            x.append(other(), t, p, least, number(), number());
        });
    }

    private void piece() {
        tell("piece", () -> {
            int t = term();
            int base = number();
            int size = 1 + random.nextInt(250);
            int at = random.nextInt(3) == 0 ? Math.min(size, 200) : 0;
            x.describe(base, random.nextInt(t + 1), 1 << itself | 1 + random.nextInt(127), size);
            x.piece(other(), t, at, Math.min(200, size - at), number());
        });
    }

    /** Numbers that do not fit are part of what others may be said to have sent. */
    private void tell(String call, Check.Act act) {
        last = call;
        try {
            act.run();
        } catch (IllegalArgumentException e) {
            refusals++;
        }
    }

    private int other() {
        int from = random.nextInt(6);
        return from >= itself ? from + 1 : from;
    }

    private int term() {
        int choice = random.nextInt(24);
        int near = choice < 18 ? 0 : choice < 21 ? 1 : -1;
        return Math.max(0, x.state(1) + near);
    }

    private int number() {
        if (random.nextInt(100) == 0) {
            return random.nextBoolean() ? -1 : 1000001;
        }
        int[] about = {x.state(8), x.state(8), x.state(4), x.state(7)};
        return Math.max(0, about[random.nextInt(4)] + random.nextInt(5) - 2);
    }

    // ---- what is watched ----

    private void watch() {
        int[] after = states();
        String where = name + "after " + last + ": ";
        rises(where + "TERM", before[1], after[1]);
        rises(where + "BASE", before[7], after[7]);
        Check.due(where + "SYNCED is above LAST", after[6] > after[8], false);
        if (restarts) {
            committed.clear();
            lastDone = 0;
        } else {
            rises(where + "COMMIT", before[4], after[4]);
            rises(where + "APPLIED", before[5], after[5]);
        }
        watchVote(where, after);
        watchLetters(where, after);
        watchCommitted(where, after);
        watchDone(where, after);
        watchCalls(where, after);
        leads += before[0] != 3 && after[0] == 3 ? 1 : 0;
        installed += last.equals("piece") && after[7] != before[7] ? 1 : 0;
        before = after;
    }

    private void watchVote(String where, int[] after) {
        if (after[2] != LogServer.NONE) {
            Integer earlier = votedIn.put(after[1], after[2]);
            Check.due(where + "VOTED in term " + after[1], after[2], earlier == null ? after[2] : earlier);
        } else {
            Check.due(where + "a vote in term " + after[1] + " is forgotten", votedIn.containsKey(after[1]), false);
        }
        if (after[0] >= 2) {
            Check.due(where + "who stands or leads voted for", after[2], itself);
        }
    }

    private void watchLetters(String where, int[] after) {
        int fresh = after[16] - before[16];
        rises(where + "letters that went", before[16], after[16]);
        if (before[14] == 1 && !syncs) {
            Check.due(where + "letters that went while it was dirty", fresh, 0);
        }
        Check.due(where + "letters that wait while it is not dirty", after[14] == 0 && after[17] > 0, false);
        int[][] letters = letters(after);
        for (int k = 0; k < letters.length; k++) {
            if (k < fresh) {
                watchLetter(where, letters[k], after);
            } else if (k - fresh < lettersBefore.length) {
                Check.due(where + "letter " + k + " changed", Arrays.equals(letters[k], lettersBefore[k - fresh]), true);
            }
        }
        lettersBefore = letters;
    }

    private void watchLetter(String where, int[] letter, int[] after) {
        rises(where + "the term of a letter of kind " + letter[1], letter[2], after[1] + 1);
        if (letter[1] == 4 && letter[3] == 1) {
            grants++;
            Integer earlier = grantedIn.put(letter[2], letter[0]);
            Check.due(where + "vote in term " + letter[2], letter[0], earlier == null ? letter[0] : earlier);
            Check.due(where + "the vote that it keeps", votedIn.getOrDefault(letter[2], -2), letter[0]);
        }
        if (letter[1] == 3 || letter[1] == 5) {
            Check.due(where + "for whom it voted that stands or leads", votedIn.getOrDefault(letter[2], -2), itself);
        }
        boolean tellsNewVote = letter[1] == 3 || letter[1] == 4 && letter[3] == 1 && before[2] != letter[0];
        Check.due(where + "letter of kind " + letter[1] + " tells a vote not on the disk", tellsNewVote && !syncs, false);
    }

    private void watchCommitted(String where, int[] after) {
        for (int i = after[7] + 1; i <= after[4]; i++) {
            String entry = x.log(i, 0) + " " + x.log(i, 1) + " " + x.log(i, 2);
            String earlier = committed.putIfAbsent(i, entry);
            commits += earlier == null ? 1 : 0;
            Check.due(where + "entry " + i + " was " + earlier + ", is " + entry, earlier == null || earlier.equals(entry), true);
        }
    }

    private void watchDone(String where, int[] after) {
        rises(where + "commands done", before[18], after[18]);
        for (int k = after[18] - before[18] - 1; k >= 0; k--) {
            int number = x.done(k, 0);
            Check.due(where + "command " + number + " is done again", number > lastDone, true);
            Check.due(where + "command " + number + " is done before it is committed", number <= after[4], true);
            Check.due(where + "kind of what is done", x.log(number, 1), 2);
            Check.due(where + "value of what is done", x.done(k, 1), x.log(number, 2));
            lastDone = number;
        }
    }

    private void watchCalls(String where, int[] after) {
        for (int n = Math.max(0, after[19] - 32); n < after[19]; n++) {
            int outcome = x.call(n);
            if (n < before[19]) {
                Check.due(where + "call " + n + " for", x.callFor(n), targets[n]);
                Check.due(where + "call " + n, outcomes[n] == 0 ? 0 : outcome, outcomes[n]);
            }
            Check.due(where + "call " + n + " waits, but it does not lead", outcome == 0 && after[0] != 3, false);
            outcomes[n] = outcome;
            targets[n] = x.callFor(n);
        }
    }

    private static void rises(String what, int was, int is) {
        Check.due(what + " falls from " + was + " to " + is, is < was, false);
    }

    private int[] states() {
        int[] all = new int[20];
        for (int what = 0; what < all.length; what++) {
            all[what] = x.state(what);
        }
        return all;
    }

    private int[][] letters(int[] states) {
        int[][] all = new int[Math.min(64, states[16])][];
        for (int k = 0; k < all.length; k++) {
            int kind = x.letter(k, 1);
            int length = kind == 5 ? 8 + 3 * x.letter(k, 7) : new int[] {0, 5, 4, 5, 4, 0, 6, 10, 6, 3}[kind];
            all[k] = new int[length];
            for (int what = 0; what < length; what++) {
                all[k][what] = x.letter(k, what);
            }
        }
        return all;
    }
}
