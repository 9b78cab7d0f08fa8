import java.util.ArrayList;
import java.util.HashMap;
import java.util.List;
import java.util.Map;
import java.util.Random;

/**
 * Several servers that send one another letters, of which some are lost, late or doubled; they restart, compact,
 * change the members and hand over. What one has committed all others that have committed so far must have too,
 * a term has one leader at most, and in the end something must have been done.
 */
public final class ClusterTest {
    private static final int SERVERS = 5;
    private static final int RUNS = 150;
    private static final int STEPS = 2500;

    private final Random random;
    private final LogServer[] servers = new LogServer[SERVERS];
    private final int[] lettersSeen = new int[SERVERS];
    private final int[] deedsSeen = new int[SERVERS];
    private final List<int[]> onTheWay = new ArrayList<>();
    private final Map<Integer, Integer> leaderOfTerm = new HashMap<>();
    private final Map<Integer, String> committed = new HashMap<>();
    private final Map<Integer, Integer> valueDone = new HashMap<>();
    private final String name;
    private int done = 0;
    private int reads = 0;
    private int changes = 0;
    private int snapshots = 0;

    private ClusterTest(long seed) {
        random = new Random(seed);
        name = "run " + seed + ": ";
        for (int s = 0; s < SERVERS; s++) {
            servers[s] = new LogServer(s, 7, random.nextLong());
        }
    }

    public static void main(String[] args) {
        int done = 0;
        int reads = 0;
        int changes = 0;
        int snapshots = 0;
        for (long seed = 0; seed < RUNS && !Check.failed(); seed++) {
            ClusterTest run = new ClusterTest(seed);
            for (int k = 0; k < STEPS && !Check.failed(); k++) {
                run.step();
            }
            done += run.done;
            reads += run.reads;
            changes += run.changes;
            snapshots += run.snapshots;
        }
        Check.due("commands were done", done > 100 * RUNS, true);
        Check.due("reads were answered", reads > RUNS, true);
        Check.due("members were changed", changes > RUNS, true);
        Check.due("snapshots were taken in", snapshots > RUNS / 4, true);
        Check.end("ClusterTest");
    }

    private void step() {
        int s = random.nextInt(SERVERS);
        int choice = random.nextInt(1000);
        if (choice < 330) {
            deliver();
        } else if (choice < 500) {
            servers[s].sync();
        } else if (choice < 700) {
            tickAll();
        } else if (choice < 960) {
            askTheLeader(choice);
        } else if (choice < 966) {
            servers[s].compact(1 + random.nextInt(500));
        } else if (choice < 968) {
            servers[s].restart();
        } else if (choice < 980 && !onTheWay.isEmpty()) {
            onTheWay.remove(random.nextInt(onTheWay.size()));
        }
        for (int k = 0; k < SERVERS; k++) {
            watch(k);
        }
    }

    private void tickAll() {
        for (int s = 0; s < SERVERS; s++) {
            servers[s].tick(1 + random.nextInt(2));
        }
    }

    private void askTheLeader(int choice) {
        for (int s = 0; s < SERVERS; s++) {
            LogServer x = servers[s];
            if (x.state(0) != 3) {
                continue;
            }
            if (choice < 900) {
                x.command(random.nextInt(1000));
            } else if (choice < 940) {
                int call = x.read();
                x.sync();
                reads += call > 3 && x.call(call - 3) == 1 ? 1 : 0;
            } else if (choice < 946) {
                changes += x.learners(random.nextInt(1 << SERVERS) & ~(x.state(9) & 127)) ? 1 : 0;
            } else if (choice < 958) {
                int code = x.state(9);
                changes += x.members(random.nextInt(1 << SERVERS) & (code | code >> 14)) ? 1 : 0;
            } else {
                x.hand(random.nextInt(SERVERS));
            }
        }
    }

    private void deliver() {
        if (onTheWay.isEmpty()) {
            return;
        }
        int k = random.nextInt(4) == 0 ? random.nextInt(onTheWay.size()) : 0;
        int[] letter = random.nextInt(40) == 0 ? onTheWay.get(k) : onTheWay.remove(k);
        LogServer to = servers[letter[1]];
        int base = to.state(7);
        bring(letter, to);
        snapshots += letter[2] == 7 && to.state(7) != base ? 1 : 0;
    }

    /** A letter: from whom, to whom, kind, term, its numbers. */
    private static void bring(int[] l, LogServer to) {
        switch (l[2]) {
            case 1: to.preask(l[0], l[3], l[4], l[5]); break;
            case 2: to.preanswer(l[0], l[3], l[4] == 1); break;
            case 3: to.ask(l[0], l[3], l[4], l[5]); break;
            case 4: to.answer(l[0], l[3], l[4] == 1); break;
            case 5:
                for (int k = 0; k < l[8]; k++) {
                    to.entry(l[9 + 3 * k], l[10 + 3 * k], l[11 + 3 * k]);
                }
                to.append(l[0], l[3], l[4], l[5], l[6], l[7]);
                break;
            case 6: to.appended(l[0], l[3], l[4] == 1, l[5], l[6]); break;
            case 7:
                to.describe(l[4], l[5], l[6], l[7]);
                to.piece(l[0], l[3], l[8], l[9], l[10]);
                break;
            case 8: to.stored(l[0], l[3], l[4], l[5], l[6]); break;
            default: to.go(l[0], l[3]); break;
        }
    }

    private void watch(int s) {
        LogServer x = servers[s];
        takeLetters(s, x);
        if (x.state(0) == 3) {
            Integer other = leaderOfTerm.put(x.state(1), s);
            Check.due(name + "who leads term " + x.state(1), other == null ? s : other, s);
        }
        for (int i = Math.max(x.state(7) + 1, x.state(4) - 8); i <= x.state(4); i++) {
            String entry = x.log(i, 0) + " " + x.log(i, 1) + " " + x.log(i, 2);
            String known = committed.putIfAbsent(i, entry);
            if (known != null && !known.equals(entry)) {
                Check.fail(name + "entry " + i + " of server " + s + " is " + entry + ", committed was " + known);
            }
        }
        int deeds = x.state(18);
        for (int k = deeds - deedsSeen[s] - 1; k >= 0; k--) {
            done++;
            if (k < 64) {
                int number = x.done(k, 0);
                Integer value = valueDone.putIfAbsent(number, x.done(k, 1));
                Check.due(name + "command " + number, x.done(k, 1), value == null ? x.done(k, 1) : value);
            }
        }
        deedsSeen[s] = deeds;
    }

    private void takeLetters(int s, LogServer x) {
        int went = x.state(16);
        for (int k = Math.min(64, went - lettersSeen[s]) - 1; k >= 0; k--) {
            int length = x.letter(k, 1) == 5 ? 8 + 3 * x.letter(k, 7) : new int[] {0, 5, 4, 5, 4, 0, 6, 10, 6, 3}[x.letter(k, 1)];
            int[] letter = new int[length + 1];
            letter[0] = s;
            for (int what = 0; what < length; what++) {
                letter[what + 1] = x.letter(k, what);
            }
            if (letter[1] < SERVERS) {
                onTheWay.add(letter);
            }
        }
        lettersSeen[s] = went;
    }
}
