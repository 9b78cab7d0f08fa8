import java.util.Random;

/** Long runs of calls on a LogServer and on the Model, which must look the same after each of them. */
public final class ModelTest {
    private static final int RUNS = 1500;
    private static final int CALLS = 600;

    private final Random random;
    private final LogServer server;
    private final Model model;
    private final int style;
    private int lettersSeen = 0;
    private String last = "a new object";

    private ModelTest(long seed) {
        random = new Random(seed);
        int itself = random.nextInt(9);
        int first = random.nextInt(6) == 0 ? random.nextInt(300) : new int[] {1, 3, 7, 15, 31, 127}[random.nextInt(6)];
        long row = random.nextLong();
        server = new LogServer(itself, first, row);
        model = new Model(itself, first, row);
        style = random.nextInt(6);
    }

    public static void main(String[] args) {
        for (long seed = 0; seed < RUNS && !Check.failed(); seed++) {
            ModelTest run = new ModelTest(seed);
            run.compare(seed, 0);
            for (int k = 1; k <= CALLS && !Check.failed(); k++) {
                run.step();
                run.compare(seed, k);
            }
        }
        Check.end("ModelTest");
    }

    private void step() {
        int choice = random.nextInt(100);
        if (style == 5 && choice < 80) {
            fillTheLog();
        } else if (choice < 70) {
            goOn();
        } else {
            anything();
        }
    }

    private int other() {
        int from = random.nextInt(6);
        return from >= model.itself ? from + 1 : from;
    }

    private int near(int number) {
        int n = number + random.nextInt(5) - 2;
        return Math.max(0, Math.min(1000000, n));
    }

    private int term() {
        int kind = random.nextInt(40);
        if (kind == 0) {
            return near(model.term + 3);
        }
        return kind < 4 ? near(model.term) : Math.min(1000000, model.term);
    }

    private int code() {
        int old = 1 + random.nextInt(127);
        int fresh = random.nextBoolean() ? 0 : random.nextInt(128);
        int learning = random.nextInt(128) & ~(old | fresh);
        int own = random.nextInt(3) == 0 ? 0 : 1 << model.itself;
        return (old | own) + 128 * fresh + 16384 * (learning & ~own);
    }

    private void fillTheLog() {
        if (model.role == 0 && model.entries.size() < 250 && random.nextInt(10) > 0) {
            appendFitting(6);
        } else if (model.role == 0) {
            doTick(150);
        } else if (model.role == 1) {
            doPreanswer(other(), model.term + 1, true);
        } else if (model.role == 2) {
            if (random.nextBoolean()) {
                doSync();
            } else {
                doAnswer(other(), model.term, true);
            }
        } else {
            doAnswer(other(), model.term + 1, false);
        }
    }

    private void goOn() {
        switch (model.role) {
            case 0:
                followOn();
                break;
            case 1:
                doPreanswer(other(), model.term + 1, true);
                break;
            case 2:
                if (random.nextInt(3) == 0) {
                    doSync();
                } else {
                    doAnswer(other(), model.term, true);
                }
                break;
            default:
                leadOn();
                break;
        }
    }

    private void followOn() {
        int choice = random.nextInt(style == 4 ? 12 : 30);
        if (choice == 0) {
            doTick(100);
        } else if (choice < 4) {
            doPiece(random.nextInt(3) == 0 ? model.commit + 1 + random.nextInt(12) : model.assemblyBase);
        } else if (choice < 6) {
            doSync();
        } else if (choice == 6) {
            doGo(other(), model.term);
        } else if (choice == 7) {
            doCompact(1 + random.nextInt(600));
        } else {
            appendFitting(random.nextInt(7));
        }
    }

    /** An APPEND as a leader would send it, more or less. */
    private void appendFitting(int count) {
        int t = Math.max(1, term());
        int p = random.nextInt(4) > 0 ? model.last() : Math.max(0, model.last() - random.nextInt(8));
        boolean known = p >= model.base && p <= model.last();
        int pTerm = known && random.nextInt(30) > 0 ? model.termOf(p) : Math.min(t, near(model.snapTerm));
        int rising = pTerm;
        for (int k = 0; k < count && rising <= t && t <= 1000000; k++) {
            int number = p + 1 + k;
            boolean copy = number > model.base && number <= model.last() && random.nextInt(6) > 0;
            if (copy && model.termOf(number) >= rising && model.termOf(number) <= t) {
                Model.Entry e = model.at(number);
                rising = e.term();
                doEntry(e.term(), e.kind(), e.value());
            } else {
                rising = random.nextInt(3) == 0 ? rising + random.nextInt(t - rising + 1) : rising;
                int kind = random.nextInt(20) == 0 ? 1 : random.nextInt(2) * 2;
                doEntry(rising, kind, kind == 1 ? code() : random.nextInt());
            }
        }
        doAppend(other(), t, p, pTerm, near(random.nextBoolean() ? model.last() - 2 : model.commit), random.nextInt(9));
    }

    private void leadOn() {
        int from = other();
        int choice = random.nextInt(40);
        if (choice < 12) {
            int upTo = random.nextInt(5) == 0 ? near(model.of[from].match) : model.of[from].next - 1;
            doAppended(from, model.term, true, upTo, Math.max(0, model.round - random.nextInt(2)));
        } else if (choice < 14) {
            doAppended(from, model.term, false, random.nextInt(model.last() + 3), model.round);
        } else if (choice < 18) {
            int bytes = random.nextInt(3) == 0 ? random.nextInt(700) : Math.min(model.snapSize, model.of[from].offset + 200);
            doStored(from, model.term, random.nextInt(9) == 0 ? near(model.base) : model.base, bytes, model.round);
        } else if (choice < 23) {
            doCommand(random.nextInt());
        } else if (choice < 26) {
            doRead();
        } else if (choice < 30) {
            doSync();
        } else if (choice < 34) {
            doTick(1 + random.nextInt(style == 3 ? 60 : 12));
        } else if (choice == 34) {
            doMembers(random.nextInt(3) == 0 ? random.nextInt(140) - 5 : model.old() ^ 1 << random.nextInt(7));
        } else if (choice == 35) {
            doLearners(random.nextInt(3) == 0 ? random.nextInt(140) - 5 : 127 & ~model.old() & random.nextInt(128));
        } else if (choice == 36) {
            doMembers(model.old() | model.learning());
        } else if (choice == 37 && random.nextBoolean()) {
            doHand(random.nextInt(9) - 1);
        } else if (choice == 38 && random.nextInt(3) == 0) {
            doCompact(1 + random.nextInt(700));
        } else {
            doTick(10);
        }
    }

    private void anything() {
        switch (random.nextInt(17)) {
            case 0: doTick(1 + random.nextInt(random.nextInt(8) == 0 ? 1000 : 60)); break;
            case 1: doPreask(other(), near(model.term + 1), near(model.last()), near(model.termOf(model.last()))); break;
            case 2: doPreanswer(other(), random.nextInt(8) == 0 ? term() : model.term + 1, random.nextInt(8) > 0); break;
            case 3: doAsk(other(), term(), near(model.last()), near(model.termOf(model.last()))); break;
            case 4: doAnswer(other(), term(), random.nextBoolean()); break;
            case 5: appendFitting(random.nextInt(7)); break;
            case 6: doAppended(other(), term(), random.nextBoolean(), near(model.last()), random.nextInt(9)); break;
            case 7: doPiece(near(model.last())); break;
            case 8: doStored(other(), term(), near(model.base), random.nextInt(500), random.nextInt(9)); break;
            case 9: doGo(other(), term()); break;
            case 10: doSync(); break;
            case 11: doCommand(random.nextInt()); break;
            case 12: doRead(); break;
            case 13: doMembers(random.nextInt(128)); break;
            case 14: doHand(random.nextInt(9) - 1); break;
            case 15: doCompact(random.nextInt(600)); break;
            default:
                if (random.nextInt(8) == 0) {
                    doRestart();
                } else {
                    doSync();
                }
                break;
        }
    }

    private void doTick(int n) {
        last = "tick(" + n + ")";
        Check.due(last, server.tick(n), model.tick(n));
    }

    private void doPreask(int from, int t, int n, int nTerm) {
        last = "preask(" + from + ", " + t + ", " + n + ", " + nTerm + ")";
        server.preask(from, t, n, nTerm);
        model.preask(from, t, n, nTerm);
    }

    private void doPreanswer(int from, int t, boolean granted) {
        last = "preanswer(" + from + ", " + t + ", " + granted + ")";
        server.preanswer(from, t, granted);
        model.preanswer(from, t, granted);
    }

    private void doAsk(int from, int t, int n, int nTerm) {
        last = "ask(" + from + ", " + t + ", " + n + ", " + nTerm + ")";
        server.ask(from, t, n, nTerm);
        model.ask(from, t, n, nTerm);
    }

    private void doAnswer(int from, int t, boolean granted) {
        last = "answer(" + from + ", " + t + ", " + granted + ")";
        server.answer(from, t, granted);
        model.answer(from, t, granted);
    }

    private void doGo(int from, int t) {
        last = "go(" + from + ", " + t + ")";
        server.go(from, t);
        model.go(t);
    }

    private void doEntry(int t, int kind, int value) {
        last = "entry(" + t + ", " + kind + ", " + value + ")";
        model.told.add(new Model.Entry(t, kind, value));
        Check.due(last, server.entry(t, kind, value), model.told.size());
    }

    private void doAppend(int from, int t, int p, int pTerm, int commit, int round) {
        last = "append(" + from + ", " + t + ", " + p + ", " + pTerm + ", " + commit + ", " + round + ")";
        server.append(from, t, p, pTerm, commit, round);
        model.append(from, t, p, pTerm, commit, round);
    }

    private void doAppended(int from, int t, boolean ok, int number, int round) {
        last = "appended(" + from + ", " + t + ", " + ok + ", " + number + ", " + round + ")";
        server.appended(from, t, ok, number, round);
        model.appended(from, t, ok, number, round);
    }

    private void doPiece(int wanted) {
        int b = Math.max(1, wanted);
        int t = Math.max(1, term());
        boolean fits = b > model.base && b <= model.last() && random.nextBoolean() && model.termOf(b) <= t;
        int bTerm = fits ? model.termOf(b) : Math.min(t, near(model.termOf(model.last())));
        int size = random.nextInt(4) == 0 ? 1 + random.nextInt(900) : 350;
        int from = random.nextInt(4) == 0 ? 0 : random.nextInt(6) == 0 ? random.nextInt(size) : model.assemblyGot;
        int at = Math.min(from, size);
        int bytes = Math.min(size - at, random.nextInt(6) == 0 ? random.nextInt(201) : 200);
        int code = code();
        int round = random.nextInt(9);
        int sender = other();
        last = "describe(" + b + ", " + bTerm + ", " + code + ", " + size + "); piece(" + sender + ", " + t + ", " + at
            + ", " + bytes + ", " + round + ")";
        server.describe(b, bTerm, code, size);
        model.described = new int[] {b, bTerm, code, size};
        server.piece(sender, t, at, bytes, round);
        model.piece(sender, t, at, bytes, round);
    }

    private void doStored(int from, int t, int b, int bytes, int round) {
        last = "stored(" + from + ", " + t + ", " + b + ", " + bytes + ", " + round + ")";
        server.stored(from, t, b, bytes, round);
        model.stored(from, t, b, bytes, round);
    }

    private void doSync() {
        last = "sync()";
        Check.due(last, server.sync(), model.sync());
    }

    private void doCommand(int value) {
        last = "command(" + value + ")";
        Check.due(last, server.command(value), model.command(value));
    }

    private void doRead() {
        last = "read()";
        Check.due(last, server.read(), model.read());
    }

    private void doMembers(int set) {
        last = "members(" + set + ")";
        Check.due(last, server.members(set), model.members(set));
    }

    private void doLearners(int set) {
        last = "learners(" + set + ")";
        Check.due(last, server.learners(set), model.learners(set));
    }

    private void doHand(int to) {
        last = "hand(" + to + ")";
        Check.due(last, server.hand(to), model.hand(to));
    }

    private void doCompact(int size) {
        last = "compact(" + size + ")";
        Check.due(last, server.compact(size), model.compact(size));
    }

    private void doRestart() {
        last = "restart()";
        server.restart();
        model.restart();
    }

    private void compare(long seed, int k) {
        String where = "run " + seed + ", call " + k + ", after " + last + ": ";
        for (int what = 0; what < 20; what++) {
            Check.due(where + "state(" + what + ")", server.state(what), model.state(what));
        }
        if (Check.failed()) {
            return;
        }
        compareLog(where, k % 25 == 0 ? model.base : Math.max(model.base, model.last() - 7));
        for (int s = 0; s < 7 && model.role == 3; s++) {
            for (int what = 0; what < 7; what++) {
                Check.due(where + "peer(" + s + ", " + what + ")", server.peer(s, what), model.peer(s, what));
            }
        }
        compareLetters(where);
        for (int n = Math.max(0, model.deeds.size() - 8); n < model.deeds.size(); n++) {
            int back = model.deeds.size() - 1 - n;
            Check.due(where + "done(" + back + ", 0)", server.done(back, 0), model.deeds.get(n)[0]);
            Check.due(where + "done(" + back + ", 1)", server.done(back, 1), model.deeds.get(n)[1]);
        }
        for (int n = Math.max(0, model.calls.size() - 32); n < model.calls.size(); n++) {
            Check.due(where + "call(" + n + ")", server.call(n), model.calls.get(n).outcome);
            Check.due(where + "callFor(" + n + ")", server.callFor(n), model.calls.get(n).number);
        }
    }

    private void compareLog(String where, int from) {
        Check.due(where + "log(BASE, 0)", server.log(model.base, 0), model.snapTerm);
        for (int i = from + 1; i <= model.last(); i++) {
            Model.Entry e = model.at(i);
            Check.dueEntry(where, server, i, e.term(), e.kind(), e.value());
        }
    }

    private void compareLetters(String where) {
        int from = Math.max(lettersSeen, model.gone.size() - 64);
        for (int n = from; n < model.gone.size(); n++) {
            Check.dueLetter(where, server, model.gone.size() - 1 - n, model.gone.get(n));
        }
        lettersSeen = model.gone.size();
    }
}
