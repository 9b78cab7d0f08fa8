import java.util.Map;

/**
 * Calls that are refused, by an exception, by NONE or by false, change nothing: in every role, all that can be
 * looked at is as before, and so is what later calls answer. What an APPEND or a PIECE was told is gone, though.
 */
public final class RefusedTest {
    private static final int[] NO_NUMBERS = {-1, 1000001, Integer.MIN_VALUE, Integer.MAX_VALUE};
    private static final int[] NO_SENDERS = {-1, 0, 7, Integer.MIN_VALUE, Integer.MAX_VALUE};

    private RefusedTest() {
    }

    public static void main(String[] args) {
        for (Map.Entry<String, Twins.Recipe> state : States.all().entrySet()) {
            ticks(state.getKey(), state.getValue());
            senders(state.getKey(), state.getValue());
            numbersOfElections(state.getKey(), state.getValue());
            numbersOfAnswers(state.getKey(), state.getValue());
            entries(state.getKey(), state.getValue());
            appends(state.getKey(), state.getValue());
            descriptions(state.getKey(), state.getValue());
            pieces(state.getKey(), state.getValue());
            sizes(state.getKey(), state.getValue());
            looks(state.getKey(), state.getValue());
        }
        whoDoesNotLead();
        whoHandsOver();
        whoChangesTheMembers();
        whoLeads();
        Check.end("RefusedTest");
    }

    private static void ticks(String name, Twins.Recipe state) {
        int[] bad = {0, -1, 1001, Integer.MIN_VALUE, Integer.MAX_VALUE};
        for (int n : bad) {
            illegal(name + ": tick(" + n + ")", state, x -> x.tick(n));
        }
    }

    private static void senders(String name, Twins.Recipe state) {
        for (int s : NO_SENDERS) {
            outOfBounds(name + ": preask from " + s, state, x -> x.preask(s, 3, 9, 9));
            outOfBounds(name + ": preanswer from " + s, state, x -> x.preanswer(s, 3, false));
            outOfBounds(name + ": ask from " + s, state, x -> x.ask(s, 9, 9, 9));
            outOfBounds(name + ": answer from " + s, state, x -> x.answer(s, 9, true));
            outOfBounds(name + ": appended from " + s, state, x -> x.appended(s, 9, true, 1, 1));
            outOfBounds(name + ": stored from " + s, state, x -> x.stored(s, 9, 1, 1, 1));
            outOfBounds(name + ": go from " + s, state, x -> x.go(s, 9));
        }
    }

    private static void numbersOfElections(String name, Twins.Recipe state) {
        for (int n : NO_NUMBERS) {
            illegal(name + ": preask, term " + n, state, x -> x.preask(1, n, 9, 9));
            illegal(name + ": preask, last " + n, state, x -> x.preask(1, 9, n, 9));
            illegal(name + ": preask, last term " + n, state, x -> x.preask(1, 9, 9, n));
            illegal(name + ": preanswer, term " + n, state, x -> x.preanswer(1, n, true));
            illegal(name + ": preanswer that refuses, term " + n, state, x -> x.preanswer(1, n, false));
            illegal(name + ": ask, term " + n, state, x -> x.ask(1, n, 9, 9));
            illegal(name + ": ask, last " + n, state, x -> x.ask(1, 9, n, 9));
            illegal(name + ": ask, last term " + n, state, x -> x.ask(1, 9, 9, n));
            illegal(name + ": answer, term " + n, state, x -> x.answer(1, n, true));
            illegal(name + ": go, term " + n, state, x -> x.go(1, n));
        }
    }

    private static void numbersOfAnswers(String name, Twins.Recipe state) {
        for (int n : NO_NUMBERS) {
            illegal(name + ": appended, term " + n, state, x -> x.appended(1, n, true, 1, 1));
            illegal(name + ": appended, number " + n, state, x -> x.appended(1, 9, true, n, 1));
            illegal(name + ": appended that refuses, number " + n, state, x -> x.appended(1, 9, false, n, 1));
            illegal(name + ": appended, round " + n, state, x -> x.appended(1, 9, true, 1, n));
            illegal(name + ": stored, term " + n, state, x -> x.stored(1, n, 1, 1, 1));
            illegal(name + ": stored, base " + n, state, x -> x.stored(1, 9, n, 1, 1));
            illegal(name + ": stored, bytes " + n, state, x -> x.stored(1, 9, 1, n, 1));
            illegal(name + ": stored, round " + n, state, x -> x.stored(1, 9, 1, 1, n));
        }
    }

    private static void entries(String name, Twins.Recipe state) {
        for (int n : NO_NUMBERS) {
            illegal(name + ": entry of term " + n, state, x -> x.entry(n, 2, 1));
        }
        illegal(name + ": entry of kind -1", state, x -> x.entry(1, -1, 1));
        illegal(name + ": entry of kind 3", state, x -> x.entry(1, 3, 1));
        illegal(name + ": entry with no code", state, x -> x.entry(1, 1, 0));
        Twins.Recipe full = () -> told(state.make(), 6);
        Twins.unchanged(name + ": a seventh entry", full,
            x -> Check.illegalState(name + ": a seventh entry", () -> x.entry(1, 2, 7)));
        illegal(name + ": a wrong seventh entry", full, x -> x.entry(1, 3, 7));
    }

    /** What was told is gone, what was described stays. */
    private static void appends(String name, Twins.Recipe state) {
        Twins.Recipe plain = () -> described(state.make());
        Twins.Recipe full = () -> told(described(state.make()), 6);
        for (int s : NO_SENDERS) {
            becomes(name + ": append from " + s, full, plain,
                x -> Check.outOfBounds(name + ": append from " + s, () -> x.append(s, 9, 0, 0, 9, 9)));
        }
        for (int n : NO_NUMBERS) {
            wrongAppend(name + ": append, term " + n, full, plain, x -> x.append(1, n, 0, 0, 9, 9));
            wrongAppend(name + ": append, before " + n, full, plain, x -> x.append(1, 9, n, 0, 9, 9));
            wrongAppend(name + ": append, term before " + n, full, plain, x -> x.append(1, 9, 0, n, 9, 9));
            wrongAppend(name + ": append, commit " + n, full, plain, x -> x.append(1, 9, 0, 0, n, 9));
            wrongAppend(name + ": append, round " + n, full, plain, x -> x.append(1, 9, 0, 0, 9, n));
        }
        wrongAppend(name + ": append, entries above the term", full, plain, x -> x.append(1, 0, 0, 0, 9, 9));
        wrongAppend(name + ": append, entries below that before", full, plain, x -> x.append(1, 9, 0, 2, 9, 9));
    }

    private static void wrongAppend(String what, Twins.Recipe full, Twins.Recipe plain, Twins.Deed append) {
        becomes(what, full, plain, x -> Check.illegal(what, () -> append.on(x)));
    }

    private static void descriptions(String name, Twins.Recipe state) {
        Twins.Recipe before = () -> described(state.make());
        for (int n : NO_NUMBERS) {
            illegal(name + ": describe, base " + n, before, x -> x.describe(n, 1, 7, 9));
            illegal(name + ": describe, term " + n, before, x -> x.describe(9, n, 7, 9));
            illegal(name + ": describe, size " + n, before, x -> x.describe(9, 1, 7, n));
        }
        illegal(name + ": describe, base 0", before, x -> x.describe(0, 1, 7, 9));
        illegal(name + ": describe, size 0", before, x -> x.describe(9, 1, 7, 0));
        illegal(name + ": describe, no code", before, x -> x.describe(9, 1, 0, 9));
        illegal(name + ": describe for the first time", state, x -> x.describe(9, 1, 7, 0));
    }

    /** What was described is gone, what was told stays. */
    private static void pieces(String name, Twins.Recipe state) {
        Twins.Recipe plain = () -> told(state.make(), 2);
        Twins.Recipe full = () -> described(told(state.make(), 2));
        for (int s : NO_SENDERS) {
            becomes(name + ": piece from " + s, full, plain,
                x -> Check.outOfBounds(name + ": piece from " + s, () -> x.piece(s, 9, 0, 9, 9)));
        }
        for (int n : NO_NUMBERS) {
            wrongAppend(name + ": piece, term " + n, full, plain, x -> x.piece(1, n, 0, 9, 9));
            wrongAppend(name + ": piece, at " + n, full, plain, x -> x.piece(1, 9, n, 9, 9));
            wrongAppend(name + ": piece, bytes " + n, full, plain, x -> x.piece(1, 9, 0, n, 9));
            wrongAppend(name + ": piece, round " + n, full, plain, x -> x.piece(1, 9, 0, 9, n));
        }
        wrongAppend(name + ": piece, 201 bytes", full, plain, x -> x.piece(1, 9, 0, 201, 9));
        wrongAppend(name + ": piece beyond the size", full, plain, x -> x.piece(1, 9, 301, 100, 9));
        wrongAppend(name + ": piece of a later term", full, plain, x -> x.piece(1, 1, 0, 9, 9));
        illegal(name + ": piece without a description", plain, x -> x.piece(1, 9, 0, 9, 9));
    }

    private static void sizes(String name, Twins.Recipe state) {
        int[] bad = {0, -1, 1000001, Integer.MIN_VALUE, Integer.MAX_VALUE};
        for (int size : bad) {
            refuses(name + ": compact(" + size + ")", state, x -> x.compact(size));
        }
    }

    private static void looks(String name, Twins.Recipe state) {
        int[] bad = {-1, 2000000, Integer.MIN_VALUE, Integer.MAX_VALUE};
        for (int n : bad) {
            outOfBounds(name + ": state(" + n + ")", state, x -> x.state(n));
            outOfBounds(name + ": log(" + n + ", 0)", state, x -> x.log(n, 0));
            outOfBounds(name + ": peer(" + n + ", 0)", state, x -> x.peer(n, 0));
            outOfBounds(name + ": letter(" + n + ", 0)", state, x -> x.letter(n, 0));
            outOfBounds(name + ": done(" + n + ", 0)", state, x -> x.done(n, 0));
            outOfBounds(name + ": call(" + n + ")", state, x -> x.call(n));
            outOfBounds(name + ": callFor(" + n + ")", state, x -> x.callFor(n));
        }
        Twins.unchanged(name + ": looks", state, x -> Picture.of(x));
    }

    private static void whoDoesNotLead() {
        String[] names = {"new", "follows", "follows, dirty", "asks", "stands", "restarted"};
        for (String name : names) {
            Twins.Recipe state = States.all().get(name);
            none(name + ": command", state, x -> x.command(1));
            none(name + ": read", state, x -> x.read());
            refuses(name + ": members", state, x -> x.members(3));
            refuses(name + ": learners", state, x -> x.learners(64));
            refuses(name + ": hand", state, x -> x.hand(1));
            outOfBounds(name + ": peer", state, x -> x.peer(1, 0));
        }
        refuses("new: nothing is applied", States.all().get("new"), x -> x.compact(1));
        refuses("asks: nothing is applied", States::asks, x -> x.compact(1));
    }

    private static void whoHandsOver() {
        none("hands over: command", States::handsOver, x -> x.command(1));
        none("hands over: read", States::handsOver, x -> x.read());
        refuses("hands over: members", States::handsOver, x -> x.members(3));
        refuses("hands over: learners", States::handsOver, x -> x.learners(64));
        refuses("hands over: hand to another", States::handsOver, x -> x.hand(1));
        refuses("hands over: hand to the same", States::handsOver, x -> x.hand(3));
    }

    private static void whoChangesTheMembers() {
        refuses("joint: members", States::changesMembers, x -> x.members(7));
        refuses("joint: learners", States::changesMembers, x -> x.learners(64));
        Twins.Recipe learning = () -> {
            LogServer x = States.sendsSnapshot();
            x.learners(32);
            return x;
        };
        refuses("learners above COMMIT: members", learning, x -> x.members(7));
        refuses("learners above COMMIT: learners", learning, x -> x.learners(64));
        refuses("hand to a learner", learning, x -> x.hand(5));
    }

    private static void whoLeads() {
        int[] noMembers = {0, -1, 128, 63, 33, Integer.MIN_VALUE, Integer.MAX_VALUE};
        for (int set : noMembers) {
            refuses("leads: members(" + set + ")", States::leads, x -> x.members(set));
        }
        int[] noLearners = {-1, 128, 127, 1, 16, Integer.MIN_VALUE, Integer.MAX_VALUE};
        for (int set : noLearners) {
            refuses("leads: learners(" + set + ")", States::leads, x -> x.learners(set));
        }
        int[] noVoters = {0, -1, 5, 6, 7, 32, Integer.MIN_VALUE, Integer.MAX_VALUE};
        for (int s : noVoters) {
            refuses("leads: hand(" + s + ")", States::leads, x -> x.hand(s));
        }
        refuses("APPLIED is BASE", States::sendsSnapshot, x -> x.compact(1));
    }

    /** A look or a call that answers. */
    private interface Asked {
        int of(LogServer x);
    }

    /** A call that does or refuses. */
    private interface Tried {
        boolean on(LogServer x);
    }

    private static void illegal(String what, Twins.Recipe state, Twins.Deed deed) {
        Twins.unchanged(what, state, x -> Check.illegal(what, () -> deed.on(x)));
    }

    private static void outOfBounds(String what, Twins.Recipe state, Twins.Deed deed) {
        Twins.unchanged(what, state, x -> Check.outOfBounds(what, () -> deed.on(x)));
    }

    private static void refuses(String what, Twins.Recipe state, Tried tried) {
        Twins.unchanged(what, state, x -> Check.due(what, tried.on(x), false));
    }

    private static void none(String what, Twins.Recipe state, Asked asked) {
        Twins.unchanged(what, state, x -> Check.due(what, asked.of(x), LogServer.NONE));
    }

    private static void becomes(String what, Twins.Recipe from, Twins.Recipe to, Twins.Deed deed) {
        Twins.alike(what, to, () -> {
            LogServer x = from.make();
            deed.on(x);
            return x;
        });
    }

    private static LogServer told(LogServer x, int count) {
        for (int k = 0; k < count; k++) {
            x.entry(1, 2, 50 + k);
        }
        return x;
    }

    private static LogServer described(LogServer x) {
        x.describe(12, 2, 7, 400);
        return x;
    }
}
