/** Promises 7 and 8: entries that are told, and the APPEND that brings them. */
public final class FollowerTest {
    private FollowerTest() {
    }

    public static void main(String[] args) {
        entriesAreTold();
        entriesAreChecked();
        appendWrites();
        appendFollows();
        appendWithALowTerm();
        appendToALeader();
        appendBeyondTheLog();
        appendWithAnotherTermBefore();
        appendPassesOver();
        appendCuts();
        appendAgainstTheCommitted();
        appendCommits();
        appendBelowTheBase();
        appendIsChecked();
        appendLeavesNoEntries();
        appendTakesTheMembers();
        appendUpTo250();
        Check.end("FollowerTest");
    }

    private static void entriesAreTold() {
        LogServer x = new LogServer(0, 7, 0L);
        for (int k = 1; k <= 6; k++) {
            Check.due("entry", x.entry(k, 2, -k), k);
        }
        Check.illegalState("a seventh", () -> x.entry(6, 2, 0));
        Check.illegal("a wrong seventh", () -> x.entry(-1, 2, 0));
        x.append(1, 6, 0, 0, 0, 0);
        Check.due("six were written", x.state(8), 6);
        for (int k = 1; k <= 6; k++) {
            Check.dueEntry("told", x, k, k, 2, -k);
        }
        Check.due("none are left", x.entry(1, 0, 7), 1);
    }

    private static void entriesAreChecked() {
        LogServer x = new LogServer(0, 7, 0L);
        int[] terms = {-1, 1000001, Integer.MIN_VALUE, Integer.MAX_VALUE};
        for (int t : terms) {
            Check.illegal("term " + t, () -> x.entry(t, 0, 0));
        }
        int[] kinds = {-1, 3, Integer.MIN_VALUE, Integer.MAX_VALUE};
        for (int kind : kinds) {
            Check.illegal("kind " + kind, () -> x.entry(0, kind, 1));
        }
        int[] noCodes = {0, -1, 128, 16384, 1 + 16384, 1 + 128 * 2 + 16384 * 2, 1 << 21, 1 + (1 << 21),
            Integer.MIN_VALUE + 1, Integer.MAX_VALUE};
        for (int code : noCodes) {
            Check.illegal("code " + code, () -> x.entry(0, 1, code));
        }
        Check.due("a wrong entry is not told", x.entry(0, 1, 1), 1);
        Check.due("a code", x.entry(1000000, 1, 127 + 128 * 127), 2);
        Check.due("a code with learners", x.entry(0, 1, 1 + 128 + 16384 * 126), 3);
        Check.due("other kinds have any value", x.entry(0, 0, Integer.MIN_VALUE), 4);
    }

    private static void appendWrites() {
        LogServer x = new LogServer(0, 7, 0L);
        x.entry(1, 0, 5);
        x.entry(2, 2, 6);
        x.append(2, 3, 0, 0, 0, 44);
        Check.due("dirty", x.state(14), 1);
        Check.due("not synced", x.state(6), 0);
        Check.due("the answer waits", x.state(17), 1);
        Check.due("goes", x.sync(), 1);
        Check.due("synced", x.state(6), 2);
        Check.dueLetter("APPENDED", x, 0, 2, 6, 3, 1, 2, 44);
        Check.dueEntry("first", x, 1, 1, 0, 5);
        Check.dueEntry("second", x, 2, 2, 2, 6);
    }

    private static void appendFollows() {
        LogServer x = new LogServer(0, 7, 0L);
        x.tick(60);
        int alarm = x.state(12);
        x.append(1, 0, 0, 0, 0, 1);
        Check.due("follows", x.state(0), 0);
        Check.due("leader", x.state(3), 1);
        Check.due("drawn", x.state(12) != alarm, true);
        Check.due("nothing was written", x.state(14), 0);
        Check.dueLetter("an empty one", x, 0, 1, 6, 0, 1, 0, 1);
        LogServer y = new LogServer(0, 7, 0L);
        y.go(1, 0);
        y.append(2, 1, 0, 0, 0, 1);
        Check.due("who stands follows", y.state(0), 0);
        Check.due("its vote stays", y.state(2), 0);
        y.append(1, 5, 9, 0, 0, 1);
        Check.due("a higher term", y.state(1), 5);
        Check.due("its vote is gone", y.state(2), -1);
        Check.due("another leader, also when it refuses", y.state(3), 1);
        y.sync();
        y.preask(2, 9, 9, 9);
        Check.due("it was heard", y.letter(0, 3), 0);
    }

    private static void appendWithALowTerm() {
        LogServer x = Make.withLog(0, 7, 4);
        int alarm = x.state(12);
        x.entry(2, 2, 1);
        x.append(2, 3, 1, 2, 1, 9);
        Check.dueLetter("refused", x, 0, 2, 6, 4, 0, 0, 9);
        Check.due("the leader stays", x.state(3), 1);
        Check.due("so does the alarm", x.state(12), alarm);
        Check.due("so does COMMIT", x.state(4), 0);
        Check.due("and the log", x.state(8), 1);
    }

    private static void appendToALeader() {
        LogServer x = Make.leader(0, 7, 1);
        int went = x.state(16);
        x.append(1, 1, 0, 0, 0, 1);
        Check.due("leads on", x.state(0), 3);
        Check.due("no letter", x.state(16) + x.state(17), went);
        x.append(1, 0, 0, 0, 0, 7);
        Check.dueLetter("a low term is refused", x, 0, 1, 6, 1, 0, 0, 7);
        int command = x.command(3);
        x.append(1, 2, 0, 0, 0, 1);
        Check.due("a higher term", x.state(0), 0);
        Check.due("its leader", x.state(3), 1);
        Check.due("the call is dropped", x.call(command), 2);
    }

    private static void appendBeyondTheLog() {
        LogServer x = Make.withLog(0, 7, 1, 1);
        x.append(1, 1, 3, 1, 3, 5);
        Check.dueLetter("LAST + 1", x, 0, 1, 6, 1, 0, 3, 5);
        x.append(1, 1, 1000000, 1, 3, 6);
        Check.dueLetter("far beyond", x, 0, 1, 6, 1, 0, 3, 6);
        Check.due("COMMIT stays", x.state(4), 0);
    }

    private static void appendWithAnotherTermBefore() {
        LogServer x = Make.withLog(0, 7, 1, 1, 2, 2, 2, 3);
        x.append(1, 3, 5, 3, 9, 1);
        Check.dueLetter("the begin of that term", x, 0, 1, 6, 3, 0, 3, 1);
        x.append(1, 3, 6, 1, 9, 2);
        Check.dueLetter("a term of one entry", x, 0, 1, 6, 3, 0, 6, 2);
        x.append(1, 3, 2, 0, 9, 3);
        Check.dueLetter("not below the first", x, 0, 1, 6, 3, 0, 1, 3);
        x.append(1, 3, 0, 1, 9, 4);
        Check.dueLetter("BASE with another term", x, 0, 1, 6, 3, 0, 1, 4);
        x.append(1, 3, 5, 2, 4, 5);
        x.compact(10);
        x.sync();
        Check.due("BASE", x.state(7), 4);
        x.append(1, 3, 5, 3, 9, 6);
        Check.dueLetter("not below BASE + 1", x, 0, 1, 6, 3, 0, 5, 6);
        x.append(1, 3, 4, 3, 9, 7);
        Check.dueLetter("BASE + 1 for BASE", x, 0, 1, 6, 3, 0, 5, 7);
        Check.due("COMMIT stays", x.state(4), 4);
    }

    private static void appendPassesOver() {
        LogServer x = Make.withLog(0, 7, 1, 1, 2);
        x.entry(1, 0, 999);
        x.append(1, 2, 0, 0, 0, 1);
        Check.due("no write", x.state(14), 0);
        Check.due("what is behind stays", x.state(8), 3);
        Check.dueEntry("its own stays", x, 1, 1, 2, 100);
        Check.dueLetter("m is what was told", x, 0, 1, 6, 2, 1, 1, 1);
        x.entry(2, 2, 5);
        x.entry(2, 2, 6);
        x.append(1, 2, 2, 1, 0, 2);
        Check.due("one was new", x.state(8), 4);
        Check.due("a write", x.state(14), 1);
        Check.due("SYNCED did not fall", x.state(6), 3);
        Check.dueEntry("known", x, 3, 2, 2, 102);
        Check.dueEntry("new", x, 4, 2, 2, 6);
    }

    private static void appendCuts() {
        LogServer x = Make.withLog(0, 7, 1, 1, 1, 1);
        x.entry(1, 2, 7);
        x.entry(2, 2, 8);
        x.append(2, 2, 1, 1, 0, 1);
        Check.due("LAST", x.state(8), 3);
        Check.due("SYNCED fell", x.state(6), 2);
        Check.due("dirty", x.state(14), 1);
        Check.dueEntry("kept", x, 2, 1, 2, 101);
        Check.dueEntry("written anew", x, 3, 2, 2, 8);
        Check.outOfBounds("cut", () -> x.log(4, 0));
        x.sync();
        Check.due("SYNCED", x.state(6), 3);
        LogServer y = Make.withLog(0, 7, 1, 3);
        y.entry(2, 2, 7);
        y.entry(3, 2, 8);
        y.entry(3, 2, 9);
        y.append(2, 3, 1, 1, 0, 1);
        Check.dueEntry("those behind the first other are written too", y, 3, 3, 2, 8);
        Check.due("all of them", y.state(8), 4);
    }

    private static void appendAgainstTheCommitted() {
        LogServer x = Make.withLog(0, 7, 1, 1, 1);
        x.append(1, 1, 3, 1, 2, 1);
        Check.due("COMMIT", x.state(4), 2);
        int went = x.state(16);
        x.entry(2, 2, 9);
        x.append(2, 2, 1, 1, 3, 2);
        x.sync();
        Check.due("no letter", x.state(16), went);
        Check.due("nothing cut", x.state(8), 3);
        Check.due("nothing committed", x.state(4), 2);
        Check.due("but it follows the sender", x.state(3), 2);
        x.entry(2, 2, 9);
        x.append(2, 2, 2, 1, 3, 3);
        x.sync();
        Check.dueEntry("behind COMMIT it may", x, 3, 2, 2, 9);
        Check.due("COMMIT", x.state(4), 3);
        x.append(2, 2, 0, 0, 3, 4);
        Check.dueLetter("entries of letters before do not count", x, 0, 2, 6, 2, 1, 0, 4);
        x.compact(1);
        x.sync();
        went = x.state(16);
        x.entry(1, 2, 1);
        x.append(2, 2, 2, 1, 3, 4);
        Check.due("BASE of another term", x.state(16), went);
        x.entry(2, 2, 1);
        x.append(2, 2, 2, 1, 3, 5);
        Check.dueLetter("BASE of the same term", x, 0, 2, 6, 2, 1, 3, 5);
    }

    private static void appendCommits() {
        LogServer x = Make.withLog(0, 7, 1, 1, 1, 1);
        x.append(1, 1, 2, 1, 4, 1);
        Check.due("at most what the letter reaches", x.state(4), 2);
        Check.due("applied", x.state(5), 2);
        Check.due("done", x.state(18), 2);
        Check.due("the latest", x.done(0, 0), 2);
        Check.due("its value", x.done(0, 1), 101);
        x.append(1, 1, 4, 1, 1, 1);
        Check.due("never less", x.state(4), 2);
        x.append(1, 1, 4, 1, 3, 1);
        Check.due("what is told", x.state(4), 3);
        Check.due("commands are done once", x.state(18), 3);
        x.entry(1, 0, 0);
        x.entry(1, 1, 3);
        x.entry(1, 2, 77);
        x.append(1, 1, 4, 1, 1000000, 1);
        Check.due("with the new entries", x.state(4), 7);
        Check.due("only commands are done", x.state(18), 5);
        Check.due("that with number 7", x.done(0, 0), 7);
        Check.due("after that with number 4", x.done(1, 0), 4);
        Check.due("committed before it is synced", x.state(6), 4);
    }

    private static void appendBelowTheBase() {
        LogServer x = Make.withLog(0, 7, 1, 1, 1, 2, 2);
        x.append(1, 2, 5, 2, 4, 1);
        x.compact(10);
        x.sync();
        x.append(1, 2, 1, 2, 0, 2);
        Check.dueLetter("a number below BASE is not looked at", x, 0, 1, 6, 2, 1, 4, 2);
        x.entry(1, 2, 1);
        x.append(1, 2, 1, 0, 0, 3);
        Check.dueLetter("m is at least BASE", x, 0, 1, 6, 2, 1, 4, 3);
        x.entry(1, 2, 1);
        x.entry(2, 2, 1);
        x.entry(2, 2, 1);
        x.entry(2, 2, 61);
        x.append(1, 2, 2, 1, 6, 4);
        x.sync();
        Check.dueLetter("over the BASE", x, 0, 1, 6, 2, 1, 6, 4);
        Check.dueEntry("its own", x, 5, 2, 2, 104);
        Check.dueEntry("the new one", x, 6, 2, 2, 61);
        Check.due("COMMIT", x.state(4), 6);
    }

    private static void appendIsChecked() {
        LogServer x = new LogServer(3, 7, 0L);
        int[] senders = {-1, 3, 7, Integer.MAX_VALUE, Integer.MIN_VALUE};
        for (int s : senders) {
            Check.outOfBounds("from " + s, () -> x.append(s, -1, 0, 0, 0, 0));
        }
        int[] numbers = {-1, 1000001, Integer.MAX_VALUE, Integer.MIN_VALUE};
        for (int n : numbers) {
            Check.illegal("term", () -> x.append(1, n, 0, 0, 0, 0));
            Check.illegal("before", () -> x.append(1, 1, n, 0, 0, 0));
            Check.illegal("its term", () -> x.append(1, 1, 0, n, 0, 0));
            Check.illegal("commit", () -> x.append(1, 1, 0, 0, n, 0));
            Check.illegal("round", () -> x.append(1, 1, 0, 0, 0, n));
        }
        x.entry(2, 2, 1);
        Check.illegal("an entry's term above the letter's", () -> x.append(1, 1, 0, 0, 0, 0));
        x.entry(1, 2, 1);
        Check.illegal("below that before", () -> x.append(1, 3, 0, 2, 0, 0));
        x.entry(2, 2, 1);
        x.entry(1, 2, 1);
        Check.illegal("below the one before", () -> x.append(1, 3, 0, 0, 0, 0));
        x.entry(0, 2, 1);
        x.entry(0, 2, 1);
        x.entry(4, 2, 1);
        Check.illegal("the last one above the letter's", () -> x.append(1, 3, 0, 0, 0, 0));
        Check.due("nothing happened", x.state(1) + x.state(8) + x.state(16) + x.state(17), 0);
        Check.due("no leader", x.state(3), -1);
        x.append(1, 1000000, 1000000, 1000000, 1000000, 1000000);
        x.sync();
        Check.dueLetter("the greatest", x, 0, 1, 6, 1000000, 0, 1, 1000000);
        LogServer y = new LogServer(3, 7, 0L);
        y.append(1, 1, 0, 5, 0, 0);
        y.sync();
        Check.dueLetter("a term before above the letter's is no fault by itself", y, 0, 1, 6, 1, 0, 1, 0);
    }

    private static void appendLeavesNoEntries() {
        LogServer x = new LogServer(0, 7, 0L);
        x.entry(1, 2, 1);
        x.entry(1, 2, 2);
        Check.outOfBounds("from itself", () -> x.append(0, 1, 0, 0, 0, 0));
        Check.due("none are left", x.entry(1, 2, 3), 1);
        Check.illegal("a wrong round", () -> x.append(1, 1, 0, 0, 0, -1));
        x.append(1, 1, 0, 0, 0, 0);
        Check.due("none again", x.state(8), 0);
        x.entry(9, 2, 1);
        Check.illegal("a wrong entry", () -> x.append(1, 1, 0, 0, 0, 0));
        x.append(1, 1, 0, 0, 0, 0);
        Check.due("none still", x.state(8), 0);
        x.entry(0, 2, 1);
        x.append(1, 0, 0, 0, 0, 0);
        x.append(1, 1, 0, 0, 0, 0);
        Check.due("none after a refused letter", x.state(8), 0);
    }

    private static void appendTakesTheMembers() {
        LogServer x = Make.withLog(0, 7, 1);
        x.entry(1, 1, 3);
        x.entry(1, 1, 3 + 128 * 12);
        x.append(1, 1, 1, 1, 0, 0);
        Check.due("the last one counts, committed or not", x.state(9), 3 + 128 * 12);
        x.entry(2, 0, 0);
        x.append(1, 2, 2, 1, 0, 0);
        Check.due("cut: the one before", x.state(9), 3);
        x.entry(3, 0, 0);
        x.append(1, 3, 1, 1, 0, 0);
        Check.due("cut: the first members", x.state(9), 7);
    }

    private static void appendUpTo250() {
        LogServer x = new LogServer(0, 7, 0L);
        for (int p = 0; p < 246; p += 6) {
            tell(x, 6, 1);
            x.append(1, 1, p, p == 0 ? 0 : 1, 0, 0);
            x.sync();
        }
        Check.due("246", x.state(8), 246);
        tell(x, 6, 1);
        x.append(1, 1, 246, 1, 1000, 3);
        x.sync();
        Check.due("four of six", x.state(8), 250);
        Check.dueLetter("as if the others were not", x, 0, 1, 6, 1, 1, 250, 3);
        Check.due("nor are they committed", x.state(4), 250);
        tell(x, 2, 1);
        x.append(1, 1, 250, 1, 0, 4);
        Check.dueLetter("none of two", x, 0, 1, 6, 1, 1, 250, 4);
        x.compact(1);
        tell(x, 6, 1);
        x.append(1, 1, 250, 1, 0, 5);
        Check.due("there is room behind a new BASE", x.state(8), 256);
    }

    private static void tell(LogServer x, int count, int term) {
        for (int k = 0; k < count; k++) {
            x.entry(term, 2, k);
        }
    }
}
