/** Promises 10, 11, 12 and 20: snapshots that come, that are sent, that are made. */
public final class SnapshotTest {
    private SnapshotTest() {
    }

    public static void main(String[] args) {
        describeIsChecked();
        pieceIsChecked();
        pieceForgetsTheDescription();
        piecesMakeASnapshot();
        piecesInAnotherOrder();
        pieceBelowCommit();
        pieceAndTerms();
        pieceKeepsWhatFits();
        pieceCutsWhatDoesNot();
        pieceWithoutBytes();
        snapshotIsSent();
        storedIsHeard();
        storedIsChecked();
        compactDrops();
        compactKnowsTheMembers();
        compactRefuses();
        compactOfALeader();
        Check.end("SnapshotTest");
    }

    private static void describeIsChecked() {
        LogServer x = new LogServer(0, 7, 0L);
        int[] bad = {-1, 1000001, Integer.MAX_VALUE, Integer.MIN_VALUE};
        for (int n : bad) {
            Check.illegal("base", () -> x.describe(n, 1, 7, 1));
            Check.illegal("term", () -> x.describe(1, n, 7, 1));
            Check.illegal("size", () -> x.describe(1, 1, 7, n));
        }
        Check.illegal("base 0", () -> x.describe(0, 1, 7, 1));
        Check.illegal("size 0", () -> x.describe(1, 1, 7, 0));
        int[] noCodes = {0, -1, 128, 1 + 16384, 1 << 21, Integer.MAX_VALUE};
        for (int code : noCodes) {
            Check.illegal("code", () -> x.describe(1, 1, code, 1));
        }
        Check.illegal("none of these was described", () -> x.piece(1, 5, 0, 1, 0));
        x.describe(3, 1, 7, 1);
        Check.illegal("a wrong one", () -> x.describe(4, 1, 0, 1));
        x.piece(1, 1, 0, 1, 0);
        Check.due("does not take away the one before", x.state(7), 3);
        LogServer y = new LogServer(0, 7, 0L);
        y.describe(5, 1, 7, 1);
        y.describe(1000000, 1000000, 127, 1000000);
        y.piece(1, 1000000, 0, 200, 1000000);
        y.sync();
        Check.dueLetter("the later one counts", y, 0, 1, 8, 1000000, 1000000, 200, 1000000);
    }

    private static void pieceIsChecked() {
        LogServer x = new LogServer(2, 7, 0L);
        int[] senders = {-1, 2, 7, Integer.MAX_VALUE, Integer.MIN_VALUE};
        for (int s : senders) {
            Check.outOfBounds("none described, from " + s, () -> x.piece(s, -1, 0, 0, 0));
        }
        Check.illegal("none described", () -> x.piece(1, 1, 0, 0, 0));
        LogServer young = new LogServer(2, 7, 0L);
        Check.illegal("none described at first", () -> young.piece(1, 1, 0, 0, 0));
        int[] bad = {-1, 1000001, Integer.MAX_VALUE, Integer.MIN_VALUE};
        for (int n : bad) {
            refused(x, "term", n, 0, 1, 0);
            refused(x, "at", 9, n, 1, 0);
            refused(x, "bytes", 9, 0, n, 0);
            refused(x, "round", 9, 0, 1, n);
        }
        refused(x, "201 bytes", 9, 0, 201, 0);
        refused(x, "beyond the size", 9, 301, 200, 0);
        refused(x, "begins beyond the size", 9, 501, 0, 0);
        refused(x, "a term below the snapshot's", 2, 0, 1, 0);
        Check.due("nothing happened", x.state(1) + x.state(16) + x.state(17), 0);
        x.describe(5, 3, 7, 500);
        x.piece(1, 3, 300, 200, 0);
        x.describe(5, 3, 7, 500);
        x.piece(1, 3, 500, 0, 0);
        Check.due("up to the size", x.sync(), 2);
    }

    private static void refused(LogServer x, String what, int term, int at, int bytes, int round) {
        x.describe(5, 3, 7, 500);
        Check.illegal(what, () -> x.piece(1, term, at, bytes, round));
    }

    private static void pieceForgetsTheDescription() {
        LogServer x = new LogServer(0, 7, 0L);
        x.describe(5, 1, 7, 100);
        x.piece(1, 1, 0, 10, 0);
        Check.illegal("used", () -> x.piece(1, 1, 10, 10, 0));
        x.describe(5, 1, 7, 100);
        Check.outOfBounds("from itself", () -> x.piece(0, 1, 10, 10, 0));
        Check.illegal("gone though it threw", () -> x.piece(1, 1, 10, 10, 0));
        x.describe(5, 1, 7, 100);
        Check.illegal("too many bytes", () -> x.piece(1, 1, 10, 201, 0));
        Check.illegal("gone though it threw", () -> x.piece(1, 1, 10, 10, 0));
        x.describe(5, 0, 7, 100);
        x.piece(1, 0, 10, 10, 0);
        Check.illegal("gone though its term was low", () -> x.piece(1, 1, 10, 10, 0));
    }

    private static void piecesMakeASnapshot() {
        LogServer x = Make.withLog(0, 7, 1, 1);
        comes(x, 10, 2, 31, 450, 3, 0, 200);
        Check.due("term", x.state(1), 3);
        Check.due("leader", x.state(3), 1);
        Check.due("not yet", x.state(7), 0);
        x.sync();
        Check.dueLetter("first", x, 0, 1, 8, 3, 10, 200, 0);
        comes(x, 10, 2, 31, 450, 3, 200, 200);
        Check.due("an assembly is not on disk", x.state(14), 0);
        Check.dueLetter("second", x, 0, 1, 8, 3, 10, 400, 200);
        comes(x, 10, 2, 31, 450, 3, 400, 50);
        Check.due("a write", x.state(14), 1);
        Check.due("the answer waits", x.state(17), 1);
        int[] what = {4, 5, 7, 8, 9, 6};
        int[] want = {10, 10, 10, 10, 31, 2};
        for (int k = 0; k < what.length; k++) {
            Check.due("state(" + what[k] + ")", x.state(what[k]), want[k]);
        }
        Check.due("its term", x.log(10, 0), 2);
        Check.outOfBounds("the log is empty", () -> x.log(2, 0));
        Check.due("nothing is done by it", x.state(18), 0);
        x.sync();
        Check.dueLetter("third", x, 0, 1, 8, 3, 10, 450, 400);
        Check.due("SYNCED", x.state(6), 10);
    }

    private static void piecesInAnotherOrder() {
        LogServer x = new LogServer(0, 7, 0L);
        comes(x, 10, 1, 7, 300, 1, 100, 50);
        x.sync();
        Check.dueLetter("there is none", x, 0, 1, 8, 1, 10, 0, 100);
        comes(x, 10, 1, 7, 300, 1, 0, 100);
        comes(x, 10, 1, 7, 300, 1, 150, 50);
        Check.dueLetter("a gap", x, 0, 1, 8, 1, 10, 100, 150);
        comes(x, 12, 1, 7, 300, 1, 100, 50);
        Check.dueLetter("another base", x, 0, 1, 8, 1, 12, 0, 100);
        comes(x, 10, 1, 7, 300, 1, 100, 50);
        Check.dueLetter("the first goes on", x, 0, 1, 8, 1, 10, 150, 100);
        comes(x, 10, 1, 7, 300, 1, 0, 20);
        Check.dueLetter("begins anew", x, 0, 1, 8, 1, 10, 20, 0);
        comes(x, 12, 1, 7, 300, 1, 0, 30);
        comes(x, 10, 1, 7, 300, 1, 20, 30);
        Check.dueLetter("there is one assembly alone", x, 0, 1, 8, 1, 10, 0, 20);
        comes(x, 12, 1, 7, 40, 1, 30, 10);
        Check.due("the size told now counts", x.state(7), 12);
        x.sync();
        comes(x, 13, 1, 7, 50, 1, 40, 10);
        Check.dueLetter("no assembly is left", x, 0, 1, 8, 1, 13, 0, 40);
    }

    private static void pieceBelowCommit() {
        LogServer x = Make.withLog(0, 7, 1, 1, 1);
        x.append(1, 1, 3, 1, 2, 0);
        comes(x, 2, 1, 7, 300, 1, 0, 10);
        Check.dueLetter("all of the size", x, 0, 1, 8, 1, 2, 300, 0);
        Check.due("BASE stays", x.state(7), 0);
        comes(x, 3, 1, 7, 10, 1, 0, 10);
        Check.due("one above COMMIT", x.state(7), 3);
    }

    private static void pieceAndTerms() {
        LogServer x = Make.withLog(0, 7, 4);
        int alarm = x.state(12);
        comes(x, 9, 1, 7, 10, 3, 0, 10);
        Check.dueLetter("a term below", x, 0, 1, 8, 4, 9, 0, 0);
        Check.due("the alarm stays", x.state(12), alarm);
        Check.due("so does BASE", x.state(7), 0);
        LogServer leads = Make.leader(0, 7, 1);
        int went = leads.state(16);
        comes(leads, 9, 1, 7, 10, 1, 0, 10);
        Check.due("a leader does nothing", leads.state(16) + leads.state(17), went);
        comes(leads, 9, 1, 7, 10, 2, 0, 10);
        Check.due("but for a higher term", leads.state(7), 9);
        Check.due("it follows", leads.state(0), 0);
        LogServer heard = new LogServer(0, 7, 0L);
        comes(heard, 9, 0, 7, 10, 0, 0, 5);
        heard.preask(2, 7, 99, 9);
        Check.due("a leader was heard", heard.letter(0, 3), 0);
    }

    private static void pieceKeepsWhatFits() {
        LogServer x = Make.withLog(0, 7, 1, 1, 2, 2);
        comes(x, 3, 2, 3, 10, 2, 0, 10);
        Check.due("LAST", x.state(8), 4);
        Check.due("BASE", x.state(7), 3);
        Check.dueEntry("behind it", x, 4, 2, 2, 103);
        Check.due("SYNCED", x.state(6), 4);
        Check.due("members", x.state(9), 3);
        LogServer y = Make.withMembers(0, 15);
        y.entry(1, 1, 31);
        y.append(1, 1, 1, 1, 0, 0);
        comes(y, 1, 1, 3, 10, 1, 0, 10);
        Check.due("members of an entry that stays", y.state(9), 31);
    }

    private static void pieceCutsWhatDoesNot() {
        LogServer x = Make.withLog(0, 7, 1, 1, 2, 2);
        comes(x, 3, 1, 3, 10, 2, 0, 10);
        Check.due("LAST", x.state(8), 3);
        Check.due("SYNCED fell", x.state(6), 3);
        Check.due("the term", x.log(3, 0), 1);
        LogServer y = Make.withMembers(0, 15);
        comes(y, 1, 0, 3, 10, 1, 0, 10);
        Check.due("members of an entry that is gone", y.state(9), 3);
    }

    private static void pieceWithoutBytes() {
        LogServer x = new LogServer(0, 7, 0L);
        comes(x, 10, 1, 7, 10, 1, 0, 0);
        x.sync();
        Check.dueLetter("nothing yet", x, 0, 1, 8, 1, 10, 0, 0);
        comes(x, 10, 1, 7, 10, 1, 0, 10);
        Check.due("all", x.state(7), 10);
    }

    private static void snapshotIsSent() {
        LogServer x = leaderWithSnapshot(450);
        x.appended(1, 1, false, 1, 1);
        Check.due("NEXT", x.peer(1, 0), 1);
        Check.dueLetter("a piece", x, 0, 1, 7, 1, 3, 1, 7, 450, 0, 200, 1);
        Check.due("FLYING", x.peer(1, 2), 1);
        int went = x.state(16);
        x.command(1);
        x.sync();
        Check.due("only the other peer gets the command", x.state(16) - went, 1);
        x.stored(1, 1, 3, 200, 1);
        Check.dueLetter("the next", x, 0, 1, 7, 1, 3, 1, 7, 450, 200, 200, 1);
        Check.due("OFFSET", x.peer(1, 4), 200);
        x.stored(1, 1, 3, 400, 1);
        Check.dueLetter("what is left", x, 0, 1, 7, 1, 3, 1, 7, 450, 400, 50, 1);
        x.stored(1, 1, 3, 450, 1);
        Check.due("MATCH", x.peer(1, 1), 3);
        Check.due("OFFSET", x.peer(1, 4), 0);
        Check.due("PROBING", x.peer(1, 3), 1);
        Check.due("NEXT behind what was sent then", x.peer(1, 0), 5);
        Check.due("entries again", x.letter(0, 1), 5);
        Check.due("from behind the snapshot", x.letter(0, 3), 3);
        Check.due("of its term", x.letter(0, 4), 1);
    }

    private static void storedIsHeard() {
        LogServer x = leaderWithSnapshot(450);
        x.appended(1, 1, false, 1, 1);
        x.tick(10);
        int now = x.state(13);
        x.stored(1, 1, 3, 200, 2);
        Check.due("SEEN", x.peer(1, 6), now);
        Check.due("ACK", x.peer(1, 5), 2);
        x.stored(1, 1, 3, 300, 1);
        Check.due("ACK does not fall", x.peer(1, 5), 2);
        Check.due("any offset", x.peer(1, 4), 300);
        x.stored(1, 1, 2, 300, 1);
        Check.due("another base", x.peer(1, 4), 0);
        Check.due("begins again", x.letter(0, 7), 0);
        x.stored(1, 1, 3, 1000, 1);
        Check.due("more than the size is all of it", x.peer(1, 1), 3);
        x.stored(5, 1, 3, 450, 9);
        Check.due("not of one who is no peer", x.peer(5, 5), 0);
        x.stored(2, 0, 3, 450, 9);
        Check.due("nor with another term", x.peer(2, 5), 1);
        x.stored(2, 1, 3, 450, 9);
        Check.due("MATCH stays at least what it was", x.peer(2, 1), 3);
        Check.due("PROBING", x.peer(2, 3), 1);
        x.stored(2, 2, 3, 450, 9);
        Check.due("a higher term", x.state(0), 0);
        x.stored(2, 2, 3, 450, 9);
        Check.due("who follows does nothing", x.state(1), 2);

        LogServer y = Make.leader(0, 7, 1);
        y.appended(1, 1, true, 1, 1);
        y.command(1);
        y.command(2);
        y.sync();
        y.appended(1, 1, true, 3, 1);
        y.read();
        y.tick(10);
        y.stored(1, 1, 5, 0, 2);
        Check.due("a read is answered by it", y.call(2), 1);
        y.stored(1, 1, 0, 0, 2);
        Check.due("BASE 0 has no bytes: that is all of it", y.peer(1, 3), 1);
        Check.due("so it begins behind it", y.letter(0, 0), 1);
        Check.due("so it begins behind it", y.letter(0, 3), 0);
        Check.due("MATCH stays", y.peer(1, 1), 3);
    }

    private static void storedIsChecked() {
        LogServer x = new LogServer(2, 7, 0L);
        int[] senders = {-1, 2, 7, Integer.MAX_VALUE, Integer.MIN_VALUE};
        for (int s : senders) {
            Check.outOfBounds("from " + s, () -> x.stored(s, -1, 0, 0, 0));
        }
        int[] bad = {-1, 1000001, Integer.MAX_VALUE, Integer.MIN_VALUE};
        for (int n : bad) {
            Check.illegal("term", () -> x.stored(1, n, 0, 0, 0));
            Check.illegal("base", () -> x.stored(1, 1, n, 0, 0));
            Check.illegal("bytes", () -> x.stored(1, 1, 0, n, 0));
            Check.illegal("round", () -> x.stored(1, 1, 0, 0, n));
        }
        Check.due("nothing happened", x.state(1), 0);
        x.stored(1, 1000000, 1000000, 1000000, 1000000);
        Check.due("the greatest", x.state(1), 1000000);
    }

    private static void compactDrops() {
        LogServer kinds = new LogServer(0, 7, 0L);
        kinds.entry(1, 2, 5);
        kinds.entry(2, 0, 6);
        kinds.entry(3, 1, 7);
        kinds.entry(4, 2, 8);
        kinds.append(1, 4, 0, 0, 1, 0);
        kinds.compact(1);
        Check.dueEntry("the entries stay as they are", kinds, 2, 2, 0, 6);
        Check.dueEntry("the entries stay as they are", kinds, 3, 3, 1, 7);
        Check.dueEntry("the entries stay as they are", kinds, 4, 4, 2, 8);
        LogServer x = Make.withLog(0, 7, 1, 1, 2, 2);
        x.append(1, 2, 4, 2, 3, 0);
        Check.due("made", x.compact(1000000), true);
        Check.due("a write", x.state(14), 1);
        Check.due("BASE", x.state(7), 3);
        Check.due("LAST", x.state(8), 4);
        Check.due("its term", x.log(3, 0), 2);
        Check.dueEntry("what is behind", x, 4, 2, 2, 103);
        Check.outOfBounds("what was before", () -> x.log(2, 0));
        Check.outOfBounds("of BASE the term alone", () -> x.log(3, 1));
        Check.due("COMMIT", x.state(4), 3);
        Check.due("APPLIED", x.state(5), 3);
    }

    private static void compactKnowsTheMembers() {
        LogServer x = new LogServer(0, 7, 0L);
        x.entry(1, 1, 3);
        x.entry(1, 2, 9);
        x.entry(1, 1, 15);
        x.append(1, 1, 0, 0, 2, 0);
        x.compact(5);
        Check.due("those of the log behind it", x.state(9), 15);
        x.entry(2, 2, 1);
        x.append(1, 2, 2, 1, 0, 0);
        Check.due("cut: those of the snapshot, as they were there", x.state(9), 3);
        x.append(1, 2, 3, 2, 3, 0);
        x.compact(5);
        Check.due("those of the snapshot before", x.state(9), 3);
    }

    private static void compactRefuses() {
        LogServer x = Make.withLog(0, 7, 1, 1);
        Check.due("nothing is applied", x.compact(5), false);
        x.append(1, 1, 2, 1, 1, 0);
        int[] bad = {0, -1, 1000001, Integer.MAX_VALUE, Integer.MIN_VALUE};
        for (int size : bad) {
            Check.due("size " + size, x.compact(size), false);
        }
        Check.due("nothing is done", x.state(14) + x.state(7), 0);
        Check.due("one byte", x.compact(1), true);
        Check.due("not twice", x.compact(1), false);
    }

    private static void compactOfALeader() {
        LogServer x = leaderWithSnapshot(450);
        x.appended(1, 1, false, 1, 1);
        x.stored(1, 1, 3, 200, 1);
        Check.due("OFFSET", x.peer(1, 4), 200);
        x.command(8);
        x.sync();
        x.appended(2, 1, true, 4, 1);
        Check.due("COMMIT", x.state(4), 4);
        Check.due("again", x.compact(77), true);
        Check.due("OFFSET is 0", x.peer(1, 4), 0);
        Check.due("FLYING stays", x.peer(1, 2), 1);
        x.sync();
        x.stored(1, 1, 3, 400, 1);
        Check.dueLetter("the new one is sent", x, 0, 1, 7, 1, 4, 1, 7, 77, 0, 77, 1);
        LogServer y = Make.leader(1, 7, 2);
        y.appended(2, 1, true, 1, 1);
        y.compact(300);
        y.sync();
        y.appended(0, 1, false, 1, 1);
        Check.due("NEXT is BASE: a piece", y.letter(0, 1), 7);
        y.stored(0, 1, 1, 200, 1);
        y.command(5);
        y.sync();
        y.appended(2, 1, true, 2, 1);
        y.compact(300);
        Check.due("OFFSET of server 0", y.peer(0, 4), 0);
    }

    /** A piece from server 1, whose round is where it begins. */
    private static void comes(LogServer x, int base, int baseTerm, int code, int size, int term, int at, int bytes) {
        x.describe(base, baseTerm, code, size);
        x.piece(1, term, at, bytes, at);
    }

    /** Server 0 leads 0, 1, 2 in term 1; BASE and LAST are 3; 2 has all. */
    private static LogServer leaderWithSnapshot(int size) {
        LogServer x = Make.leader(0, 7, 1);
        x.appended(2, 1, true, 1, 1);
        x.command(1);
        x.command(2);
        x.sync();
        x.appended(2, 1, true, 2, 1);
        x.appended(2, 1, true, 3, 1);
        x.compact(size);
        x.sync();
        return x;
    }
}
