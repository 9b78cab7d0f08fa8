/** Servers in the states that the tests begin with. */
final class Make {
    private Make() {
    }

    /** A follower of server 1 (of 0, if it is 1 itself) in the last of these terms, whose log has these terms. */
    static LogServer withLog(int itself, int first, int... terms) {
        LogServer x = new LogServer(itself, first, 0L);
        int from = itself == 1 ? 0 : 1;
        int greatest = terms[terms.length - 1];
        for (int k = 0; k < terms.length; k++) {
            x.entry(terms[k], 2, 100 + k);
            x.append(from, greatest, k, k == 0 ? 0 : terms[k - 1], 0, 0);
        }
        x.sync();
        return x;
    }

    /** A follower in term 1 with one entry, which tells these members, not committed. */
    static LogServer withMembers(int itself, int code) {
        LogServer x = new LogServer(itself, 1 << itself, 0L);
        x.entry(1, 1, code);
        x.append(itself == 6 ? 5 : 6, 1, 0, 0, 0, 0);
        x.sync();
        return x;
    }

    /** A leader in term 1 at NOW 0, synced: entry 1, the EMPTY one, lies on its disk and went to the peers. */
    static LogServer leader(int itself, int first, int... voters) {
        LogServer x = new LogServer(itself, first, 0L);
        x.go(itself == 0 ? 1 : 0, 0);
        for (int v : voters) {
            x.answer(v, 1, true);
        }
        x.sync();
        if (x.state(14) == 1) {
            x.sync();
        }
        return x;
    }

    /** A follower of server 1 (of 0, if it is 1 itself) in the snapshot's term, with nothing behind the snapshot. */
    static LogServer withSnapshot(int itself, int base, int baseTerm, int code, int size) {
        LogServer x = new LogServer(itself, 1 << itself, 0L);
        for (int at = 0; at < size; at += 200) {
            x.describe(base, baseTerm, code, size);
            x.piece(itself == 1 ? 0 : 1, baseTerm, at, Math.min(200, size - at), 0);
        }
        x.sync();
        return x;
    }

    /** So many entries of this term are told, COMMANDs with values from 1 on. */
    static void tell(LogServer x, int count, int term) {
        for (int k = 1; k <= count; k++) {
            x.entry(term, 2, k);
        }
    }

    /** A follower of server 1 (not itself) in term 1, not dirty, whose log has so many COMMANDs of term 1. */
    static LogServer follower(int itself, int first, int length) {
        LogServer x = new LogServer(itself, first, 0L);
        for (int p = 0; p < length; p += 6) {
            tell(x, Math.min(6, length - p), 1);
            x.append(1, 1, p, p == 0 ? 0 : 1, 0, 0);
        }
        x.sync();
        return x;
    }

    /** Server 0, the one voter, follows, not dirty; its log has so many entries (250 .. 300), the last of its own. */
    static LogServer grown(int length) {
        return grownFrom(follower(0, 1, 250), length);
    }

    /** Server 0 leads with a log so long, the last not on its disk; OLD and NEW, both itself, are committed. */
    static LogServer grownJoint(int length) {
        LogServer x = follower(0, 1, 249);
        x.entry(1, 1, 129);
        x.append(1, 1, 249, 1, 250, 0);
        x.sync();
        grownFrom(x, length - 1);
        x.tick(200);
        x.sync();
        return x;
    }

    private static LogServer grownFrom(LogServer x, int length) {
        for (int n = x.state(8); n < length; n++) {
            x.tick(200);
            x.sync();
            x.answer(1, x.state(1) + 1, false);
            x.sync();
        }
        return x;
    }
}
