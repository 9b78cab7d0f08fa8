/** Servers in the states that the tests begin with. */
final class Make {
    private Make() {
    }

    /** A follower of server 1 (of 0, if it is 1 itself) in the last of these terms, whose log has these terms. */
    static LogServer withLog(int itself, int first, int... terms) {
        LogServer x = new LogServer(itself, first, 0L);
        int from = itself == 1 ? 0 : 1;
        int greatest = terms[terms.length - 1];
        for (int k = 0; k < terms.length; k++) {
            x.entry(terms[k], 2, 100 + k);
            x.append(from, greatest, k, k == 0 ? 0 : terms[k - 1], 0, 0);
        }
        x.sync();
        return x;
    }

    /** A follower in term 1 with one entry, which tells these members, not committed. */
    static LogServer withMembers(int itself, int code) {
        LogServer x = new LogServer(itself, 1 << itself, 0L);
        x.entry(1, 1, code);
        x.append(itself == 6 ? 5 : 6, 1, 0, 0, 0, 0);
        x.sync();
        return x;
    }

    /** A leader in term 1 at NOW 0, synced: entry 1, the EMPTY one, lies on its disk and went to the peers. */
    static LogServer leader(int itself, int first, int... voters) {
        LogServer x = new LogServer(itself, first, 0L);
        x.go(itself == 0 ? 1 : 0, 0);
        for (int v : voters) {
            x.answer(v, 1, true);
        }
        x.sync();
        if (x.state(14) == 1) {
            x.sync();
        }
        return x;
    }
}
