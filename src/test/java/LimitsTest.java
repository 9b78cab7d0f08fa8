/** The limits that the document names: letters that wait, the length of the log, 200 for callers, 300 in all. */
public final class LimitsTest {
    private LimitsTest() {
    }

    public static void main(String[] args) {
        letters201();
        callersUpTo200();
        leadsUpTo300();
        countsUpTo300();
        fullLogBehindABase();
        Check.end("LimitsTest");
    }

    private static void letters201() {
        LogServer x = new LogServer(0, 7, 0L);
        x.ask(1, 1, 0, 0);
        for (int k = 0; k < 210; k++) {
            x.preask(1, 100 + k, 0, 0);
        }
        Check.due("wait", x.state(17), 200);
        Check.due("go", x.sync(), 200);
        Check.due("went", x.state(16), 200);
        Check.dueLetter("the 200th", x, 0, 1, 2, 298, 1);
        x.preask(1, 7, 0, 0);
        Check.due("those behind are lost", x.state(16), 201);
        Check.due("nothing waits", x.sync(), 0);
    }

    private static void callersUpTo200() {
        LogServer x = follower(198);
        leadAlone(x);
        Check.due("LAST", x.state(8), 199);
        Check.due("the 200th", x.command(1), 0);
        Check.due("no more", x.command(1), -1);
        x.sync();
        Check.due("committed", x.state(4), 200);
        Check.due("no members", x.members(1), false);
        Check.due("no learners", x.learners(2), false);
        Check.due("reads are no entries", x.read(), 1);
        x.compact(1);
        Check.due("behind a new BASE", x.command(1), 2);
        LogServer y = follower(198);
        leadAlone(y);
        y.sync();
        Check.due("members at 199", y.members(1), true);
        LogServer z = follower(198);
        leadAlone(z);
        z.sync();
        Check.due("learners at 199", z.learners(2), true);
    }

    private static void leadsUpTo300() {
        LogServer x = follower(250);
        for (int k = 0; k < 49; k++) {
            leadAlone(x);
            x.answer(1, x.state(1) + 1, false);
        }
        Check.due("299", x.state(8), 299);
        leadAlone(x);
        Check.due("leads with 299", x.state(0), 3);
        Check.due("300", x.state(8), 300);
        x.answer(1, x.state(1) + 1, false);
        int term = x.state(1);
        x.tick(200);
        Check.due("stands", x.state(0), 2);
        int alarm = x.state(12);
        x.sync();
        Check.due("does not lead with 300", x.state(0), 0);
        Check.due("no leader", x.state(3), -1);
        Check.due("in the term in which it stood", x.state(1), term + 1);
        Check.due("its vote stays", x.state(2), 0);
        Check.due("nothing is written", x.state(8), 300);
        Check.due("nor dirty", x.state(14), 0);
        Check.due("nor is the alarm drawn", x.state(12), alarm);
        x.entry(term, 2, 1);
        x.append(1, term + 1, 280, x.log(280, 0), 0, 0);
        Check.due("entries beyond 250 are not told", x.state(8), 300);
        Check.dueLetter("m is the number before", x, 0, 1, 6, term + 1, 1, 280, 0);
    }

    private static void countsUpTo300() {
        LogServer x = follower(249);
        x.entry(1, 1, 1 + 128);
        x.append(1, 1, 249, 1, 250, 0);
        x.sync();
        Check.due("joint and committed", x.state(4), 250);
        for (int k = 0; k < 49; k++) {
            leadAlone(x);
            x.answer(1, x.state(1) + 1, false);
        }
        leadAlone(x);
        Check.due("leads", x.state(0), 3);
        Check.due("300", x.state(8), 300);
        x.sync();
        Check.due("leads on", x.state(0), 3);
        Check.due("what it would write is not written", x.state(8), 300);
        Check.due("committed", x.state(4), 300);
        Check.due("joint still", x.state(9), 1 + 128);
        x.compact(9);
        x.sync();
        Check.due("when there is room it is", x.state(9), 1);
        Check.due("behind the new BASE", x.state(8), 301);
    }

    private static void fullLogBehindABase() {
        LogServer x = new LogServer(0, 1, 0L);
        x.describe(1000000, 1, 1, 1);
        x.piece(1, 1, 0, 1, 0);
        for (int k = 0; k < 6; k++) {
            x.entry(1, 2, k);
        }
        x.append(1, 1, 1000000, 1, 1000000, 0);
        Check.due("entries beyond 1000000", x.state(8), 1000006);
        x.sync();
        leadAlone(x);
        Check.due("and its own", x.state(8), 1000007);
        x.sync();
        Check.due("committed", x.state(4), 1000007);
        Check.due("done", x.done(0, 0), 1000006);
        LogServer low = new LogServer(0, 1, 0L);
        low.describe(999999, 1, 1, 1);
        low.piece(1, 1, 0, 1, 0);
        low.append(1, 1, 3, 0, 9, 0);
        low.sync();
        Check.dueLetter("far below BASE", low, 0, 1, 6, 1, 1, 999999, 0);
    }

    /** Server 0, which is the one voter, follows 1 in term 1 with a log so long. */
    private static LogServer follower(int length) {
        LogServer x = new LogServer(0, 1, 0L);
        int p = 0;
        while (p < length) {
            int n = Math.min(6, length - p);
            for (int k = 0; k < n; k++) {
                x.entry(1, 2, k);
            }
            x.append(1, 1, p, p == 0 ? 0 : 1, 0, 0);
            p += n;
        }
        x.sync();
        Check.due("so long", x.state(8), length);
        return x;
    }

    private static void leadAlone(LogServer x) {
        x.tick(200);
        x.sync();
        Check.due("leads", x.state(0), 3);
    }
}
