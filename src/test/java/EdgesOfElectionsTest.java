/** The boundary cases of promises 1 to 6 and 13, each sentence by itself. */
public final class EdgesOfElectionsTest {
    private static final int MOST = 1000000;

    private EdgesOfElectionsTest() {
    }

    public static void main(String[] args) {
        promise1Itself();
        promise1First();
        promise1Row();
        promise1NothingYet();
        promise2LeastAndMost();
        promise2TheAlarm();
        promise2TheBeat();
        promise2SeenJust100Ago();
        promise2StepsDown();
        promise2NoVoter();
        promise2AsksNoneOneSix();
        promise2RingsInEachRole();
        promise3Senders();
        promise3Numbers();
        promise3Term();
        promise3AsNew();
        promise3AsNewAsASnapshot();
        promise3Heard();
        promise3Roles();
        promise4Term();
        promise4Refusals();
        promise4Roles();
        promise5Term();
        promise5Voted();
        promise5AsNew();
        promise5Write();
        promise5Roles();
        promise6Term();
        promise6Roles();
        promise6TheSameVoteTwice();
        promise13Term();
        promise13Roles();
        promise13Voters();
        termsBeyondTheGreatest();
        Check.end("EdgesOfElectionsTest");
    }

    private static void promise1Itself() {
        int[] given = {0, 1, 5, 6, 7, 8, 14, 15, 16, -1, -2, -8, Integer.MAX_VALUE, Integer.MIN_VALUE};
        int[] itself = {0, 1, 5, 6, 6, 0, 6, 6, 0, 6, 6, 0, 6, 0};
        for (int k = 0; k < given.length; k++) {
            for (int s = 0; s < 7; s++) {
                LogServer x = new LogServer(given[k], 127, 0L);
                int from = s;
                if (s == itself[k]) {
                    Check.outOfBounds("server " + given[k] + " is itself", () -> x.go(from, 0));
                } else {
                    x.go(s, 0);
                    Check.due("server " + given[k] + " votes for itself", x.state(2), itself[k]);
                }
            }
        }
    }

    private static void promise1First() {
        int[] given = {0, 1, 2, 64, 126, 127, 128, 129, 255, 256, -1, -128, Integer.MAX_VALUE, Integer.MIN_VALUE};
        int[] old = {1, 1, 2, 64, 126, 127, 1, 1, 127, 1, 127, 1, 127, 1};
        for (int k = 0; k < given.length; k++) {
            Check.due("first " + given[k], new LogServer(0, given[k], 0L).state(9), old[k]);
        }
    }

    /** The alarm is 50 to 99 after NOW; ROW wraps. */
    private static void promise1Row() {
        boolean[] met = new boolean[100];
        for (long row = 0; row < 1000; row++) {
            LogServer x = new LogServer(0, 7, row);
            int want = 50 + (int) ((drawn(row) >>> 33) % 50);
            Check.due("alarm of row " + row, x.state(12), want);
            met[want] = true;
        }
        Check.due("the least alarm was among them", met[50], true);
        Check.due("the greatest too", met[99], true);
        long[] rows = {Long.MIN_VALUE, Long.MAX_VALUE, -1L, 0L};
        for (long row : rows) {
            LogServer x = new LogServer(0, 126, row);
            long now = drawn(row);
            Check.due("alarm of row " + row, x.state(12), 50 + (now >>> 33) % 50);
            for (int k = 1; k <= 20; k++) {
                x.tick(100);
                now = drawn(now);
                Check.due("drawn again from row " + row, x.state(12), 100 * k + 50 + (now >>> 33) % 50);
            }
        }
    }

    private static long drawn(long row) {
        return row * 6364136223846793005L + 1442695040888963407L;
    }

    private static void promise1NothingYet() {
        LogServer x = new LogServer(0, 7, 0L);
        Check.outOfBounds("no letter", () -> x.letter(0, 0));
        Check.outOfBounds("nothing done", () -> x.done(0, 0));
        Check.outOfBounds("no call", () -> x.call(0));
        Check.outOfBounds("no call", () -> x.callFor(0));
        Check.outOfBounds("no entry", () -> x.log(1, 0));
        Check.outOfBounds("no peer", () -> x.peer(1, 0));
        Check.due("BASE has term 0", x.log(0, 0), 0);
        x.preask(1, 1, 0, 0);
        Check.due("not dirty: a letter goes at once", x.state(16), 1);
        Check.due("none waits", x.state(17), 0);
        Check.due("nor is there any to sync", new LogServer(0, 7, 0L).sync(), 0);
    }

    private static void promise2LeastAndMost() {
        LogServer x = new LogServer(0, 7, 0L);
        Check.illegal("0", () -> x.tick(0));
        Check.due("1", x.tick(1), false);
        Check.due("NOW", x.state(13), 1);
        Check.illegal("1001", () -> x.tick(1001));
        Check.due("NOW stays", x.state(13), 1);
        Check.due("1000", x.tick(1000), true);
        Check.due("NOW", x.state(13), 1001);
        for (int k = 0; k < 500; k++) {
            x.tick(1000);
        }
        Check.due("as late as it gets", x.state(13), 501001);
        LogServer late = new LogServer(0, 7, 0L);
        late.tick(56);
        Check.illegal("a refused tick", () -> late.tick(0));
        Check.due("does not ring", late.state(0), 0);
    }

    private static void promise2TheAlarm() {
        LogServer before = new LogServer(0, 7, 0L);
        Check.due("alarm", before.state(12), 57);
        Check.due("one before", before.tick(56), false);
        Check.due("follows", before.state(0), 0);
        LogServer at = new LogServer(0, 7, 0L);
        Check.due("at", at.tick(57), true);
        Check.due("asks", at.state(0), 1);
        LogServer behind = new LogServer(0, 7, 0L);
        Check.due("one behind", behind.tick(58), true);
        Check.due("asks", behind.state(0), 1);
    }

    private static void promise2TheBeat() {
        LogServer x = Make.leader(0, 7, 1);
        Check.due("9 after the last beat", x.tick(9), false);
        Check.due("ROUND", x.state(15), 1);
        Check.due("10 after", x.tick(1), true);
        Check.due("ROUND", x.state(15), 2);
        Check.due("the next alarm", x.state(12), 20);
        Check.due("a long tick", x.tick(35), true);
        Check.due("is one beat", x.state(15), 3);
        Check.due("the alarm is 10 after NOW", x.state(12), 55);
    }

    private static void promise2SeenJust100Ago() {
        LogServer at = Make.leader(0, 7, 1);
        Check.due("rings", at.tick(100), true);
        Check.due("SEEN is NOW - 100", at.state(0), 3);
        LogServer below = Make.leader(0, 7, 1);
        Check.due("rings", below.tick(101), true);
        Check.due("SEEN is NOW - 101", below.state(0), 0);
        LogServer one = Make.leader(0, 7, 1);
        one.tick(60);
        one.appended(2, 1, true, 0, 1);
        one.tick(100);
        Check.due("one other is seen 100 ago", one.state(0), 3);
        one.appended(1, 1, true, 0, 1);
        one.tick(101);
        Check.due("101 ago", one.state(0), 0);
        LogServer alone = Make.leader(0, 1);
        alone.tick(1000);
        Check.due("one alone sees itself, however long ago the last beat is", alone.state(0), 3);
        LogServer unseen = Make.leader(0, 7, 1);
        unseen.tick(9);
        unseen.tick(1);
        unseen.tick(85);
        Check.due("it is looked at only when the alarm rings", unseen.state(0), 3);
        unseen.tick(9);
        Check.due("104 ago, but it does not ring", unseen.state(0), 3);
        Check.due("it does", unseen.tick(1), true);
        Check.due("105 ago", unseen.state(0), 0);
    }

    private static void promise2StepsDown() {
        LogServer x = Make.leader(0, 7, 1);
        int command = x.command(1);
        int read = x.read();
        x.sync();
        x.hand(1);
        int went = x.state(16);
        int alarm = x.state(12);
        x.tick(101);
        Check.due("TERM stays", x.state(1), 1);
        Check.due("VOTED stays", x.state(2), 0);
        Check.due("LEADER", x.state(3), -1);
        Check.due("HANDING", x.state(11), -1);
        Check.due("the command is dropped", x.call(command), 2);
        Check.due("the read is dropped", x.call(read), 2);
        Check.due("no write", x.state(14), 0);
        Check.due("no letter", x.state(16), went);
        Check.due("ROUND is 0 when it does not lead", x.state(15), 0);
        Check.due("the alarm is drawn once", x.state(12), alarmOfDraw(3, 101));
        Check.due("it was not", alarm, 10);
    }

    /** The alarm when it is drawn for this time from row 0. */
    private static int alarmOfDraw(int times, int now) {
        long row = 0;
        for (int k = 0; k < times; k++) {
            row = drawn(row);
        }
        return now + 50 + (int) ((row >>> 33) % 50);
    }

    private static void promise2NoVoter() {
        LogServer x = new LogServer(3, 7, 0L);
        x.append(1, 0, 0, 0, 0, 0);
        int went = x.state(16);
        Check.due("rings", x.tick(200), true);
        Check.due("follows on", x.state(0), 0);
        Check.due("its leader stays", x.state(3), 1);
        Check.due("no votes", x.state(10), 0);
        Check.due("no letters", x.state(16), went);
        Check.due("the alarm is drawn", x.state(12), alarmOfDraw(3, 200));
        LogServer fresh = Make.withMembers(0, 6 + 128);
        fresh.tick(200);
        Check.due("a voter of NEW alone asks", fresh.state(0), 1);
        LogServer old = Make.withMembers(0, 1 + 128 * 6);
        old.tick(200);
        Check.due("a voter of OLD alone asks", old.state(0), 1);
        LogServer learner = Make.withMembers(0, 6 + 16384);
        learner.tick(200);
        Check.due("a learner does not", learner.state(0), 0);
    }

    private static void promise2AsksNoneOneSix() {
        LogServer alone = new LogServer(4, 16, 0L);
        alone.tick(200);
        Check.due("none to ask", alone.state(16) + alone.state(17), 0);
        Check.due("it campaigns", alone.state(0), 2);
        Check.due("drawn by the alarm and by the campaign", alone.state(12), alarmOfDraw(3, 200));
        LogServer two = new LogServer(4, 48, 0L);
        two.tick(200);
        Check.due("one to ask", two.state(16), 1);
        Check.dueLetter("PREASK", two, 0, 5, 1, 1, 0, 0);
        Check.due("it asks", two.state(0), 1);
        Check.due("votes", two.state(10), 16);
        LogServer seven = new LogServer(4, 127, 0L);
        seven.tick(200);
        Check.due("six to ask", seven.state(16), 6);
        int[] order = {0, 1, 2, 3, 5, 6};
        for (int k = 0; k < 6; k++) {
            Check.dueLetter("in their order", seven, 5 - k, order[k], 1, 1, 0, 0);
        }
    }

    private static void promise2RingsInEachRole() {
        LogServer x = new LogServer(0, 7, 0L);
        x.tick(200);
        x.preanswer(4, 1, true);
        Check.due("votes", x.state(10), 1 + 16);
        x.tick(200);
        Check.due("asks again", x.state(0), 1);
        Check.due("with its vote alone", x.state(10), 1);
        Check.due("the term stays", x.state(1), 0);
        x.preanswer(1, 1, true);
        x.sync();
        x.tick(200);
        Check.due("who stands asks again", x.state(0), 1);
        Check.due("in the term in which it stood", x.state(1), 1);
        Check.dueLetter("for the next", x, 0, 2, 1, 2, 0, 0);
        Check.due("VOTED stays", x.state(2), 0);
    }

    private static void promise3Senders() {
        int[] itselfs = {0, 3, 6};
        for (int itself : itselfs) {
            LogServer x = new LogServer(itself, 127, 0L);
            Check.outOfBounds("-1", () -> x.preask(-1, 1, 0, 0));
            Check.outOfBounds("7", () -> x.preask(7, 1, 0, 0));
            Check.outOfBounds("itself", () -> x.preask(itself, 1, 0, 0));
            Check.due("no letter went", x.state(16), 0);
            int taken = 0;
            for (int s = 0; s < 7; s++) {
                if (s != itself) {
                    x.preask(s, 1, 0, 0);
                    taken++;
                    Check.due("all others are taken", x.letter(0, 0), s);
                }
            }
            Check.due("six", x.state(16), taken);
        }
        LogServer x = new LogServer(0, 7, 0L);
        Check.outOfBounds("the sender is looked at first", () -> x.preask(0, -1, -1, -1));
    }

    private static void promise3Numbers() {
        LogServer x = new LogServer(0, 7, 0L);
        x.preask(1, 0, 0, 0);
        Check.dueLetter("all are 0", x, 0, 1, 2, 0, 0);
        x.preask(1, MOST, MOST, MOST);
        Check.dueLetter("all are 1000000", x, 0, 1, 2, MOST, 1);
        Check.illegal("term -1", () -> x.preask(1, -1, 0, 0));
        Check.illegal("term 1000001", () -> x.preask(1, MOST + 1, 0, 0));
        Check.illegal("last -1", () -> x.preask(1, 0, -1, 0));
        Check.illegal("last 1000001", () -> x.preask(1, 0, MOST + 1, 0));
        Check.illegal("last term -1", () -> x.preask(1, 0, 0, -1));
        Check.illegal("last term 1000001", () -> x.preask(1, 0, 0, MOST + 1));
        Check.due("no letters", x.state(16), 2);
    }

    private static void promise3Term() {
        LogServer x = new LogServer(0, 7, 0L);
        x.ask(1, 5, 0, 0);
        x.sync();
        int[] terms = {4, 5, 6, 7};
        for (int t : terms) {
            x.preask(2, t, 0, 0);
            Check.dueLetter("term " + t, x, 0, 2, 2, t > 5 ? t : 5, t > 5 ? 1 : 0);
            Check.due("TERM stays", x.state(1), 5);
            Check.due("VOTED stays", x.state(2), 1);
        }
        LogServer greatest = new LogServer(0, 7, 0L);
        greatest.ask(1, MOST, 0, 0);
        greatest.sync();
        greatest.preask(1, MOST, MOST, MOST);
        Check.dueLetter("none is above the greatest", greatest, 0, 1, 2, MOST, 0);
    }

    private static void promise3AsNew() {
        int[][] logs = {{3, 3, 1}, {2, 3, 0}, {4, 3, 1}, {3, 2, 0}, {MOST, 2, 0}, {0, 4, 1}, {0, 3, 0}, {3, 4, 1}};
        for (int[] log : logs) {
            LogServer x = Make.withLog(0, 7, 2, 2, 3);
            x.tick(50);
            x.preask(1, 4, log[0], log[1]);
            Check.due("last " + log[0] + " of term " + log[1], x.letter(0, 3), log[2]);
        }
        LogServer empty = new LogServer(0, 7, 0L);
        empty.preask(1, 1, 0, 0);
        Check.due("an empty log is as new as an empty one", empty.letter(0, 3), 1);
    }

    private static void promise3AsNewAsASnapshot() {
        int[][] logs = {{9, 3, 1}, {8, 3, 0}, {10, 3, 1}, {MOST, 2, 0}, {0, 4, 1}};
        for (int[] log : logs) {
            LogServer x = Make.withSnapshot(0, 9, 3, 7, 10);
            x.tick(50);
            x.preask(1, 4, log[0], log[1]);
            Check.due("last " + log[0] + " of term " + log[1] + " and a snapshot", x.letter(0, 3), log[2]);
        }
    }

    private static void promise3Heard() {
        LogServer never = new LogServer(0, 7, 0L);
        never.preask(1, 1, 0, 0);
        Check.due("NEVER, at NOW 0", never.letter(0, 3), 1);
        int[] beginnings = {0, 30};
        for (int since : beginnings) {
            LogServer x = new LogServer(0, 7, 0L);
            if (since > 0) {
                x.tick(since);
            }
            x.append(1, 0, 0, 0, 0, 0);
            x.preask(1, 1, 0, 0);
            Check.due("heard now, at " + since, x.letter(0, 3), 0);
            x.tick(49);
            x.preask(1, 1, 0, 0);
            Check.due("49 ago, at " + since, x.letter(0, 3), 0);
            x.tick(1);
            x.preask(1, 1, 0, 0);
            Check.due("50 ago, at " + since, x.letter(0, 3), 1);
            x.tick(1);
            x.preask(1, 1, 0, 0);
            Check.due("51 ago, at " + since, x.letter(0, 3), 1);
        }
    }

    private static void promise3Roles() {
        LogServer asks = new LogServer(0, 7, 0L);
        asks.tick(200);
        asks.preask(1, 1, 0, 0);
        Check.due("who asks grants", asks.letter(0, 3), 1);
        Check.due("and asks on", asks.state(0), 1);
        LogServer stands = new LogServer(0, 7, 0L);
        stands.go(1, 0);
        stands.sync();
        stands.preask(1, 2, 0, 0);
        Check.due("who stands grants", stands.letter(0, 3), 1);
        Check.due("and stands on", stands.state(0), 2);
        LogServer leads = Make.leader(0, 7, 1);
        leads.preask(1, 2, 9, 9);
        Check.dueLetter("who leads does not", leads, 0, 1, 2, 1, 0);
        leads.preanswer(1, 2, false);
        leads.sync();
        leads.preask(1, 3, 9, 9);
        Check.dueLetter("who led does", leads, 0, 1, 2, 3, 1);
    }

    private static void promise4Term() {
        int[] terms = {0, 4, 5, 7, MOST};
        for (int t : terms) {
            LogServer x = asksInTerm5();
            x.preanswer(1, t, true);
            Check.due("a grant with term " + t + " is no vote", x.state(10), 1);
            Check.due("nor does it raise TERM", x.state(1), 5);
        }
        LogServer x = asksInTerm5();
        x.preanswer(1, 6, true);
        Check.due("TERM + 1 is one", x.state(0), 2);
        Check.due("TERM", x.state(1), 6);
        Check.illegal("-1", () -> x.preanswer(1, -1, true));
        Check.illegal("1000001", () -> x.preanswer(1, MOST + 1, true));
        Check.outOfBounds("from -1", () -> x.preanswer(-1, 1, true));
        Check.outOfBounds("from itself", () -> x.preanswer(0, 1, true));
        Check.outOfBounds("from 7", () -> x.preanswer(7, 1, true));
    }

    private static LogServer asksInTerm5() {
        LogServer x = new LogServer(0, 7, 0L);
        x.ask(1, 5, 0, 0);
        x.sync();
        x.tick(200);
        return x;
    }

    private static void promise4Refusals() {
        LogServer below = asksInTerm5();
        below.preanswer(1, 4, false);
        below.preanswer(1, 5, false);
        Check.due("with TERM or less it asks on", below.state(0), 1);
        Check.due("TERM", below.state(1), 5);
        Check.due("clean", below.state(14), 0);
        LogServer above = asksInTerm5();
        above.preanswer(1, 6, false);
        Check.due("with TERM + 1 it steps down", above.state(0), 0);
        Check.due("TERM", above.state(1), 6);
        Check.due("VOTED", above.state(2), -1);
        Check.due("a write", above.state(14), 1);
        Check.due("VOTES are as they were", above.state(10), 1);
        LogServer leads = Make.leader(0, 7, 1);
        leads.preanswer(1, 1, false);
        Check.due("a leader leads on with TERM", leads.state(0), 3);
        leads.preanswer(1, 2, false);
        Check.due("but not with TERM + 1", leads.state(0), 0);
    }

    private static void promise4Roles() {
        LogServer follows = new LogServer(0, 7, 0L);
        follows.preanswer(1, 1, true);
        Check.due("not while it follows", follows.state(0) + follows.state(10), 0);
        LogServer stands = new LogServer(0, 31, 0L);
        stands.go(1, 0);
        stands.preanswer(1, 2, true);
        Check.due("not while it stands", stands.state(10), 0);
        Check.due("TERM", stands.state(1), 1);
        LogServer leads = Make.leader(0, 31, 1, 2);
        leads.preanswer(3, 2, true);
        Check.due("not while it leads", leads.state(10), 7);
        Check.due("leads", leads.state(0), 3);
    }

    private static void promise5Term() {
        LogServer below = asksInTerm5();
        below.ask(1, 4, 9, 9);
        Check.dueLetter("TERM - 1", below, 0, 1, 4, 5, 0);
        Check.due("asks on", below.state(0), 1);
        LogServer at = asksInTerm5();
        at.ask(1, 5, 0, 0);
        Check.dueLetter("TERM, of the one it voted for", at, 0, 1, 4, 5, 1);
        LogServer above = asksInTerm5();
        above.ask(2, 6, 0, 0);
        above.sync();
        Check.dueLetter("TERM + 1, of another", above, 0, 2, 4, 6, 1);
        LogServer greatest = new LogServer(0, 7, 0L);
        greatest.ask(1, MOST, MOST, MOST);
        Check.due("1000000", greatest.state(1), MOST);
        Check.illegal("1000001", () -> greatest.ask(1, MOST + 1, 0, 0));
        Check.illegal("-1", () -> greatest.ask(1, -1, 0, 0));
        Check.illegal("last 1000001", () -> greatest.ask(1, 0, MOST + 1, 0));
        Check.illegal("last -1", () -> greatest.ask(1, 0, -1, 0));
        Check.illegal("last term 1000001", () -> greatest.ask(1, 0, 0, MOST + 1));
        Check.illegal("last term -1", () -> greatest.ask(1, 0, 0, -1));
        Check.outOfBounds("from -1", () -> greatest.ask(-1, 0, 0, 0));
        Check.outOfBounds("from itself", () -> greatest.ask(0, 0, 0, 0));
        Check.outOfBounds("from 7", () -> greatest.ask(7, 0, 0, 0));
    }

    private static void promise5Voted() {
        LogServer none = new LogServer(0, 7, 0L);
        none.ask(6, 0, 0, 0);
        Check.due("VOTED is NONE, in term 0", none.state(2), 6);
        Check.due("a write", none.state(14), 1);
        Check.due("so the answer waits", none.state(17), 1);
        none.sync();
        none.ask(6, 0, 0, 0);
        Check.dueLetter("VOTED is the sender", none, 0, 6, 4, 0, 1);
        none.ask(5, 0, 9, 9);
        Check.dueLetter("VOTED is another", none, 0, 5, 4, 0, 0);
        Check.due("VOTED stays", none.state(2), 6);
        LogServer itself = new LogServer(0, 7, 0L);
        itself.go(1, 0);
        itself.sync();
        itself.ask(1, 1, 9, 9);
        Check.dueLetter("VOTED is itself", itself, 0, 1, 4, 1, 0);
        Check.due("it stands on", itself.state(0), 2);
        LogServer zero = new LogServer(1, 7, 0L);
        zero.ask(0, 1, 0, 0);
        zero.ask(2, 1, 0, 0);
        Check.due("server 0 is no NONE", zero.state(2), 0);
    }

    private static void promise5AsNew() {
        int[][] logs = {{3, 3, 1}, {2, 3, 0}, {4, 3, 1}, {MOST, 2, 0}, {0, 4, 1}};
        for (int[] log : logs) {
            LogServer x = Make.withLog(0, 7, 2, 2, 3);
            x.ask(2, 4, log[0], log[1]);
            x.sync();
            Check.dueLetter("last " + log[0] + " of term " + log[1], x, 0, 2, 4, 4, log[2]);
            Check.due("VOTED", x.state(2), log[2] == 1 ? 2 : -1);
            Check.due("TERM is taken, also when it does not grant", x.state(1), 4);
        }
    }

    private static void promise5Write() {
        LogServer x = new LogServer(0, 7, 0L);
        x.ask(1, 1, 0, 0);
        x.sync();
        int alarm = x.state(12);
        x.ask(2, 1, 0, 0);
        Check.due("who is not granted draws no alarm", x.state(12), alarm);
        x.ask(1, 1, 0, 0);
        Check.due("the same vote again is no write", x.state(14), 0);
        Check.due("so the letter goes at once", x.state(17), 0);
        Check.due("but the alarm is drawn", x.state(12), alarmOfDraw(3, 0));
        LogServer higher = Make.withLog(0, 7, 3);
        higher.ask(2, 4, 0, 0);
        Check.due("a higher term alone is a write", higher.state(14), 1);
        Check.due("so the refusal waits", higher.state(17), 1);
    }

    private static void promise5Roles() {
        LogServer asks = new LogServer(0, 7, 0L);
        asks.tick(200);
        asks.ask(1, 0, 0, 0);
        Check.due("who asks and grants follows", asks.state(0), 0);
        LogServer refuses = Make.withLog(0, 7, 3);
        refuses.tick(200);
        refuses.ask(1, 3, 0, 0);
        Check.due("who asks and does not grant asks on", refuses.state(0), 1);
        LogServer leads = Make.leader(0, 7, 1);
        leads.ask(1, 1, 9, 9);
        Check.dueLetter("who leads does not grant with TERM", leads, 0, 1, 4, 1, 0);
        Check.due("and leads on", leads.state(0), 3);
        LogServer follows = new LogServer(0, 7, 0L);
        follows.append(1, 0, 0, 0, 0, 0);
        follows.ask(2, 0, 0, 0);
        Check.due("LEADER stays", follows.state(3), 1);
    }

    private static void promise6Term() {
        LogServer x = new LogServer(0, 7, 0L);
        x.go(1, 4);
        x.sync();
        Check.due("TERM", x.state(1), 5);
        x.answer(1, 4, true);
        Check.due("TERM - 1", x.state(10), 1);
        x.answer(1, 5, false);
        Check.due("TERM, not granted", x.state(10), 1);
        x.answer(1, 0, true);
        Check.due("term 0", x.state(0), 2);
        x.answer(1, 5, true);
        Check.due("TERM", x.state(0), 3);
        LogServer above = new LogServer(0, 7, 0L);
        above.go(1, 4);
        above.answer(1, 6, true);
        Check.due("TERM + 1: it steps down", above.state(0), 0);
        Check.due("TERM", above.state(1), 6);
        Check.due("without a vote", above.state(10), 0);
        Check.illegal("-1", () -> above.answer(1, -1, true));
        Check.illegal("1000001", () -> above.answer(1, MOST + 1, false));
        Check.outOfBounds("from -1", () -> above.answer(-1, 0, true));
        Check.outOfBounds("from itself", () -> above.answer(0, 0, true));
        Check.outOfBounds("from 7", () -> above.answer(7, 0, true));
        above.answer(6, MOST, false);
        Check.due("1000000", above.state(1), MOST);
    }

    private static void promise6Roles() {
        LogServer follows = new LogServer(0, 7, 0L);
        follows.answer(1, 0, true);
        Check.due("not while it follows", follows.state(0) + follows.state(10), 0);
        LogServer asks = new LogServer(0, 7, 0L);
        asks.tick(200);
        asks.answer(1, 0, true);
        asks.answer(2, 0, true);
        Check.due("not while it asks", asks.state(0), 1);
        Check.due("VOTES", asks.state(10), 1);
        LogServer leads = Make.leader(0, 7, 1);
        leads.answer(2, 1, true);
        Check.due("not while it leads", leads.state(10), 3);
        Check.due("it does not begin to lead again", leads.state(8), 1);
    }

    private static void promise6TheSameVoteTwice() {
        LogServer x = new LogServer(0, 31, 0L);
        x.go(1, 0);
        x.sync();
        x.answer(1, 1, true);
        x.answer(1, 1, true);
        x.answer(1, 1, true);
        Check.due("is one vote", x.state(0), 2);
        Check.due("VOTES", x.state(10), 3);
        x.sync();
        Check.due("nor does another sync add one", x.state(0), 2);
        LogServer asks = new LogServer(0, 31, 0L);
        asks.tick(200);
        asks.preanswer(1, 1, true);
        asks.preanswer(1, 1, true);
        Check.due("PREANSWER twice is one vote", asks.state(0), 1);
    }

    private static void promise13Term() {
        LogServer below = Make.withLog(0, 7, 5);
        below.go(1, 4);
        Check.due("TERM - 1", below.state(0), 0);
        Check.due("TERM stays", below.state(1), 5);
        LogServer at = Make.withLog(0, 7, 5);
        at.go(1, 5);
        Check.due("TERM", at.state(0), 2);
        Check.due("one more", at.state(1), 6);
        LogServer above = Make.withLog(0, 7, 5);
        above.go(1, 6);
        Check.due("TERM + 1", above.state(0), 2);
        Check.due("one more than that", above.state(1), 7);
        Check.illegal("-1", () -> above.go(1, -1));
        Check.illegal("1000001", () -> above.go(1, MOST + 1));
        Check.outOfBounds("from -1", () -> above.go(-1, 0));
        Check.outOfBounds("from itself", () -> above.go(0, 0));
        Check.outOfBounds("from 7", () -> above.go(7, 0));
        above.go(6, MOST);
        Check.due("1000000", above.state(1), MOST + 1);
    }

    private static void promise13Roles() {
        LogServer stands = new LogServer(0, 7, 0L);
        stands.go(1, 0);
        stands.go(1, 1);
        Check.due("not while it stands", stands.state(1), 1);
        LogServer leads = Make.leader(0, 7, 1);
        leads.go(1, 1);
        Check.due("not while it leads", leads.state(1), 1);
        leads.go(1, 2);
        Check.due("but after it stepped down", leads.state(1), 3);
        LogServer asks = new LogServer(0, 7, 0L);
        asks.tick(200);
        asks.go(5, 0);
        Check.due("while it asks, from anyone", asks.state(0), 2);
        Check.due("VOTES empty", asks.state(10), 0);
        Check.due("drawn three times", asks.state(12), alarmOfDraw(3, 200));
    }

    private static void promise13Voters() {
        int[] voters = {1, 127, 1 + 128 * 6, 6 + 128};
        for (int code : voters) {
            LogServer x = Make.withMembers(0, code);
            x.go(6, 1);
            Check.due("code " + code, x.state(0), 2);
            int others = Integer.bitCount((code | code >> 7) & 126);
            Check.due("ASK to all other voters", x.state(17), others);
        }
        int[] outside = {6, 126, 6 + 128 * 8, 6 + 16384};
        for (int code : outside) {
            LogServer x = Make.withMembers(0, code);
            x.go(6, 2);
            Check.due("code " + code, x.state(0), 0);
            Check.due("TERM is taken", x.state(1), 2);
            Check.due("no letter", x.state(17), 0);
        }
    }

    /** Only what comes is 0 .. 1000000: its own TERM goes on from there. */
    private static void termsBeyondTheGreatest() {
        LogServer x = new LogServer(0, 7, 0L);
        x.go(1, MOST);
        x.sync();
        Check.dueLetter("ASK with 1000001", x, 0, 2, 3, MOST + 1, 0, 0);
        x.tick(200);
        Check.dueLetter("PREASK with 1000002", x, 0, 2, 1, MOST + 2, 0, 0);
        x.append(1, MOST, 0, 0, 0, 3);
        Check.dueLetter("all that comes is below", x, 0, 1, 6, MOST + 1, 0, 0, 3);
        x.ask(1, MOST, 9, MOST);
        Check.dueLetter("all that comes is below", x, 0, 1, 4, MOST + 1, 0);
        x.preask(1, MOST, 9, MOST);
        Check.dueLetter("all that comes is below", x, 0, 1, 2, MOST + 1, 0);
    }
}
