/** Promises 9 and 14 to 19: what a leader hears, what is committed, and what its callers may ask for. */
public final class LeaderTest {
    private LeaderTest() {
    }

    public static void main(String[] args) {
        leads();
        leadsAgain();
        appendedCommits();
        appendedMoves();
        appendedThatRefuses();
        appendedIsNotHeard();
        appendedIsChecked();
        manyAreFlying();
        beats();
        onlyEntriesOfItsTermCount();
        syncWrites();
        syncCounts();
        commandWaits();
        commandRefuses();
        readWaits();
        readOfANewLeader();
        readRefuses();
        membersChange();
        membersInTwoSteps();
        membersRefuse();
        membersWithoutTheLeader();
        learnersLearn();
        learnersRefuse();
        handsOver();
        handWaits();
        handEnds();
        handRefuses();
        Check.end("LeaderTest");
    }

    private static void leads() {
        LogServer x = new LogServer(1, 7, 0L);
        x.entry(1, 2, 5);
        x.append(0, 1, 0, 0, 0, 0);
        x.sync();
        x.tick(150);
        x.preanswer(2, 2, true);
        x.sync();
        x.answer(2, 2, true);
        Check.due("leads", x.state(0), 3);
        Check.due("leader", x.state(3), 1);
        Check.due("LAST", x.state(8), 2);
        Check.dueEntry("its empty entry", x, 2, 2, 0, 0);
        Check.due("ROUND", x.state(15), 1);
        Check.due("alarm", x.state(12), 160);
        int[][] want = {{3, 0, 1, 1, 0, 0, 150}, {2, 1, 0, 1, 0, 1, 150}, {3, 0, 1, 1, 0, 0, 150}, {2, 0, 0, 1, 0, 0, 150}};
        for (int s = 0; s < want.length; s++) {
            for (int what = 0; what < 7; what++) {
                Check.due("peer(" + s + ", " + what + ")", x.peer(s, what), want[s][what]);
            }
        }
        Check.due("two letters", x.sync(), 2);
        Check.dueLetter("the first", x, 1, 0, 5, 2, 1, 1, 0, 1, 1, 2, 0, 0);
        Check.dueLetter("the second", x, 0, 2, 5, 2, 1, 1, 0, 1, 1, 2, 0, 0);
    }

    private static void leadsAgain() {
        LogServer x = Make.leader(0, 7, 1);
        x.appended(1, 1, true, 1, 9);
        x.appended(2, 1, true, 1, 9);
        x.command(1);
        x.command(2);
        x.sync();
        x.appended(2, 1, true, 3, 9);
        x.compact(300);
        x.sync();
        x.appended(1, 1, false, 1, 9);
        x.tick(10);
        x.appended(1, 1, false, 2, 9);
        x.stored(1, 1, 3, 100, 9);
        Check.due("OFFSET", x.peer(1, 4), 100);
        x.hand(1);
        x.go(1, 2);
        x.answer(1, 3, true);
        x.sync();
        Check.due("leads again", x.state(0), 3);
        Check.due("ROUND", x.state(15), 1);
        Check.due("HANDING", x.state(11), -1);
        int[] one = {5, 0, 1, 1, 0, 0, 10};
        for (int what = 0; what < 7; what++) {
            Check.due("all begins anew: " + what, x.peer(1, what), one[what]);
            Check.due("all begins anew: " + what, x.peer(2, what), one[what]);
        }
        Check.due("its own MATCH", x.peer(0, 1), 3);
        Check.due("FIRST", x.callFor(x.read()), 4);
    }

    private static void appendedCommits() {
        LogServer x = Make.leader(0, 31, 1, 2);
        x.appended(1, 1, true, 1, 1);
        Check.due("two of five", x.state(4), 0);
        x.appended(2, 1, true, 1, 1);
        Check.due("three of five", x.state(4), 1);
        Check.due("applied", x.state(5), 1);
        Check.due("an empty entry is no command", x.state(18), 0);
        int a = x.command(11);
        int b = x.command(12);
        x.appended(3, 1, true, 3, 1);
        x.appended(4, 1, true, 3, 1);
        Check.due("not on its own disk", x.state(4), 1);
        x.appended(1, 1, true, 2, 1);
        Check.due("three without itself", x.state(4), 2);
        Check.due("done", x.done(0, 1), 11);
        Check.due("the first call is answered", x.call(a), 1);
        Check.due("the second waits", x.call(b), 0);
        x.sync();
        Check.due("its own disk is the third", x.state(4), 3);
        Check.due("the second is answered", x.call(b), 1);
    }

    private static void appendedMoves() {
        LogServer x = Make.leader(0, 7, 1);
        x.tick(5);
        x.appended(1, 1, true, 1, 1);
        Check.due("MATCH", x.peer(1, 1), 1);
        Check.due("PROBING", x.peer(1, 3), 0);
        Check.due("FLYING", x.peer(1, 2), 0);
        Check.due("SEEN", x.peer(1, 6), 5);
        Check.due("ACK", x.peer(1, 5), 1);
        x.appended(1, 1, true, 0, 0);
        Check.due("MATCH does not fall", x.peer(1, 1), 1);
        Check.due("nor does FLYING below 0", x.peer(1, 2), 0);
        Check.due("nor ACK", x.peer(1, 5), 1);
        Check.due("nor NEXT", x.peer(1, 0), 2);
        x.appended(1, 1, true, 1000000, 3);
        Check.due("MATCH is at most LAST", x.peer(1, 1), 1);
        Check.due("NEXT behind it", x.peer(1, 0), 2);
        Check.due("ACK as told", x.peer(1, 5), 3);
        LogServer y = leaderOfLog();
        y.appended(1, 2, false, 1, 1);
        y.tick(10);
        y.tick(10);
        Check.due("from the begin", y.letter(1, 3), 0);
        y.command(9);
        y.command(9);
        y.sync();
        Check.due("five, and one flies", y.peer(1, 0), 6);
        y.appended(1, 2, true, 6, 1);
        Check.due("NEXT behind what it has, and what was sent then", y.letter(0, 3), 6);
        y.appended(1, 2, false, 7, 1);
        Check.due("PROBING again", y.peer(1, 3), 1);
    }

    private static void appendedThatRefuses() {
        LogServer x = leaderOfLog();
        Check.due("LAST", x.state(8), 5);
        x.appended(1, 2, false, 3, 1);
        Check.due("goes on from there", x.letter(0, 3), 2);
        Check.due("with all that is behind", x.letter(0, 7), 3);
        Check.due("FLYING", x.peer(1, 2), 1);
        Check.due("PROBING", x.peer(1, 3), 1);
        Check.due("NEXT", x.peer(1, 0), 6);
        x.appended(1, 2, true, 2, 1);
        x.appended(1, 2, false, 1, 1);
        Check.due("not below MATCH + 1", x.letter(0, 3), 2);
        int went = x.state(16);
        x.appended(1, 2, false, 99, 1);
        Check.due("not above LAST + 1", x.peer(1, 0), 6);
        Check.due("nothing to send then", x.state(16), went);
        x.appended(2, 2, false, 0, 1);
        Check.due("0 is as 1", x.letter(0, 3), 0);
    }

    private static void appendedIsNotHeard() {
        LogServer x = Make.leader(0, 7, 1);
        x.appended(1, 0, true, 1, 1);
        Check.due("a low term", x.peer(1, 1), 0);
        x.appended(5, 1, true, 1, 1);
        Check.due("no peer", x.peer(5, 1), 0);
        x.appended(1, 2, true, 1, 1);
        Check.due("a higher term", x.state(0), 0);
        Check.due("is taken", x.state(1), 2);
        Check.due("nothing else", x.state(4), 0);
        x.appended(1, 2, true, 1, 1);
        Check.due("nor is it while it follows", x.state(4), 0);
    }

    private static void appendedIsChecked() {
        LogServer x = new LogServer(2, 7, 0L);
        int[] senders = {-1, 2, 7, Integer.MAX_VALUE, Integer.MIN_VALUE};
        for (int s : senders) {
            Check.outOfBounds("from " + s, () -> x.appended(s, -1, true, 0, 0));
        }
        int[] bad = {-1, 1000001, Integer.MAX_VALUE, Integer.MIN_VALUE};
        for (int n : bad) {
            Check.illegal("term", () -> x.appended(1, n, true, 0, 0));
            Check.illegal("number", () -> x.appended(1, 1, true, n, 0));
            Check.illegal("round", () -> x.appended(1, 1, false, 0, n));
        }
        Check.due("nothing happened", x.state(1), 0);
        x.appended(1, 1000000, true, 1000000, 1000000);
        Check.due("the greatest", x.state(1), 1000000);
    }

    private static void manyAreFlying() {
        LogServer x = Make.leader(0, 7, 1);
        x.appended(1, 1, true, 1, 1);
        for (int k = 0; k < 5; k++) {
            x.command(k);
        }
        x.sync();
        Check.due("four at once", x.peer(1, 2), 4);
        Check.due("NEXT", x.peer(1, 0), 6);
        Check.due("one while probing", x.peer(2, 2), 1);
        Check.due("NEXT of that one", x.peer(2, 0), 2);
        for (int k = 5; k < 12; k++) {
            x.command(k);
        }
        x.sync();
        x.appended(1, 1, true, 2, 1);
        Check.due("six in a letter", x.letter(0, 7), 6);
        Check.dueLetter("all of it", x, 0, 1, 5, 1, 5, 1, 2, 1, 6, 1, 2, 4, 1, 2, 5, 1, 2, 6, 1, 2, 7, 1, 2, 8, 1, 2, 9);
        Check.due("four again", x.peer(1, 2), 4);
        x.appended(2, 1, true, 1, 1);
        Check.due("two letters bring all", x.peer(2, 2), 2);
        Check.due("NEXT", x.peer(2, 0), 14);
        LogServer y = Make.leader(0, 7, 1);
        for (int k = 0; k < 30; k++) {
            y.command(k);
        }
        y.sync();
        int went = y.state(16);
        y.appended(1, 1, true, 1, 1);
        Check.due("four in one go", y.state(16) - went, 4);
        Check.due("24 entries", y.peer(1, 0), 26);
    }

    private static void beats() {
        LogServer x = Make.leader(0, 7, 1);
        x.appended(1, 1, true, 1, 1);
        int went = x.state(16);
        x.tick(10);
        Check.due("a letter to each", x.state(16) - went, 2);
        Check.dueLetter("without entries", x, 1, 1, 5, 1, 1, 1, 1, 2, 0);
        Check.dueLetter("sent again", x, 0, 2, 5, 1, 0, 0, 1, 2, 1, 1, 0, 0);
        Check.due("FLYING", x.peer(2, 2), 1);
        Check.due("FLYING", x.peer(1, 2), 0);
        x.command(3);
        x.sync();
        x.tick(10);
        Check.due("who was silent since is probed", x.peer(1, 3), 1);
        x.appended(1, 1, false, 2, 2);
        x.tick(10);
        Check.due("who answered is not sent again", x.peer(1, 2), 1);
        Check.dueLetter("but a beat", x, 1, 1, 5, 1, 2, 1, 1, 4, 0);
        x.tick(10);
        Check.due("but in the next beat", x.letter(1, 7), 1);
        Check.due("its ACK is ROUND", x.peer(0, 5), 5);
        LogServer y = Make.leader(1, 7, 2);
        y.tick(10);
        Check.due("server 0 was silent too", y.letter(1, 7), 1);
    }

    private static void onlyEntriesOfItsTermCount() {
        LogServer x = leaderOfLog();
        x.appended(1, 2, true, 4, 1);
        Check.due("a majority has 4, of an old term", x.state(4), 0);
        x.appended(1, 2, true, 5, 1);
        Check.due("its own entry commits all", x.state(4), 5);
        Check.due("all are done", x.state(18), 4);
        int call = x.command(8);
        x.sync();
        x.appended(1, 2, true, 6, 0);
        Check.due("a command needs no round", x.call(call), 1);
    }

    private static void syncWrites() {
        LogServer x = new LogServer(0, 7, 0L);
        Check.due("nothing waits", x.sync(), 0);
        x.entry(1, 2, 1);
        x.append(1, 1, 0, 0, 0, 0);
        x.preask(2, 9, 9, 9);
        Check.due("all that is sent while it is dirty waits", x.state(17), 2);
        Check.due("nothing went", x.state(16), 0);
        Check.due("both go", x.sync(), 2);
        Check.due("clean", x.state(14), 0);
        Check.due("SYNCED", x.state(6), 1);
        Check.due("in order", x.letter(1, 1), 6);
        Check.due("in order", x.letter(0, 1), 2);
        Check.due("none waits", x.state(17), 0);
        x.preask(2, 9, 9, 9);
        Check.due("goes at once", x.state(16), 3);
    }

    private static void syncCounts() {
        LogServer x = Make.leader(0, 7, 1);
        x.command(5);
        Check.due("its MATCH is SYNCED", x.peer(0, 1), 1);
        x.appended(1, 1, true, 2, 1);
        Check.due("COMMIT", x.state(4), 1);
        x.sync();
        Check.due("its MATCH", x.peer(0, 1), 2);
        Check.due("COMMIT after the sync", x.state(4), 2);
        LogServer y = new LogServer(0, 3, 0L);
        y.go(1, 0);
        y.sync();
        Check.due("its vote alone", y.state(10), 1);
        Check.due("stands on", y.state(0), 2);
    }

    private static void commandWaits() {
        LogServer x = Make.leader(0, 7, 1);
        x.appended(1, 1, true, 1, 1);
        Check.due("the first", x.command(Integer.MIN_VALUE), 0);
        Check.due("the second", x.command(7), 1);
        Check.due("waits", x.call(0), 0);
        Check.due("for its number", x.callFor(0), 2);
        Check.due("for its number", x.callFor(1), 3);
        Check.dueEntry("written", x, 2, 1, 2, Integer.MIN_VALUE);
        Check.due("calls", x.state(19), 2);
        Check.due("to the peer that is not probed", x.sync(), 2);
        Check.due("with its value", x.letter(1, 10), Integer.MIN_VALUE);
        x.ask(2, 9, 0, 0);
        Check.due("dropped", x.call(0), 2);
        Check.due("still known for what", x.callFor(1), 3);
    }

    private static void commandRefuses() {
        LogServer x = new LogServer(0, 7, 0L);
        Check.due("follows", x.command(1), -1);
        x.tick(60);
        Check.due("asks", x.command(1), -1);
        x.go(1, 0);
        Check.due("stands", x.command(1), -1);
        Check.due("no calls", x.state(19), 0);
        LogServer y = Make.leader(0, 7, 1);
        y.hand(1);
        Check.due("hands over", y.command(1), -1);
        Check.due("nothing is written", y.state(8), 1);
    }

    private static void readWaits() {
        LogServer x = Make.leader(0, 31, 1, 2);
        x.appended(1, 1, true, 1, 1);
        x.appended(2, 1, true, 1, 1);
        Check.due("a call", x.read(), 0);
        Check.due("for COMMIT", x.callFor(0), 1);
        x.appended(1, 1, true, 1, 1);
        x.appended(2, 1, true, 1, 1);
        x.sync();
        Check.due("the round before is not enough", x.call(0), 0);
        x.tick(10);
        Check.due("nor is it itself alone", x.call(0), 0);
        x.appended(1, 1, true, 1, 2);
        x.appended(5, 1, true, 1, 2);
        Check.due("two of five", x.call(0), 0);
        x.appended(4, 1, false, 1, 2);
        Check.due("three of five, also if one refuses", x.call(0), 1);
        Check.due("nothing was written", x.state(8), 1);
        x.read();
        x.preanswer(1, 2, false);
        Check.due("dropped", x.call(1), 2);
        LogServer alone = Make.leader(0, 1);
        alone.sync();
        alone.read();
        alone.sync();
        Check.due("one alone needs its next beat too", alone.call(0), 0);
        alone.tick(10);
        Check.due("which answers it", alone.call(0), 1);
    }

    private static void readOfANewLeader() {
        LogServer x = leaderOfLog();
        x.append(1, 1, 0, 0, 0, 0);
        int call = x.read();
        Check.due("for FIRST", x.callFor(call), 5);
        x.tick(10);
        x.appended(1, 2, true, 4, 2);
        Check.due("the round is there, FIRST is not", x.call(call), 0);
        x.appended(1, 2, true, 5, 2);
        Check.due("both", x.call(call), 1);
        Check.due("now for COMMIT", x.callFor(x.read()), 5);
        LogServer y = new LogServer(0, 7, 0L);
        y.go(1, 0);
        y.sync();
        y.answer(1, 1, true);
        y.read();
        y.tick(10);
        y.appended(1, 1, true, 1, 2);
        Check.due("FIRST is not on its own disk", y.call(0), 0);
        y.sync();
        Check.due("the sync commits it, and answers", y.call(0), 1);
    }

    private static void readRefuses() {
        LogServer x = new LogServer(0, 7, 0L);
        Check.due("follows", x.read(), -1);
        LogServer y = Make.leader(0, 7, 1);
        y.hand(1);
        Check.due("hands over", y.read(), -1);
        Check.due("no calls", y.state(19), 0);
    }

    private static void membersChange() {
        LogServer x = Make.leader(0, 7, 1);
        x.appended(1, 1, true, 1, 1);
        Check.due("to two", x.members(3), true);
        Check.due("OLD and NEW", x.state(9), 7 + 128 * 3);
        Check.dueEntry("written", x, 2, 1, 1, 7 + 128 * 3);
        Check.due("to those who may get more", x.sync(), 1);
        Check.due("of term", x.letter(0, 8), 1);
        Check.due("of kind MEMBERS", x.letter(0, 9), 1);
        x.appended(1, 1, true, 2, 1);
        Check.due("NEW alone", x.state(9), 3);
        Check.dueEntry("written when it counts", x, 3, 1, 1, 3);
        Check.due("dirty", x.state(14), 1);
        Check.due("sent to the peers that are left", x.sync(), 1);
        Check.due("to 1", x.letter(0, 0), 1);
        x.appended(2, 1, true, 3, 1);
        Check.due("2 is no peer any more", x.peer(2, 1), 0);
        x.appended(1, 1, true, 3, 1);
        Check.due("committed by the two", x.state(4), 3);
        Check.due("nothing more is written", x.state(8), 3);
        LogServer y = Make.leader(0, 31, 1, 2);
        for (int s = 1; s < 5; s++) {
            y.appended(s, 1, true, 1, 1);
        }
        y.members(15);
        y.sync();
        y.appended(1, 1, true, 2, 1);
        y.appended(3, 1, false, 2, 1);
        y.appended(4, 1, true, 2, 1);
        Check.due("joint is committed by others than all of NEW", y.state(4), 1);
        y.appended(2, 1, true, 2, 1);
        Check.due("NEW", y.state(9), 15);
        Check.due("1 and 2 get it, 3 is probed and 4 gone", y.sync(), 2);
        LogServer z = Make.leader(0, 31, 1, 2);
        for (int s = 1; s < 5; s++) {
            z.appended(s, 1, true, 1, 1);
        }
        z.members(7);
        z.sync();
        z.appended(1, 1, true, 2, 1);
        Check.due("two of five", z.state(4), 1);
        z.appended(4, 1, true, 2, 1);
        Check.due("three of five, two of three", z.state(9), 7);
        Check.due("the sender is no peer any more", z.sync(), 2);
        Check.due("none to it", z.letter(0, 0), 2);
    }

    private static void membersInTwoSteps() {
        LogServer x = Make.leader(0, 7, 1);
        x.appended(1, 1, true, 1, 1);
        x.learners(0b11000);
        x.sync();
        x.appended(1, 1, true, 2, 1);
        Check.due("a learner without MATCH", x.members(0b01001), false);
        x.appended(3, 1, true, 2, 1);
        Check.due("one with it", x.members(0b01001), true);
        Check.due("the other learns on", x.state(9), 7 + 128 * 9 + 16384 * 16);
        x.sync();
        x.appended(1, 1, true, 3, 1);
        Check.due("OLD alone does not commit it", x.state(4), 2);
        x.appended(3, 1, true, 3, 1);
        Check.due("NEW too", x.state(4), 3);
        Check.due("then NEW with the learner", x.state(9), 9 + 16384 * 16);
    }

    private static void membersRefuse() {
        LogServer follows = new LogServer(0, 7, 0L);
        Check.due("follows", follows.members(3), false);
        LogServer x = Make.leader(0, 7, 1);
        Check.due("the snapshot's are not above COMMIT", x.members(15), false);
        int[] bad = {0, -1, 128, Integer.MAX_VALUE, Integer.MIN_VALUE, 8, 1 + 64};
        for (int set : bad) {
            Check.due("members(" + set + ")", x.members(set), false);
        }
        Check.due("nothing is done", x.state(8), 1);
        Check.due("all seven", Make.leader(0, 127, 1, 2, 3).members(127), true);
        Check.due("server 0 is no member", Make.leader(1, 6, 2).members(3), false);
        Check.due("the same ones", x.members(7), true);
        Check.due("not two at once", x.members(7), false);
        LogServer y = Make.leader(0, 7, 1);
        y.hand(1);
        Check.due("hands over", y.members(3), false);
        Check.due("learners neither", y.learners(8), false);
        LogServer z = Make.leader(0, 1);
        z.sync();
        z.learners(2);
        z.sync();
        z.appended(1, 1, true, 2, 1);
        Check.due("joint", z.members(3), true);
        z.sync();
        Check.due("not committed", z.state(4), 2);
        Check.due("not above COMMIT nor while NEW is there", z.members(1), false);
        Check.due("nor learners", z.learners(0), false);
    }

    private static void membersWithoutTheLeader() {
        LogServer x = Make.leader(0, 7, 1);
        x.appended(1, 1, true, 1, 1);
        x.appended(2, 1, true, 1, 1);
        Check.due("a set without itself", x.members(6), true);
        int call = x.read();
        x.sync();
        x.appended(1, 1, true, 2, 1);
        Check.due("NEW needs both", x.state(4), 1);
        x.appended(2, 1, true, 2, 1);
        Check.due("NEW", x.state(9), 6);
        x.sync();
        Check.due("leads until that is committed", x.state(0), 3);
        x.appended(1, 1, true, 3, 1);
        Check.due("itself does not count", x.state(4), 2);
        x.appended(2, 1, true, 3, 1);
        Check.due("committed", x.state(4), 3);
        Check.due("follows", x.state(0), 0);
        Check.due("no leader", x.state(3), -1);
        Check.due("its term stays", x.state(1), 1);
        Check.due("the read is dropped", x.call(call), 2);
        Check.due("the last letter was no GO", x.letter(0, 1), 5);
    }

    private static void learnersLearn() {
        LogServer x = Make.leader(0, 7, 1);
        Check.due("two", x.learners(0b1001000), true);
        Check.due("code", x.state(9), 7 + 16384 * 0b1001000);
        x.sync();
        Check.due("they are sent to, from what NEXT was", x.letter(0, 3), 0);
        Check.due("the last of them last", x.letter(0, 0), 6);
        x.appended(3, 1, true, 2, 1);
        x.appended(6, 1, true, 2, 1);
        Check.due("they do not count", x.state(4), 0);
        x.appended(1, 1, true, 2, 1);
        Check.due("voters do", x.state(4), 2);
        Check.due("others", x.learners(0b0010000), true);
        Check.due("instead of those", x.state(9), 7 + 16384 * 16);
        x.sync();
        x.appended(1, 1, true, 3, 1);
        Check.due("none", x.learners(0), true);
        Check.due("code", x.state(9), 7);
        Check.due("1 gets it, 2 is probed", x.sync(), 1);
        LogServer y = Make.leader(6, 64);
        Check.due("all others", y.learners(63), true);
        Check.due("six letters", y.sync(), 6);
    }

    private static void learnersRefuse() {
        LogServer follows = new LogServer(0, 7, 0L);
        Check.due("follows", follows.learners(8), false);
        LogServer x = Make.leader(0, 7, 1);
        int[] bad = {-1, 128, 1, 4, 8 + 2, Integer.MAX_VALUE, Integer.MIN_VALUE};
        for (int set : bad) {
            Check.due("learners(" + set + ")", x.learners(set), false);
        }
        Check.due("nothing is done", x.state(8), 1);
        Check.due("nor written", x.state(14), 0);
        Check.due("none are fine", x.learners(0), true);
        Check.due("the last is above COMMIT", x.learners(8), false);
    }

    private static void handsOver() {
        LogServer x = Make.leader(0, 7, 1);
        x.appended(1, 1, true, 1, 1);
        Check.due("hands", x.hand(1), true);
        Check.due("HANDING", x.state(11), 1);
        Check.dueLetter("GO", x, 0, 1, 9, 1);
        Check.due("leads on", x.state(0), 3);
        x.ask(1, 2, 1, 1);
        Check.due("until a higher term", x.state(0), 0);
        Check.due("HANDING", x.state(11), -1);
        Check.due("and votes for it", x.state(2), 1);
    }

    private static void handWaits() {
        LogServer x = Make.leader(0, 7, 1);
        x.appended(1, 1, true, 1, 1);
        x.command(4);
        x.sync();
        Check.due("hands", x.hand(1), true);
        Check.due("no GO yet", x.letter(0, 1), 5);
        x.appended(2, 1, true, 2, 1);
        Check.due("nor after another's letter", x.letter(0, 1), 5);
        x.appended(1, 1, true, 2, 1);
        Check.dueLetter("GO when it has all", x, 0, 1, 9, 1);
        x.appended(1, 1, true, 2, 1);
        Check.due("each time it says so", x.letter(1, 1), 9);
        LogServer y = Make.leader(0, 7, 1);
        y.tick(10);
        y.appended(2, 1, false, 1, 1);
        int went = y.state(16);
        y.hand(2);
        Check.due("it sends to it as it may", y.state(16), went);
    }

    private static void handEnds() {
        LogServer x = Make.leader(0, 7, 1);
        x.hand(2);
        x.appended(1, 1, true, 1, 1);
        x.tick(50);
        Check.due("50 ago", x.state(11), 2);
        x.tick(10);
        Check.due("longer ago", x.state(11), -1);
        Check.due("commands again", x.command(1), 0);
        Check.due("again", x.hand(2), true);
        LogServer y = Make.leader(0, 7, 1);
        y.tick(30);
        y.hand(2);
        y.tick(50);
        Check.due("from when it was set", y.state(11), 2);
        LogServer z = Make.leader(0, 7, 1);
        z.hand(2);
        z.tick(51);
        Check.due("51 ago", z.state(11), -1);
    }

    private static void handRefuses() {
        LogServer follows = new LogServer(0, 7, 0L);
        Check.due("follows", follows.hand(1), false);
        LogServer x = Make.leader(0, 7, 1);
        x.learners(8);
        int[] bad = {-1, 0, 3, 4, 7, Integer.MAX_VALUE, Integer.MIN_VALUE, 33};
        for (int s : bad) {
            Check.due("hand(" + s + ")", x.hand(s), false);
        }
        Check.due("none", x.state(11), -1);
        x.hand(2);
        Check.due("not while it hands over", x.hand(1), false);
        Check.due("that goes on", x.state(11), 2);
    }

    /** Server 0 leads 0, 1, 2 in term 2, with four commands of term 1, and its own entry 5; synced. */
    private static LogServer leaderOfLog() {
        LogServer x = Make.withLog(0, 7, 1, 1, 1, 1);
        x.go(1, 1);
        x.answer(1, 2, true);
        x.sync();
        x.sync();
        return x;
    }
}
