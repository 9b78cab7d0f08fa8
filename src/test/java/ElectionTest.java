/** Promises 1 to 6 and 13: a new object, time, and how a leader is chosen. */
public final class ElectionTest {
    private ElectionTest() {
    }

    public static void main(String[] args) {
        aNewObject();
        theAlarmIsDrawn();
        tickRings();
        tickAsksTheVoters();
        tickOfOneAlone();
        tickOfAnOutsider();
        tickOfALeader();
        tickRefuses();
        preaskIsGranted();
        preaskIsNotGranted();
        preanswerVotes();
        preanswerThatRefuses();
        askIsGrantedOnce();
        askLooksAtTheLog();
        answerVotes();
        answerWithAHigherTerm();
        goCampaigns();
        lettersAreChecked();
        Check.end("ElectionTest");
    }

    private static void aNewObject() {
        LogServer x = new LogServer(2, 7, 0L);
        int[] want = {0, 0, -1, -1, 0, 0, 0, 0, 0, 7, 0, -1, 57, 0, 0, 0, 0, 0, 0, 0};
        for (int what = 0; what < want.length; what++) {
            Check.due("new: state(" + what + ")", x.state(what), want[what]);
        }
        Check.due("new: term of BASE", x.log(0, 0), 0);
        Check.due("only seven bits of the first", new LogServer(0, 0x1ff, 0L).state(9), 127);
        Check.due("no bit set is 1", new LogServer(0, 128, 0L).state(9), 1);
        Check.due("a negative first", new LogServer(0, -1, 0L).state(9), 127);
        for (int given = -9; given < 20; given++) {
            int itself = (given & 7) == 7 ? 6 : given & 7;
            LogServer y = new LogServer(given, 127, 0L);
            Check.outOfBounds("a letter from itself", () -> y.go(itself, 0));
            for (int s = 0; s < 7; s++) {
                if (s != itself) {
                    y.preanswer(s, 0, true);
                }
            }
        }
    }

    private static void theAlarmIsDrawn() {
        long[] rows = {0L, 1L, -1L, Long.MIN_VALUE, Long.MAX_VALUE, 987654321987654321L};
        for (long row : rows) {
            long once = next(row);
            LogServer x = new LogServer(0, 7, row);
            Check.due("the first alarm", x.state(12), alarm(0, once));
            x.tick(200);
            Check.due("the next alarm", x.state(12), alarm(200, next(once)));
        }
    }

    private static long next(long row) {
        return row * 6364136223846793005L + 1442695040888963407L;
    }

    private static int alarm(int now, long row) {
        return now + 50 + (int) ((row >>> 33) % 50);
    }

    private static void tickRings() {
        LogServer x = new LogServer(0, 7, 0L);
        Check.due("a tick before the alarm", x.tick(56), false);
        Check.due("NOW", x.state(13), 56);
        Check.due("still follows", x.state(0), 0);
        Check.due("the alarm rings at its time", x.tick(1), true);
        Check.due("NOW at the alarm", x.state(13), 57);
        Check.due("asks", x.state(0), 1);
    }

    private static void tickAsksTheVoters() {
        LogServer x = new LogServer(1, 0b1001011, 0L);
        x.append(4, 3, 0, 0, 0, 0);
        x.sync();
        Check.due("a leader", x.state(3), 4);
        int went = x.state(16);
        Check.due("rings", x.tick(1000), true);
        Check.due("three were asked", x.state(16) - went, 3);
        Check.dueLetter("first", x, 2, 0, 1, 4, 0, 0);
        Check.dueLetter("second", x, 1, 3, 1, 4, 0, 0);
        Check.dueLetter("third", x, 0, 6, 1, 4, 0, 0);
        Check.due("votes", x.state(10), 2);
        Check.due("no leader any more", x.state(3), -1);
        Check.due("the term stays", x.state(1), 3);
        Check.due("nothing was written", x.state(14), 0);
    }

    private static void tickOfOneAlone() {
        LogServer x = new LogServer(0, 1, 0L);
        x.tick(60);
        Check.due("stands at once", x.state(0), 2);
        Check.due("term", x.state(1), 1);
        Check.due("voted for itself", x.state(2), 0);
        Check.due("votes are empty until the sync", x.state(10), 0);
        Check.due("dirty", x.state(14), 1);
        long twice = next(next(next(0L)));
        Check.due("the alarm was drawn twice", x.state(12), alarm(60, twice));
        Check.due("no letter", x.sync(), 0);
        Check.due("leads", x.state(0), 3);
        Check.due("its own vote", x.state(10), 1);
        Check.due("the alarm of a leader", x.state(12), 70);
    }

    private static void tickOfAnOutsider() {
        LogServer x = new LogServer(3, 7, 0L);
        Check.due("rings", x.tick(60), true);
        Check.due("does not ask", x.state(0), 0);
        Check.due("no letter", x.state(16), 0);
        Check.due("the alarm is drawn", x.state(12), alarm(60, next(next(0L))));
        LogServer learner = new LogServer(3, 7, 0L);
        learner.entry(1, 1, 7 + 16384 * 8);
        learner.append(0, 1, 0, 0, 0, 0);
        learner.sync();
        learner.tick(200);
        Check.due("a learner does not ask", learner.state(0), 0);
        Check.due("nor forgets it who leads", learner.state(3), 0);
    }

    private static void tickOfALeader() {
        LogServer x = Make.leader(0, 7, 1);
        int now = x.state(13);
        x.appended(1, 1, true, 1, 1);
        Check.due("not before the beat", x.tick(9), false);
        Check.due("its SEEN is of the last beat", x.peer(0, 6), now);
        Check.due("beats", x.tick(1), true);
        Check.due("round", x.state(15), 2);
        Check.due("its SEEN is now", x.peer(0, 6), now + 10);
        Check.due("just 100 ago", x.tick(90), true);
        Check.due("leads still", x.state(0), 3);
        Check.due("longer than 100 ago", x.tick(10), true);
        Check.due("follows", x.state(0), 0);
        Check.due("no leader", x.state(3), -1);
        Check.due("the term stays", x.state(1), 1);
        Check.due("an alarm is drawn", x.state(12) >= now + 110 + 50, true);

        LogServer y = Make.leader(0, 7, 1);
        y.appended(1, 1, true, 1, 1);
        y.tick(80);
        y.appended(2, 1, true, 1, 1);
        y.tick(70);
        Check.due("one of two seen is enough", y.state(0), 3);
        y.tick(31);
        Check.due("until that is too long ago", y.state(0), 0);
        LogServer alone = Make.leader(0, 1);
        alone.tick(1000);
        Check.due("one alone sees itself", alone.state(0), 3);
    }

    private static void tickRefuses() {
        LogServer x = new LogServer(0, 7, 0L);
        int[] wrong = {0, -1, 1001, Integer.MIN_VALUE, Integer.MAX_VALUE};
        for (int n : wrong) {
            Check.illegal("tick(" + n + ")", () -> x.tick(n));
        }
        Check.due("NOW stays", x.state(13), 0);
        x.tick(1000);
        Check.due("1000 is fine", x.state(13), 1000);
    }

    private static void preaskIsGranted() {
        LogServer x = new LogServer(0, 7, 0L);
        x.preask(5, 3, 0, 0);
        Check.dueLetter("granted with the letter's term, to anyone", x, 0, 5, 2, 3, 1);
        Check.due("the term stays", x.state(1), 0);
        Check.due("clean", x.state(14), 0);
        x.append(1, 2, 0, 0, 0, 0);
        x.sync();
        x.tick(49);
        x.preask(1, 3, 9, 9);
        Check.dueLetter("a leader was heard 49 ago", x, 0, 1, 2, 2, 0);
        x.tick(1);
        x.preask(1, 3, 0, 0);
        Check.dueLetter("50 ago", x, 0, 1, 2, 3, 1);
    }

    private static void preaskIsNotGranted() {
        LogServer x = Make.withLog(0, 7, 2, 2, 3);
        x.tick(50);
        x.preask(1, 3, 3, 3);
        Check.dueLetter("not for its own term", x, 0, 1, 2, 3, 0);
        x.preask(1, 2, 3, 3);
        Check.dueLetter("nor for one below", x, 0, 1, 2, 3, 0);
        x.preask(1, 9, 2, 3);
        Check.dueLetter("a log too short", x, 0, 1, 2, 3, 0);
        x.preask(1, 9, 500, 2);
        Check.dueLetter("a last term too low", x, 0, 1, 2, 3, 0);
        x.preask(1, 9, 3, 3);
        Check.dueLetter("the same log", x, 0, 1, 2, 9, 1);
        x.preask(1, 9, 0, 4);
        Check.dueLetter("a higher last term", x, 0, 1, 2, 9, 1);
        LogServer leads = Make.leader(0, 7, 1);
        leads.tick(60);
        leads.preask(1, 9, 9, 9);
        Check.dueLetter("a leader does not grant", leads, 0, 1, 2, 1, 0);
        Check.due("and leads on", leads.state(0), 3);
    }

    private static void preanswerVotes() {
        LogServer x = new LogServer(0, 31, 0L);
        x.preanswer(1, 1, true);
        Check.due("while it follows nothing happens", x.state(10), 0);
        x.tick(60);
        x.preanswer(1, 2, true);
        x.preanswer(1, 0, true);
        Check.due("only with TERM + 1", x.state(10), 1);
        Check.due("a grant does not raise the term", x.state(1), 0);
        x.preanswer(1, 1, true);
        x.preanswer(1, 1, true);
        x.preanswer(6, 1, true);
        Check.due("a vote, also of one who is no voter", x.state(10), 1 + 2 + 64);
        Check.due("but no majority", x.state(0), 1);
        x.preanswer(4, 1, true);
        Check.due("campaigns", x.state(0), 2);
        Check.due("term", x.state(1), 1);
        Check.due("voted", x.state(2), 0);
        Check.due("votes empty", x.state(10), 0);
        Check.due("four letters wait", x.state(17), 4);
        Check.due("and go", x.sync(), 4);
        Check.dueLetter("ASK", x, 3, 1, 3, 1, 0, 0);
        Check.dueLetter("ASK", x, 0, 4, 3, 1, 0, 0);

        LogServer joint = Make.withMembers(0, 0b0000111 + 128 * 0b1110000);
        joint.tick(200);
        joint.preanswer(1, 2, true);
        joint.preanswer(2, 2, true);
        joint.preanswer(4, 2, true);
        Check.due("a majority of OLD is not enough", joint.state(0), 1);
        joint.preanswer(5, 2, true);
        Check.due("one of NEW too", joint.state(0), 2);
        joint.sync();
        Check.due("all voters but itself are asked", joint.letter(4, 0), 1);
        Check.due("in their order", joint.letter(0, 0), 6);
    }

    private static void preanswerThatRefuses() {
        LogServer x = new LogServer(0, 7, 0L);
        x.tick(60);
        x.preanswer(1, 1, false);
        Check.due("a refusal with a higher term", x.state(1), 1);
        Check.due("it follows", x.state(0), 0);
        Check.due("dirty", x.state(14), 1);
        x.tick(200);
        x.preanswer(1, 1, false);
        Check.due("one with its own term does nothing", x.state(0), 1);
    }

    private static void askIsGrantedOnce() {
        LogServer x = new LogServer(0, 7, 0L);
        x.ask(1, 2, 0, 0);
        Check.due("voted", x.state(2), 1);
        Check.due("term", x.state(1), 2);
        Check.due("dirty", x.state(14), 1);
        Check.due("the answer waits", x.state(16), 0);
        Check.due("drawn again", x.state(12), alarm(0, next(next(0L))));
        x.sync();
        Check.dueLetter("granted", x, 0, 1, 4, 2, 1);
        x.ask(1, 2, 0, 0);
        Check.due("again is no write", x.state(14), 0);
        Check.dueLetter("granted again", x, 0, 1, 4, 2, 1);
        Check.due("drawn a third time", x.state(12), alarm(0, next(next(next(0L)))));
        x.ask(2, 2, 9, 9);
        Check.dueLetter("not to another", x, 0, 2, 4, 2, 0);
        Check.due("not drawn", x.state(12), alarm(0, next(next(next(0L)))));
        x.ask(2, 1, 9, 9);
        Check.dueLetter("not for a term below", x, 0, 2, 4, 2, 0);
        x.tick(200);
        x.ask(1, 2, 0, 0);
        Check.due("who asked follows when it grants", x.state(0), 0);
        LogServer y = Make.withLog(0, 7, 2);
        y.ask(2, 2, 1, 2);
        Check.due("a vote alone is a write too", y.state(14), 1);
        Check.due("the leader stays", y.state(3), 1);
    }

    private static void askLooksAtTheLog() {
        LogServer x = Make.withLog(0, 7, 2, 2, 3);
        x.ask(1, 4, 2, 3);
        x.sync();
        Check.dueLetter("too short", x, 0, 1, 4, 4, 0);
        Check.due("no vote", x.state(2), -1);
        Check.due("but the term", x.state(1), 4);
        x.ask(2, 4, 3, 3);
        x.sync();
        Check.dueLetter("as long", x, 0, 2, 4, 4, 1);
        LogServer leads = Make.leader(0, 7, 1);
        leads.command(5);
        leads.ask(1, 2, 0, 0);
        Check.due("a leader steps down for a higher term", leads.state(0), 0);
        Check.due("its calls are dropped", leads.call(0), 2);
        leads.sync();
        Check.dueLetter("and refuses a log older than its own", leads, 0, 1, 4, 2, 0);
    }

    private static void answerVotes() {
        LogServer x = new LogServer(0, 31, 0L);
        x.go(1, 0);
        x.answer(1, 1, false);
        x.answer(1, 0, true);
        Check.due("no votes", x.state(10), 0);
        x.answer(1, 1, true);
        x.answer(2, 1, true);
        Check.due("two of five", x.state(0), 2);
        x.sync();
        Check.due("its own is the third", x.state(0), 3);
        Check.due("leader", x.state(3), 0);
        Check.due("votes", x.state(10), 7);
        Check.due("an empty entry", x.state(8), 1);
        Check.dueEntry("its first", x, 1, 1, 0, 0);
        Check.due("round", x.state(15), 1);
        Check.due("four letters wait", x.state(17), 4);

        LogServer y = new LogServer(0, 31, 0L);
        y.go(1, 0);
        y.answer(1, 1, true);
        y.answer(2, 1, true);
        y.answer(3, 1, true);
        Check.due("leads before its own vote is on disk", y.state(0), 3);
        Check.due("votes", y.state(10), 14);
        Check.due("ASKs and APPENDs wait", y.state(17), 8);
        y.answer(4, 1, true);
        Check.due("later votes do nothing", y.state(10), 14);
    }

    private static void answerWithAHigherTerm() {
        LogServer x = new LogServer(0, 7, 0L);
        x.go(1, 0);
        x.answer(1, 5, true);
        Check.due("term", x.state(1), 5);
        Check.due("role", x.state(0), 0);
        Check.due("voted", x.state(2), -1);
    }

    private static void goCampaigns() {
        LogServer x = new LogServer(0, 7, 0L);
        x.append(1, 3, 0, 0, 0, 0);
        x.sync();
        x.go(1, 2);
        Check.due("not for a term below", x.state(0), 0);
        x.go(2, 3);
        Check.due("stands", x.state(0), 2);
        Check.due("no leader", x.state(3), -1);
        Check.due("term", x.state(1), 4);
        Check.due("asks both", x.sync(), 2);
        Check.dueLetter("ASK", x, 0, 2, 3, 4, 0, 0);
        x.go(2, 4);
        Check.due("not again while it stands", x.state(1), 4);
        x.go(2, 7);
        Check.due("a higher term lets it follow first", x.state(1), 8);
        LogServer asks = new LogServer(0, 7, 0L);
        asks.tick(60);
        asks.go(1, 0);
        Check.due("while it asks too", asks.state(0), 2);
        LogServer leads = Make.leader(0, 7, 1);
        leads.go(1, 1);
        Check.due("not while it leads", leads.state(0), 3);
        LogServer outside = new LogServer(5, 7, 0L);
        outside.go(1, 4);
        Check.due("not when it is no voter", outside.state(0), 0);
        Check.due("but the term is taken", outside.state(1), 4);
    }

    private static void lettersAreChecked() {
        LogServer x = new LogServer(2, 7, 0L);
        int[] senders = {-1, 2, 7, Integer.MIN_VALUE, Integer.MAX_VALUE};
        for (int s : senders) {
            Check.outOfBounds("preask from " + s, () -> x.preask(s, -1, 0, 0));
            Check.outOfBounds("preanswer from " + s, () -> x.preanswer(s, -1, true));
            Check.outOfBounds("ask from " + s, () -> x.ask(s, -1, 0, 0));
            Check.outOfBounds("answer from " + s, () -> x.answer(s, -1, true));
            Check.outOfBounds("go from " + s, () -> x.go(s, -1));
        }
        int[] numbers = {-1, 1000001, Integer.MIN_VALUE, Integer.MAX_VALUE};
        for (int n : numbers) {
            Check.illegal("preask term", () -> x.preask(1, n, 0, 0));
            Check.illegal("preask last", () -> x.preask(1, 1, n, 0));
            Check.illegal("preask last term", () -> x.preask(1, 1, 0, n));
            Check.illegal("preanswer term", () -> x.preanswer(1, n, false));
            Check.illegal("ask term", () -> x.ask(1, n, 0, 0));
            Check.illegal("ask last", () -> x.ask(1, 1, n, 0));
            Check.illegal("ask last term", () -> x.ask(1, 1, 0, n));
            Check.illegal("answer term", () -> x.answer(1, n, true));
            Check.illegal("go term", () -> x.go(1, n));
        }
        Check.due("nothing happened", x.state(1) + x.state(14) + x.state(16) + x.state(17), 0);
        x.ask(1, 1000000, 1000000, 1000000);
        Check.due("the greatest numbers are fine", x.state(1), 1000000);
        x.go(1, 1000000);
        Check.due("its own term may go beyond", x.state(1), 1000001);
    }
}
