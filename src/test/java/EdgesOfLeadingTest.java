/** The boundary cases of promises 9 and 14 to 19, each sentence by itself. */
public final class EdgesOfLeadingTest {
    private static final int MOST = 1000000;

    private EdgesOfLeadingTest() {
    }

    public static void main(String[] args) {
        promise9Numbers();
        promise9TermAndPeers();
        promise9Match();
        promise9Next();
        promise9Flying();
        promise9Refused();
        promise9Ack();
        promise9CommitsOnlyAbove();
        promise9CommitsOnlyOfTerm();
        promise9SendsSix();
        promise9SendsThemAsTheyAre();
        promise9SendsFour();
        promise9Probing();
        promise9GoAtLast();
        promise9StillAPeer();
        beatFallsBack();
        beatWithoutEntries();
        beatEndsHanding();
        leadsWith299();
        countsWith299();
        promise14NoneOne200();
        promise14Synced();
        promise14Stands();
        promise14Counts();
        promise15UpTo199();
        promise15Roles();
        promise15Values();
        promise15Dropped();
        promise16WaitsFor();
        promise16Round();
        promise16Refuses();
        promise17Sets();
        promise17Length();
        promise17Match();
        promise17AboveCommit();
        promise17WhereTheLastMembersWere();
        promise17LearnersLeft();
        promise18Sets();
        promise18Length();
        promise19Servers();
        promise19Match();
        promise19Roles();
        Check.end("EdgesOfLeadingTest");
    }

    private static void promise9Numbers() {
        LogServer x = new LogServer(0, 7, 0L);
        int[] bad = {-1, MOST + 1};
        for (int n : bad) {
            Check.illegal("term " + n, () -> x.appended(1, n, true, 0, 0));
            Check.illegal("number " + n, () -> x.appended(1, 0, true, n, 0));
            Check.illegal("number of a refusal " + n, () -> x.appended(1, 0, false, n, 0));
            Check.illegal("round " + n, () -> x.appended(1, 0, true, 0, n));
        }
        Check.outOfBounds("from -1", () -> x.appended(-1, 0, true, 0, 0));
        Check.outOfBounds("from itself", () -> x.appended(0, 0, true, 0, 0));
        Check.outOfBounds("from 7", () -> x.appended(7, 0, true, 0, 0));
        x.appended(6, 0, false, 0, 0);
        Check.due("all are 0", x.state(1), 0);
        x.appended(1, MOST, true, MOST, MOST);
        Check.due("all are 1000000", x.state(1), MOST);
        LogServer leads = Make.leader(0, 7, 1);
        leads.appended(1, 1, true, MOST, MOST);
        Check.due("the greatest round is taken", leads.peer(1, 5), MOST);
        leads.appended(2, 1, false, MOST, MOST);
        Check.due("also with a refusal", leads.peer(2, 5), MOST);
    }

    private static void promise9TermAndPeers() {
        LogServer x = Make.leader(0, 7, 1);
        x.tick(5);
        x.appended(1, 0, true, 1, 3);
        Check.due("TERM - 1: SEEN", x.peer(1, 6), 0);
        Check.due("TERM - 1: ACK", x.peer(1, 5), 0);
        x.appended(3, 1, true, 1, 3);
        Check.due("no peer: SEEN", x.peer(3, 6), 0);
        Check.due("no peer: MATCH", x.peer(3, 1), 0);
        x.appended(1, 1, true, 1, 3);
        Check.due("TERM, a peer: SEEN", x.peer(1, 6), 5);
        x.learners(8);
        x.sync();
        x.appended(3, 1, true, 1, 3);
        Check.due("a learner is a peer: MATCH", x.peer(3, 1), 1);
        x.appended(1, 2, true, 2, 3);
        Check.due("TERM + 1: it steps down", x.state(0), 0);
        Check.due("COMMIT stays", x.state(4), 1);
    }

    private static void promise9Match() {
        int[] numbers = {0, 1, 2, 3, 4, MOST};
        int[] match = {1, 1, 2, 3, 3, 3};
        for (int k = 0; k < numbers.length; k++) {
            LogServer x = leaderOf3();
            x.appended(1, 1, true, numbers[k], 1);
            Check.due("MATCH was 1, LAST is 3, told " + numbers[k], x.peer(1, 1), match[k]);
            Check.due("COMMIT", x.state(4), match[k]);
        }
    }

    /** Server 0 leads 0, 1, 2 in term 1 with LAST 3 on its disk; 1 has said that it has entry 1. */
    private static LogServer leaderOf3() {
        LogServer x = Make.leader(0, 7, 1);
        x.appended(1, 1, true, 1, 1);
        x.command(1);
        x.command(2);
        x.sync();
        return x;
    }

    private static void promise9Next() {
        LogServer x = leaderOf3();
        Check.due("NEXT of a peer to which all flies", x.peer(1, 0), 4);
        x.appended(1, 1, true, 2, 1);
        Check.due("NEXT does not fall", x.peer(1, 0), 4);
        x.appended(1, 1, true, MOST, 1);
        Check.due("NEXT is at most LAST + 1", x.peer(1, 0), 4);
        x.tick(10);
        x.tick(10);
        LogServer y = leaderOf3();
        Check.due("NEXT of a peer that is probed", y.peer(2, 0), 2);
        y.appended(2, 1, true, 2, 1);
        Check.due("NEXT is behind it, then what was sent", y.letter(0, 3), 2);
        LogServer z = leaderOf3();
        z.appended(2, 1, true, 3, 1);
        Check.due("NEXT is LAST + 1", z.peer(2, 0), 4);
    }

    private static void promise9Flying() {
        LogServer x = leaderOf3();
        Check.due("two fly", x.peer(1, 2), 2);
        x.appended(1, 1, true, 2, 1);
        Check.due("one less", x.peer(1, 2), 1);
        x.appended(1, 1, true, 3, 1);
        Check.due("one less", x.peer(1, 2), 0);
        x.appended(1, 1, true, 3, 1);
        Check.due("at least 0", x.peer(1, 2), 0);
        LogServer y = leaderOf3();
        y.appended(1, 1, false, 4, 1);
        Check.due("a refusal: none flies", y.peer(1, 2), 0);
    }

    private static void promise9Refused() {
        int[] hints = {0, 1, 2, 3, 4, 5, MOST};
        int[] next = {2, 2, 2, 3, 4, 4, 4};
        for (int k = 0; k < hints.length; k++) {
            LogServer x = leaderOf3();
            int went = x.state(16);
            x.appended(1, 1, false, hints[k], 1);
            String what = "MATCH 1, LAST 3, told " + hints[k];
            Check.due(what + ": PROBING", x.peer(1, 3), 1);
            Check.due(what + ": MATCH", x.peer(1, 1), 1);
            boolean sent = next[k] <= 3;
            Check.due(what + ": sent", x.state(16) - went, sent ? 1 : 0);
            Check.due(what + ": FLYING", x.peer(1, 2), sent ? 1 : 0);
            Check.due(what + ": NEXT is behind all", x.peer(1, 0), 4);
            if (sent) {
                Check.due(what + ": from NEXT on", x.letter(0, 3), next[k] - 1);
                Check.due(what + ": up to LAST", x.letter(0, 7), 4 - next[k]);
            }
        }
        LogServer x = leaderOf3();
        x.appended(2, 1, false, 0, 1);
        Check.due("0, when MATCH is 0", x.letter(0, 3), 0);
    }

    private static void promise9Ack() {
        LogServer x = Make.leader(0, 7, 1);
        int[] rounds = {1, 0, 1, 2, MOST, 5};
        int[] acks = {1, 1, 1, 2, MOST, MOST};
        for (int k = 0; k < rounds.length; k++) {
            x.appended(1, 1, k % 2 == 0, 1, rounds[k]);
            Check.due("ACK, round " + rounds[k], x.peer(1, 5), acks[k]);
        }
    }

    private static void promise9CommitsOnlyAbove() {
        LogServer x = leaderOf3();
        Check.due("COMMIT", x.state(4), 1);
        x.appended(2, 1, true, 1, 1);
        Check.due("N is COMMIT: nothing", x.state(4), 1);
        x.appended(2, 1, true, 2, 1);
        Check.due("N is COMMIT + 1", x.state(4), 2);
        Check.due("one is done", x.state(18), 1);
        x.appended(1, 1, true, 2, 1);
        Check.due("again nothing", x.state(18), 1);
    }

    private static void promise9CommitsOnlyOfTerm() {
        LogServer x = Make.withLog(0, 7, 1, 1);
        x.go(1, 1);
        x.answer(1, 2, true);
        x.sync();
        x.sync();
        x.appended(1, 2, true, 2, 1);
        Check.due("N is 2, of TERM - 1", x.state(4), 0);
        x.appended(1, 2, true, 3, 1);
        Check.due("N is 3, of TERM", x.state(4), 3);
        Check.due("those before are done too", x.state(18), 2);
    }

    private static void promise9SendsSix() {
        int[] commands = {4, 5, 6, 11, 12};
        int[] letters = {1, 1, 2, 2, 3};
        int[] inTheLast = {5, 6, 1, 6, 1};
        for (int k = 0; k < commands.length; k++) {
            LogServer x = Make.leader(0, 7, 1);
            for (int n = 0; n < commands[k]; n++) {
                x.command(n);
            }
            x.sync();
            x.tick(10);
            x.tick(10);
            // While 2 is probed, each APPENDED lets one letter go.
            int from = 0;
            for (int n = 1; n <= letters[k]; n++) {
                int count = n < letters[k] ? 6 : inTheLast[k];
                Check.due("letter " + n + " of " + letters[k] + ": before", x.letter(0, 3), from);
                Check.due("letter " + n + " of " + letters[k] + ": entries", x.letter(0, 7), count);
                int numbers = 8 + 3 * count;
                Check.due("its last number", x.letter(0, numbers - 1), from + count - 2);
                Check.outOfBounds("and no more", () -> x.letter(0, numbers));
                from += count;
                x.appended(2, 1, false, from + 1, 1);
            }
        }
    }

    private static void promise9SendsThemAsTheyAre() {
        LogServer x = new LogServer(0, 7, 0L);
        x.entry(1, 2, 11);
        x.entry(2, 0, 12);
        x.entry(3, 1, 7);
        x.append(1, 4, 0, 0, 0, 0);
        x.go(1, 4);
        x.answer(1, 5, true);
        x.sync();
        x.sync();
        x.appended(2, 5, false, 1, 1);
        Check.dueLetter("from the first on", x, 0, 2, 5, 5, 0, 0, 0, 1, 4, 1, 2, 11, 2, 0, 12, 3, 1, 7, 5, 0, 0);
        x.appended(2, 5, false, 3, 1);
        Check.dueLetter("from the third on", x, 0, 2, 5, 5, 2, 2, 0, 1, 2, 3, 1, 7, 5, 0, 0);
    }

    private static void promise9SendsFour() {
        LogServer x = Make.leader(0, 7, 1);
        x.appended(1, 1, true, 1, 1);
        for (int k = 1; k <= 4; k++) {
            x.command(k);
            Check.due("so many fly", x.peer(1, 2), k);
            Check.due("NEXT", x.peer(1, 0), k + 2);
        }
        x.command(5);
        Check.due("no fifth", x.peer(1, 2), 4);
        Check.due("NEXT stays", x.peer(1, 0), 6);
        x.sync();
        x.appended(1, 1, true, 2, 1);
        Check.due("one came back, one goes", x.peer(1, 2), 4);
        Check.due("NEXT", x.peer(1, 0), 7);
        x.appended(1, 1, true, 3, 1);
        Check.due("one came back, there is no more", x.peer(1, 2), 3);
        LogServer y = Make.leader(0, 7, 1);
        for (int k = 0; k < 25; k++) {
            y.command(k);
        }
        y.sync();
        int went = y.state(16);
        y.appended(1, 1, true, 1, 1);
        Check.due("four letters in one go", y.state(16) - went, 4);
        Check.due("with six entries each", y.peer(1, 0), 26);
        Check.due("LAST is not among them", y.state(8), 26);
    }

    private static void promise9Probing() {
        LogServer x = Make.leader(0, 7, 1);
        Check.due("one flies", x.peer(1, 2), 1);
        x.command(1);
        Check.due("no second while it is probed", x.peer(1, 2), 1);
        Check.due("NEXT", x.peer(1, 0), 2);
        x.sync();
        x.appended(1, 1, true, 1, 1);
        Check.due("PROBING", x.peer(1, 3), 0);
        Check.due("then the next", x.peer(1, 0), 3);
        x.command(2);
        Check.due("and a second", x.peer(1, 2), 2);
    }

    private static void promise9GoAtLast() {
        LogServer x = leaderOf3();
        x.hand(1);
        int went = x.state(16);
        x.appended(1, 1, true, 2, 1);
        Check.due("MATCH is LAST - 1: no GO", x.state(16), went);
        x.appended(2, 1, true, 3, 1);
        Check.due("another has LAST: no GO", x.state(16), went);
        x.appended(1, 1, true, 3, 1);
        Check.dueLetter("MATCH is LAST: GO", x, 0, 1, 9, 1);
        x.appended(1, 1, false, 3, 1);
        Check.dueLetter("a refusal too, MATCH stays", x, 0, 1, 9, 1);
        x.stored(1, 1, 9, 9, 1);
        Check.dueLetter("STORED too", x, 0, 1, 9, 1);
    }

    private static void promise9StillAPeer() {
        LogServer x = Make.leader(0, 7, 1);
        x.appended(1, 1, true, 1, 1);
        x.appended(2, 1, true, 1, 1);
        x.members(1);
        x.sync();
        x.appended(2, 1, true, 2, 1);
        Check.due("the change ends", x.state(9), 1);
        Check.due("no peers, no letters", x.sync(), 0);
        Check.due("it commits by itself", x.state(4), 3);
        LogServer y = Make.leader(0, 7, 1);
        y.appended(1, 1, true, 1, 1);
        y.appended(2, 1, true, 1, 1);
        y.members(6);
        y.sync();
        y.appended(2, 1, true, 2, 1);
        y.appended(1, 1, true, 2, 1);
        y.sync();
        y.appended(2, 1, true, 3, 1);
        int went = y.state(16);
        y.appended(1, 1, true, 3, 1);
        Check.due("it does not lead any more", y.state(0), 0);
        Check.due("so it sends nothing", y.state(16) + y.state(17), went);
    }

    private static void beatFallsBack() {
        LogServer x = leaderOf3();
        x.tick(10);
        Check.due("who answered since the last beat does not fall back: PROBING", x.peer(1, 3), 0);
        Check.due("FLYING", x.peer(1, 2), 2);
        Check.due("NEXT", x.peer(1, 0), 4);
        x.tick(10);
        Check.due("who did not falls back: PROBING", x.peer(1, 3), 1);
        Check.due("from MATCH + 1 on", x.letter(1, 3), 1);
        Check.due("FLYING", x.peer(1, 2), 1);
        LogServer idle = Make.leader(0, 7, 1);
        idle.appended(1, 1, true, 1, 1);
        idle.tick(10);
        idle.tick(10);
        Check.due("who is not FLYING does not fall back: PROBING", idle.peer(1, 3), 0);
        Check.due("NEXT", idle.peer(1, 0), 2);
        LogServer outside = Make.leader(0, 7, 1);
        outside.tick(10);
        Check.due("who is no peer gets nothing", outside.peer(3, 2), 0);
        Check.due("its NEXT stays", outside.peer(3, 0), 1);
    }

    private static void beatWithoutEntries() {
        LogServer x = Make.leader(0, 7, 1);
        x.appended(1, 1, true, 1, 1);
        x.appended(2, 1, true, 1, 1);
        int went = x.state(16);
        x.tick(10);
        Check.due("none to send: one without entries to each", x.state(16) - went, 2);
        Check.dueLetter("NEXT - 1 is before", x, 0, 2, 5, 1, 1, 1, 1, 2, 0);
        Check.due("that does not fly", x.peer(2, 2), 0);
        x.command(1);
        x.sync();
        went = x.state(16);
        x.appended(1, 1, false, 3, 2);
        x.tick(10);
        Check.due("NEXT is LAST + 1", x.letter(1, 3), 2);
        Check.due("without entries", x.letter(1, 7), 0);
        Check.due("1 to send: it goes, and nothing else", x.letter(0, 7), 1);
        Check.due("two letters", x.state(16) - went, 2);
        LogServer based = Make.leader(0, 3, 1);
        based.appended(1, 1, true, 1, 1);
        based.compact(5);
        based.sync();
        based.tick(10);
        Check.dueLetter("NEXT - 1 is BASE", based, 0, 1, 5, 1, 1, 1, 1, 2, 0);
    }

    private static void beatEndsHanding() {
        int[] ticks = {49, 50, 51};
        for (int n : ticks) {
            LogServer x = Make.leader(0, 7, 1);
            x.tick(20);
            x.hand(2);
            Check.due("rings", x.tick(n), true);
            Check.due("HANDING, set " + n + " ago", x.state(11), n > 50 ? -1 : 2);
            Check.due("a command then", x.command(1), n > 50 ? 0 : -1);
        }
        LogServer between = Make.leader(0, 7, 1);
        between.tick(5);
        between.hand(2);
        between.tick(45);
        between.tick(9);
        Check.due("54 ago, but it did not beat", between.state(11), 2);
        between.tick(1);
        Check.due("it did", between.state(11), -1);
        LogServer again = Make.leader(0, 7, 1);
        again.hand(2);
        again.tick(51);
        again.appended(1, 1, true, 1, 1);
        Check.due("a new one", again.hand(1), true);
        again.tick(50);
        Check.due("begins anew", again.state(11), 1);
    }

    private static void leadsWith299() {
        LogServer x = Make.grown(299);
        Check.due("299", x.state(8) - x.state(7), 299);
        x.tick(200);
        x.sync();
        Check.due("leads with 299", x.state(0), 3);
        Check.due("300", x.state(8), 300);
        LogServer y = Make.grown(300);
        int term = y.state(1);
        y.tick(200);
        Check.due("campaigns with 300", y.state(0), 2);
        y.sync();
        Check.due("does not lead", y.state(0), 0);
        Check.due("LEADER", y.state(3), -1);
        Check.due("TERM", y.state(1), term + 1);
        Check.due("LAST", y.state(8), 300);
        Check.due("clean", y.state(14), 0);
        Check.due("VOTES", y.state(10), 1);
        LogServer answered = Make.grown(300);
        answered.append(1, answered.state(1), 300, answered.log(300, 0), 300, 0);
        answered.compact(5);
        answered.sync();
        answered.tick(200);
        answered.sync();
        Check.due("behind a BASE it leads again", answered.state(0), 3);
        Check.due("LAST", answered.state(8), 301);
    }

    private static void countsWith299() {
        LogServer room = Make.grownJoint(299);
        Check.due("leads with 299", room.state(0), 3);
        room.sync();
        Check.due("the members are written as the 300th", room.state(8), 300);
        Check.due("NEW", room.state(9), 1);
        LogServer full = Make.grownJoint(300);
        Check.due("leads with 300", full.state(0), 3);
        full.sync();
        Check.due("COMMIT", full.state(4), 300);
        Check.due("they are not written", full.state(8), 300);
        Check.due("OLD and NEW", full.state(9), 129);
        Check.due("clean", full.state(14), 0);
        Check.due("leads on", full.state(0), 3);
        full.compact(5);
        Check.due("not by compact itself", full.state(9), 129);
        full.sync();
        Check.due("but when it counts next", full.state(9), 1);
    }

    private static void promise14NoneOne200() {
        LogServer none = new LogServer(0, 7, 0L);
        Check.due("none", none.sync(), 0);
        Check.due("went", none.state(16), 0);
        int[] counts = {1, 2, 199, 200, 201, 202, 260};
        for (int n : counts) {
            LogServer x = new LogServer(0, 7, 0L);
            x.ask(1, 1, 0, 0);
            for (int k = 1; k < n; k++) {
                x.preask(1 + k % 6, 1 + k, 0, 0);
            }
            int kept = Math.min(n, 200);
            Check.due("waiting, of " + n, x.state(17), kept);
            Check.due("none went", x.state(16), 0);
            Check.due("sync", x.sync(), kept);
            Check.due("none waits", x.state(17), 0);
            Check.due("went", x.state(16), kept);
            Check.due("the last of them", x.letter(0, 2), kept);
            Check.due("again", x.sync(), 0);
            x.preask(1, 500, 0, 0);
            Check.due("clean: the next goes at once", x.letter(0, 2), 500);
        }
        LogServer again = new LogServer(0, 7, 0L);
        for (int round = 0; round < 2; round++) {
            again.ask(1, 1 + round, 0, 0);
            for (int k = 0; k < 205; k++) {
                again.preask(1, 3 + k, 0, 0);
            }
            Check.due("200 once more", again.sync(), 200);
            Check.due("the first kept behind the last lost", again.letter(63, 2), 138);
        }
    }

    private static void promise14Synced() {
        LogServer x = new LogServer(0, 7, 0L);
        x.entry(1, 2, 5);
        x.append(1, 1, 0, 0, 0, 0);
        Check.due("SYNCED before", x.state(6), 0);
        Check.due("DIRTY before", x.state(14), 1);
        x.sync();
        Check.due("SYNCED", x.state(6), 1);
        Check.due("DIRTY", x.state(14), 0);
        x.sync();
        Check.due("SYNCED again", x.state(6), 1);
    }

    private static void promise14Stands() {
        LogServer alone = new LogServer(0, 1, 0L);
        alone.go(1, 0);
        Check.due("no vote before the sync", alone.state(10), 0);
        alone.sync();
        Check.due("it leads", alone.state(0), 3);
        Check.due("its EMPTY entry is not on disk", alone.state(6), 0);
        Check.due("nor is it counted", alone.state(4), 0);
        Check.due("dirty", alone.state(14), 1);
        alone.sync();
        Check.due("the next sync counts", alone.state(4), 1);
        LogServer follows = new LogServer(0, 1, 0L);
        follows.sync();
        Check.due("who follows does not vote", follows.state(10), 0);
        LogServer asks = new LogServer(0, 7, 0L);
        asks.tick(200);
        asks.sync();
        Check.due("who asks does not lead", asks.state(0), 1);
    }

    private static void promise14Counts() {
        LogServer x = Make.leader(0, 7, 1);
        x.command(1);
        x.appended(1, 1, true, 2, 1);
        Check.due("a majority without its disk: no", x.state(4), 1);
        int went = x.state(16);
        int letters = x.sync();
        Check.due("with it", x.state(4), 2);
        Check.due("what went is what was told", x.state(16) - went, letters);
        LogServer joint = Make.leader(0, 3, 1);
        joint.appended(1, 1, true, 1, 1);
        joint.members(3);
        joint.appended(1, 1, true, 2, 1);
        Check.due("one waits", joint.sync(), 1);
        Check.due("the sync counts and writes", joint.state(8), 3);
        Check.due("what it sends then waits", joint.state(17), 1);
    }

    private static void promise15UpTo199() {
        LogServer x = leaderAlone(199);
        Check.due("LAST - BASE is 199", x.state(8) - x.state(7), 199);
        Check.due("a command", x.command(5), 0);
        Check.due("LAST - BASE is 200", x.state(8) - x.state(7), 200);
        Check.due("none", x.command(5), -1);
        Check.due("LAST stays", x.state(8), 200);
        Check.due("no call", x.state(19), 1);
        LogServer y = leaderAlone(201);
        Check.due("LAST - BASE is 201", y.command(5), -1);
        y.sync();
        y.compact(5);
        y.sync();
        Check.due("LAST - BASE is 0", y.state(8) - y.state(7), 0);
        Check.due("a command again", y.command(5), 0);
        LogServer based = leaderAlone(201);
        based.sync();
        based.compact(5);
        for (int k = 0; k < 200; k++) {
            Check.due("up to 199 behind BASE", based.command(k), k);
        }
        Check.due("200 behind BASE", based.command(5), -1);
        Check.due("LAST", based.state(8), 401);
    }

    /** Server 0 leads itself alone; the log has so many entries, its EMPTY one, the last, being not on its disk. */
    private static LogServer leaderAlone(int length) {
        LogServer x = Make.follower(0, 1, length - 1);
        x.tick(200);
        x.sync();
        Check.due("leads", x.state(0), 3);
        return x;
    }

    private static void promise15Roles() {
        LogServer x = new LogServer(0, 1, 0L);
        Check.due("follows", x.command(1), -1);
        x.tick(200);
        Check.due("stands", x.command(1), -1);
        x.sync();
        Check.due("leads", x.command(1), 0);
        x.answer(1, 9, false);
        Check.due("led", x.command(1), -1);
        Check.due("one call in all", x.state(19), 1);
        LogServer asks = States.asks();
        Check.due("asks", asks.command(1), -1);
        LogServer hands = Make.leader(0, 7, 1);
        hands.hand(1);
        Check.due("hands over", hands.command(1), -1);
        hands.tick(51);
        Check.due("handed over too long", hands.command(1), 0);
    }

    private static void promise15Values() {
        int[] values = {0, -1, Integer.MAX_VALUE, Integer.MIN_VALUE};
        LogServer x = Make.leader(0, 1);
        for (int k = 0; k < values.length; k++) {
            x.command(values[k]);
            Check.dueEntry("any value", x, k + 2, 1, 2, values[k]);
        }
        x.sync();
        for (int k = 0; k < values.length; k++) {
            Check.due("done", x.done(3 - k, 1), values[k]);
            Check.due("answered", x.call(k), 1);
        }
    }

    private static void promise15Dropped() {
        LogServer x = Make.leader(0, 7, 1);
        int first = x.command(1);
        int second = x.command(2);
        x.sync();
        x.appended(1, 1, true, 2, 1);
        Check.due("up to the number: answered", x.call(first), 1);
        Check.due("one below the number: waits", x.call(second), 0);
        x.answer(1, 2, false);
        Check.due("what was answered stays so", x.call(first), 1);
        Check.due("what waits is dropped", x.call(second), 2);
        x.append(1, 2, 3, 1, 3, 0);
        Check.due("it is done all the same", x.done(0, 1), 2);
        Check.due("but stays dropped", x.call(second), 2);
    }

    private static void promise16WaitsFor() {
        LogServer x = Make.withLog(0, 7, 1, 1);
        x.append(1, 1, 2, 1, 2, 0);
        x.go(1, 1);
        x.answer(1, 2, true);
        x.sync();
        Check.due("COMMIT is of TERM - 1: FIRST", x.callFor(x.read()), 3);
        x.sync();
        x.command(5);
        x.sync();
        Check.due("still FIRST, not LAST", x.callFor(x.read()), 3);
        x.appended(1, 2, true, 3, 1);
        Check.due("COMMIT is FIRST, of TERM", x.callFor(x.read()), 3);
        x.appended(1, 2, true, 4, 1);
        Check.due("COMMIT behind FIRST", x.callFor(x.read()), 4);
        LogServer snapshot = Make.withSnapshot(0, 9, 3, 1, 10);
        snapshot.tick(200);
        snapshot.sync();
        Check.due("COMMIT is BASE, of TERM - 1: FIRST", snapshot.callFor(snapshot.read()), 10);
        snapshot.sync();
        snapshot.compact(5);
        Check.due("COMMIT is BASE, of TERM", snapshot.callFor(snapshot.read()), 10);
        Check.due("BASE", snapshot.state(7), 10);
    }

    private static void promise16Round() {
        LogServer x = Make.leader(0, 7, 1);
        x.appended(1, 1, true, 1, 1);
        int call = x.read();
        x.appended(1, 1, true, 1, 1);
        Check.due("ROUND is not enough", x.call(call), 0);
        x.appended(1, 1, true, 1, 2);
        Check.due("nor is it itself alone that is behind", x.call(call), 0);
        x.tick(9);
        Check.due("no beat yet", x.call(call), 0);
        x.tick(1);
        Check.due("ROUND + 1", x.call(call), 1);
        int first = x.read();
        x.tick(10);
        int second = x.read();
        x.appended(2, 1, true, 1, 3);
        Check.due("round 3 was asked for", x.call(first), 1);
        Check.due("round 4 is", x.call(second), 0);
        x.tick(10);
        x.appended(2, 1, true, 1, 4);
        Check.due("and came", x.call(second), 1);
        LogServer zero = Make.leader(0, 7, 1);
        int early = zero.read();
        zero.tick(10);
        zero.appended(1, 1, true, 0, 2);
        Check.due("the round is there, APPLIED is one below", zero.call(early), 0);
        zero.appended(1, 1, true, 1, 0);
        Check.due("APPLIED too", zero.call(early), 1);
    }

    private static void promise16Refuses() {
        Check.due("follows", new LogServer(0, 7, 0L).read(), -1);
        Check.due("asks", States.asks().read(), -1);
        Check.due("stands", States.stands().read(), -1);
        LogServer hands = Make.leader(0, 7, 1);
        hands.hand(1);
        Check.due("hands over", hands.read(), -1);
        hands.tick(51);
        Check.due("handed over too long", hands.read(), 0);
        LogServer full = leaderAlone(201);
        Check.due("however long the log is", full.read(), 0);
    }

    private static void promise17Sets() {
        int[] bad = {Integer.MIN_VALUE, -1, 0, 128, 129, Integer.MAX_VALUE};
        for (int set : bad) {
            LogServer x = Make.leader(0, 127, 1, 2, 3);
            Check.due("members(" + set + ")", x.members(set), false);
            Check.due("nothing is written", x.state(8), 1);
            Check.due("clean", x.state(14), 0);
        }
        int[] good = {1, 2, 64, 126, 127};
        for (int set : good) {
            LogServer x = Make.leader(0, 127, 1, 2, 3);
            Check.due("members(" + set + ")", x.members(set), true);
            Check.due("code", x.state(9), 127 + 128 * set);
            Check.dueEntry("written", x, 2, 1, 1, 127 + 128 * set);
        }
        LogServer x = Make.leader(0, 63, 1, 2, 3);
        Check.due("one who is no member", x.members(64), false);
        Check.due("and others who are", x.members(127), false);
        Check.due("without it", x.members(63), true);
    }

    private static void promise17Length() {
        LogServer at = leaderAlone(199);
        at.sync();
        Check.due("LAST - BASE is 199", at.members(1), true);
        LogServer full = leaderAlone(200);
        full.sync();
        Check.due("LAST - BASE is 200", full.members(1), false);
        Check.due("LAST", full.state(8), 200);
        full.compact(5);
        Check.due("behind a BASE", full.members(1), true);
    }

    private static void promise17Match() {
        LogServer x = Make.leader(0, 1);
        x.learners(6);
        x.sync();
        Check.due("COMMIT", x.state(4), 2);
        x.appended(1, 1, true, 1, 1);
        Check.due("MATCH is COMMIT - 1", x.members(3), false);
        x.appended(2, 1, true, 2, 1);
        Check.due("of one of two", x.members(7), false);
        Check.due("MATCH of the other is COMMIT", x.members(5), true);
        LogServer above = Make.leader(0, 3, 1);
        above.appended(1, 1, true, 1, 1);
        above.learners(4);
        above.sync();
        above.appended(1, 1, true, 2, 1);
        above.command(5);
        above.sync();
        above.appended(2, 1, true, 3, 1);
        Check.due("COMMIT", above.state(4), 2);
        Check.due("MATCH is COMMIT + 1", above.members(7), true);
        LogServer voter = Make.leader(0, 7, 1);
        voter.appended(1, 1, true, 1, 1);
        Check.due("one of OLD needs no MATCH", voter.members(5), true);
    }

    private static void promise17AboveCommit() {
        LogServer x = Make.leader(0, 7, 1);
        Check.due("the snapshot's members are never above COMMIT", x.members(7), true);
        LogServer y = Make.leader(0, 7, 1);
        y.learners(8);
        y.sync();
        Check.due("the last MEMBERS is COMMIT + 2", y.members(3), false);
        y.appended(1, 1, true, 1, 1);
        Check.due("COMMIT + 1", y.members(3), false);
        Check.due("learners neither", y.learners(0), false);
        y.appended(1, 1, true, 2, 1);
        Check.due("COMMIT", y.members(3), true);
        LogServer joint = Make.withMembers(0, 129);
        joint.append(6, 1, 1, 1, 1, 0);
        joint.go(6, 1);
        joint.sync();
        Check.due("leads, and the last MEMBERS is COMMIT", joint.state(4), 1);
        Check.due("but NEW is not empty", joint.members(1), false);
        Check.due("for learners too", joint.learners(0), false);
        Check.due("LAST", joint.state(8), 2);
    }

    private static void promise17WhereTheLastMembersWere() {
        LogServer cut = Make.withLog(0, 7, 1, 1);
        cut.entry(1, 1, 3);
        cut.append(1, 1, 2, 1, 0, 0);
        cut.entry(2, 2, 5);
        cut.append(1, 2, 1, 1, 0, 0);
        lead(cut);
        Check.due("they were cut: those of BASE are not above COMMIT", cut.members(7), true);
        LogServer left = Make.withLog(0, 7, 1, 1);
        left.entry(1, 1, 3);
        left.append(1, 1, 2, 1, 0, 0);
        lead(left);
        Check.due("they are there: they are above COMMIT", left.members(3), false);
        LogServer snapshot = Make.withLog(0, 7, 1, 1);
        snapshot.entry(1, 1, 3);
        snapshot.append(1, 1, 2, 1, 0, 0);
        snapshot.describe(3, 1, 7, 5);
        snapshot.piece(1, 1, 0, 5, 0);
        lead(snapshot);
        Check.due("a snapshot has them", snapshot.members(7), true);
        LogServer behind = Make.withLog(0, 7, 1, 1);
        behind.entry(1, 1, 3);
        behind.append(1, 1, 2, 1, 0, 0);
        behind.describe(2, 1, 7, 5);
        behind.piece(1, 1, 0, 5, 0);
        lead(behind);
        Check.due("they are behind a snapshot", behind.members(3), false);
    }

    /** Server 0 is made leader by the vote of 1. */
    private static void lead(LogServer x) {
        x.go(1, x.state(1));
        x.answer(1, x.state(1), true);
        x.sync();
        Check.due("leads", x.state(0), 3);
    }

    private static void promise17LearnersLeft() {
        LogServer x = Make.leader(0, 1);
        x.learners(0b1111110);
        x.sync();
        for (int s = 1; s < 7; s++) {
            x.appended(s, 1, true, 2, 1);
        }
        Check.due("one of six becomes a voter", x.members(0b1000001), true);
        Check.due("five learn on", x.state(9), 1 + 128 * 65 + 16384 * 62);
        LogServer all = Make.leader(0, 1);
        all.learners(0b1111110);
        all.sync();
        for (int s = 1; s < 7; s++) {
            all.appended(s, 1, true, 2, 1);
        }
        Check.due("all do", all.members(127), true);
        Check.due("none learns on", all.state(9), 1 + 128 * 127);
    }

    private static void promise18Sets() {
        int[] bad = {Integer.MIN_VALUE, -1, 128, 130, 1, 3, 127, Integer.MAX_VALUE};
        for (int set : bad) {
            LogServer x = Make.leader(0, 1);
            Check.due("learners(" + set + ")", x.learners(set), false);
            Check.due("nothing is written", x.state(8), 1);
            Check.due("clean", x.state(14), 0);
        }
        int[] good = {0, 2, 64, 126};
        for (int set : good) {
            LogServer x = Make.leader(0, 1);
            Check.due("learners(" + set + ")", x.learners(set), true);
            Check.due("code", x.state(9), 1 + 16384 * set);
            Check.due("a letter to each", x.state(17), Integer.bitCount(set));
        }
        LogServer all = Make.leader(0, 127, 1, 2, 3);
        Check.due("none", all.learners(0), true);
        for (int s = 0; s < 7; s++) {
            Check.due("all are of OLD", Make.leader(0, 127, 1, 2, 3).learners(1 << s), false);
        }
    }

    private static void promise18Length() {
        LogServer at = leaderAlone(199);
        at.sync();
        Check.due("LAST - BASE is 199", at.learners(2), true);
        LogServer full = leaderAlone(200);
        full.sync();
        Check.due("LAST - BASE is 200", full.learners(2), false);
        Check.due("LAST", full.state(8), 200);
        LogServer hands = Make.leader(0, 7, 1);
        hands.hand(1);
        Check.due("hands over", hands.learners(8), false);
        hands.tick(51);
        Check.due("handed over too long", hands.learners(8), true);
        Check.due("asks", States.asks().learners(64), false);
        Check.due("stands", States.stands().learners(64), false);
    }

    private static void promise19Servers() {
        int[] bad = {Integer.MIN_VALUE, -1, 0, 3, 5, 7, 8, 32, 33, Integer.MAX_VALUE};
        for (int s : bad) {
            LogServer x = Make.leader(0, 7, 1);
            x.learners(32);
            x.sync();
            Check.due("hand(" + s + ")", x.hand(s), false);
            Check.due("HANDING", x.state(11), -1);
        }
        int[] good = {1, 2};
        for (int s : good) {
            LogServer x = Make.leader(0, 7, 1);
            Check.due("hand(" + s + ")", x.hand(s), true);
            Check.due("HANDING", x.state(11), s);
        }
        Check.due("the greatest server", Make.leader(0, 127, 1, 2, 3).hand(6), true);
        Check.due("the least", Make.leader(6, 127, 1, 2, 3).hand(0), true);
        Check.due("itself", Make.leader(6, 127, 1, 2, 3).hand(6), false);
        LogServer joint = Make.leader(0, 3, 1);
        joint.appended(1, 1, true, 1, 1);
        joint.learners(12);
        joint.sync();
        joint.appended(1, 1, true, 2, 1);
        joint.appended(2, 1, true, 2, 1);
        joint.members(5);
        Check.due("a learner is no voter", joint.hand(3), false);
        Check.due("one of NEW alone is", joint.hand(2), true);
    }

    private static void promise19Match() {
        LogServer at = leaderOf3();
        at.appended(1, 1, true, 3, 1);
        at.hand(1);
        Check.dueLetter("MATCH is LAST: GO", at, 0, 1, 9, 1);
        LogServer below = leaderOf3();
        below.appended(1, 1, true, 2, 1);
        int went = below.state(16);
        below.hand(1);
        Check.due("MATCH is LAST - 1: it sends, but all flies", below.state(16), went);
        LogServer dirty = Make.leader(0, 7, 1);
        dirty.appended(1, 1, true, 1, 1);
        dirty.command(1);
        dirty.appended(1, 1, true, 2, 1);
        dirty.hand(1);
        Check.due("GO waits while it is dirty", dirty.state(17), 2);
        dirty.sync();
        Check.dueLetter("and goes at the sync", dirty, 0, 1, 9, 1);
    }

    private static void promise19Roles() {
        Check.due("follows", new LogServer(0, 7, 0L).hand(1), false);
        Check.due("asks", States.asks().hand(1), false);
        Check.due("stands", States.stands().hand(1), false);
        LogServer x = Make.leader(0, 7, 1);
        Check.due("leads", x.hand(1), true);
        Check.due("hands over: to the same", x.hand(1), false);
        Check.due("hands over: to another", x.hand(2), false);
        x.tick(50);
        Check.due("50 ago", x.hand(2), false);
        x.tick(10);
        Check.due("60 ago", x.hand(2), true);
        Check.due("HANDING", x.state(11), 2);
    }
}
