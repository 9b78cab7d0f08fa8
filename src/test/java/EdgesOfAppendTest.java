/** The boundary cases of promises 7 and 8, each sentence by itself. */
public final class EdgesOfAppendTest {
    private static final int MOST = 1000000;

    private EdgesOfAppendTest() {
    }

    public static void main(String[] args) {
        promise7Six();
        promise7Terms();
        promise7Kinds();
        promise7Codes();
        promise7Values();
        promise7AreLeft();
        promise8Numbers();
        promise8TermsOfEntries();
        promise8NoneAreLeft();
        promise8LetterTerm();
        promise8WhileItLeads();
        promise8NumberBefore();
        promise8NumberBeforeAtTheBase();
        promise8LeastNumberOfATerm();
        promise8AnotherTermUpToCommit();
        promise8AnotherTermAtTheBase();
        promise8NoneOneSix();
        promise8Cut();
        promise8Synced();
        promise8AtLeastTheBase();
        promise8Commit();
        promise8UpTo250();
        promise8UpTo250BehindABase();
        promise8Beyond250();
        promise8Beyond250IsNotToldAtAll();
        promise8Alarm();
        Check.end("EdgesOfAppendTest");
    }

    private static void promise7Six() {
        LogServer x = new LogServer(0, 7, 0L);
        for (int k = 1; k <= 5; k++) {
            Check.due("how many", x.entry(1, 2, k), k);
        }
        Check.due("the sixth", x.entry(1, 2, 6), 6);
        Check.illegalState("a seventh", () -> x.entry(1, 2, 7));
        Check.illegalState("again", () -> x.entry(1, 2, 7));
        x.append(1, 1, 0, 0, 0, 0);
        Check.due("six are written", x.state(8), 6);
        Check.dueEntry("the sixth is the last", x, 6, 1, 2, 6);
        Check.due("it begins anew", x.entry(1, 2, 8), 1);
    }

    private static void promise7Terms() {
        LogServer x = new LogServer(0, 7, 0L);
        Check.illegal("-1", () -> x.entry(-1, 2, 0));
        Check.due("0", x.entry(0, 2, 0), 1);
        Check.due("1000000", x.entry(MOST, 2, 0), 2);
        Check.illegal("1000001", () -> x.entry(MOST + 1, 2, 0));
        Check.due("refused ones do not count", x.entry(MOST, 2, 0), 3);
        x.append(1, MOST, 0, 0, 0, 0);
        Check.due("the least term", x.log(1, 0), 0);
        Check.due("the greatest", x.log(2, 0), MOST);
    }

    private static void promise7Kinds() {
        LogServer x = new LogServer(0, 7, 0L);
        Check.illegal("-1", () -> x.entry(0, -1, 1));
        Check.due("EMPTY", x.entry(0, 0, 1), 1);
        Check.due("MEMBERS", x.entry(0, 1, 1), 2);
        Check.due("COMMAND", x.entry(0, 2, 1), 3);
        Check.illegal("3", () -> x.entry(0, 3, 1));
        Check.illegal("the greatest", () -> x.entry(0, Integer.MAX_VALUE, 1));
        Check.illegal("the least", () -> x.entry(0, Integer.MIN_VALUE, 1));
    }

    private static void promise7Codes() {
        int[] codes = {1, 127, 64, 129, 1 + 128 * 127, 127 + 128 * 127, 1 + 16384 * 2, 1 + 16384 * 126,
            1 + 128 * 2 + 16384 * 124, 64 + 16384 * 63, 126 + 128 * 126 + 16384, 1 + 128 + 16384 * 126};
        for (int code : codes) {
            LogServer x = new LogServer(0, 7, 0L);
            Check.due("code " + code, x.entry(0, 1, code), 1);
            x.append(1, 0, 0, 0, 0, 0);
            Check.due("are the members", x.state(9), code);
        }
        int[] none = {0, 128, 128 * 127, 16384 * 2, 128 + 16384 * 2, 1 + 16384, 127 + 16384 * 64,
            1 + 128 * 2 + 16384 * 2, 1 + 128 * 64 + 16384 * 64, 127 + 128 * 127 + 16384 * 127,
            1 + 16384 * 128, 1 << 21, (1 << 21) + 1, (1 << 28) + 1, (1 << 30) + 1, -1, -127,
            Integer.MIN_VALUE, Integer.MIN_VALUE + 1, Integer.MAX_VALUE};
        LogServer x = new LogServer(0, 7, 0L);
        for (int code : none) {
            Check.illegal("no code " + code, () -> x.entry(0, 1, code));
        }
        Check.due("none of these counts", x.entry(0, 0, 0), 1);
    }

    private static void promise7Values() {
        int[] values = {0, -1, Integer.MIN_VALUE, Integer.MAX_VALUE, 1 << 21};
        for (int value : values) {
            LogServer x = new LogServer(0, 7, 0L);
            x.entry(0, 0, value);
            x.entry(0, 2, value);
            x.append(1, 0, 0, 0, 2, 0);
            Check.dueEntry("EMPTY has any value", x, 1, 0, 0, value);
            Check.dueEntry("COMMAND has any value", x, 2, 0, 2, value);
            Check.due("and is done with it", x.done(0, 1), value);
        }
    }

    private static void promise7AreLeft() {
        LogServer x = new LogServer(0, 7, 0L);
        x.entry(0, 2, 1);
        x.tick(200);
        x.preask(1, 9, 9, 9);
        x.ask(1, 1, 9, 9);
        x.describe(3, 0, 7, 9);
        x.piece(1, 1, 0, 1, 0);
        x.sync();
        x.restart();
        Check.due("other calls leave what was told", x.entry(0, 2, 2), 2);
    }

    private static void promise8Numbers() {
        LogServer x = new LogServer(0, 7, 0L);
        x.append(6, 0, 0, 0, 0, 0);
        Check.dueLetter("all are 0", x, 0, 6, 6, 0, 1, 0, 0);
        Check.outOfBounds("from -1", () -> x.append(-1, 0, 0, 0, 0, 0));
        Check.outOfBounds("from 7", () -> x.append(7, 0, 0, 0, 0, 0));
        Check.outOfBounds("from itself", () -> x.append(0, 0, 0, 0, 0, 0));
        int[] bad = {-1, MOST + 1};
        for (int n : bad) {
            Check.illegal("term " + n, () -> x.append(1, n, 0, 0, 0, 0));
            Check.illegal("before " + n, () -> x.append(1, 0, n, 0, 0, 0));
            Check.illegal("its term " + n, () -> x.append(1, 0, 0, n, 0, 0));
            Check.illegal("commit " + n, () -> x.append(1, 0, 0, 0, n, 0));
            Check.illegal("round " + n, () -> x.append(1, 0, 0, 0, 0, n));
        }
        Check.due("no letters", x.state(16) + x.state(17), 1);
        x.append(1, MOST, MOST, MOST, MOST, MOST);
        x.sync();
        Check.dueLetter("all are 1000000", x, 0, 1, 6, MOST, 0, 1, MOST);
        x.append(1, MOST, 0, 0, MOST, MOST);
        Check.due("COMMIT told beyond the log", x.state(4), 0);
    }

    private static void promise8TermsOfEntries() {
        LogServer x = Make.withLog(0, 7, 2);
        x.entry(4, 2, 1);
        Check.illegal("one above the letter's term", () -> x.append(1, 3, 1, 2, 0, 0));
        x.entry(1, 2, 1);
        Check.illegal("one below that of the number before", () -> x.append(1, 3, 1, 2, 0, 0));
        x.entry(3, 2, 1);
        x.entry(2, 2, 1);
        Check.illegal("one below that of the entry before", () -> x.append(1, 3, 1, 2, 0, 0));
        Make.tell(x, 5, 3);
        x.entry(4, 2, 1);
        Check.illegal("the sixth above the letter's", () -> x.append(1, 3, 1, 2, 0, 0));
        Make.tell(x, 5, 3);
        x.entry(2, 2, 1);
        Check.illegal("the sixth below the fifth", () -> x.append(1, 3, 1, 2, 0, 0));
        Check.due("TERM stays", x.state(1), 2);
        Check.due("LAST stays", x.state(8), 1);
        x.entry(2, 2, 1);
        x.entry(2, 2, 1);
        x.entry(3, 2, 1);
        x.append(1, 3, 1, 2, 0, 0);
        Check.due("that of the number before, the same, the letter's", x.state(8), 4);
        x.append(1, 3, 1, 9, 0, 0);
        x.sync();
        Check.dueLetter("without entries the term before may be above", x, 0, 1, 6, 3, 0, 1, 0);
        x.entry(3, 2, 1);
        Check.illegal("a first one below it", () -> x.append(1, 3, 1, 4, 0, 0));
    }

    private static void promise8NoneAreLeft() {
        LogServer x = new LogServer(0, 7, 0L);
        Make.tell(x, 6, 1);
        Check.outOfBounds("a wrong sender", () -> x.append(0, 1, 0, 0, 0, 0));
        Check.due("none left", x.entry(1, 2, 1), 1);
        Check.illegal("a wrong number", () -> x.append(1, -1, 0, 0, 0, 0));
        Check.due("none left", x.entry(2, 2, 1), 1);
        Check.illegal("a wrong entry", () -> x.append(1, 1, 0, 0, 0, 0));
        Check.due("none left", x.entry(1, 2, 1), 1);
        x.append(1, 1, 9, 0, 0, 0);
        Check.due("none left, when it refuses", x.entry(1, 2, 1), 1);
        x.append(1, 1, 0, 0, 0, 0);
        x.append(1, 1, 1, 1, 0, 0);
        Check.due("none left, when it took them", x.state(8), 1);
        LogServer leads = Make.leader(0, 7, 1);
        leads.entry(1, 2, 1);
        leads.append(1, 1, 1, 1, 0, 0);
        Check.due("none left, when it leads", leads.entry(1, 2, 1), 1);
    }

    private static void promise8LetterTerm() {
        LogServer below = Make.withLog(0, 7, 5);
        below.tick(20);
        int alarm = below.state(12);
        below.append(2, 4, 1, 5, 1, 7);
        Check.dueLetter("TERM - 1", below, 0, 2, 6, 5, 0, 0, 7);
        Check.due("COMMIT stays", below.state(4), 0);
        Check.due("LEADER stays", below.state(3), 1);
        Check.due("the alarm stays", below.state(12), alarm);
        below.tick(30);
        below.preask(2, 6, 9, 9);
        Check.due("nor was a leader heard", below.letter(0, 3), 1);
        LogServer at = Make.withLog(0, 7, 5);
        at.append(2, 5, 1, 5, 1, 7);
        Check.dueLetter("TERM", at, 0, 2, 6, 5, 1, 1, 7);
        Check.due("LEADER", at.state(3), 2);
        LogServer above = Make.withLog(0, 7, 5);
        above.append(2, 6, 1, 5, 1, 7);
        Check.due("TERM + 1 is a write", above.state(17), 1);
        above.sync();
        Check.dueLetter("TERM + 1", above, 0, 2, 6, 6, 1, 1, 7);
    }

    private static void promise8WhileItLeads() {
        LogServer x = Make.leader(0, 7, 1);
        int went = x.state(16);
        x.entry(1, 2, 1);
        x.append(1, 1, 1, 1, 1, 1);
        Check.due("TERM: nothing", x.state(16) + x.state(17), went);
        Check.due("LAST", x.state(8), 1);
        Check.due("the alarm stays", x.state(12), 10);
        x.append(1, 0, 0, 0, 0, 3);
        Check.dueLetter("TERM - 1", x, 0, 1, 6, 1, 0, 0, 3);
        Check.due("leads on", x.state(0), 3);
        x.append(1, 2, 1, 1, 1, 4);
        x.sync();
        Check.dueLetter("TERM + 1", x, 0, 1, 6, 2, 1, 1, 4);
        Check.due("follows", x.state(0), 0);
    }

    private static void promise8NumberBefore() {
        LogServer empty = new LogServer(0, 7, 0L);
        empty.append(1, 0, 1, 0, 0, 1);
        Check.dueLetter("LAST + 1 of an empty log", empty, 0, 1, 6, 0, 0, 1, 1);
        empty.append(1, 0, 0, 0, 0, 2);
        Check.dueLetter("LAST of an empty log", empty, 0, 1, 6, 0, 1, 0, 2);
        LogServer x = Make.withLog(0, 7, 1, 1, 1);
        x.append(1, 1, 4, 1, 0, 1);
        Check.dueLetter("LAST + 1", x, 0, 1, 6, 1, 0, 4, 1);
        x.append(1, 1, 3, 1, 0, 2);
        Check.dueLetter("LAST", x, 0, 1, 6, 1, 1, 3, 2);
        x.append(1, 1, 2, 1, 0, 3);
        Check.dueLetter("LAST - 1", x, 0, 1, 6, 1, 1, 2, 3);
        x.append(1, 1, 3, 0, 0, 4);
        Check.dueLetter("LAST of another term", x, 0, 1, 6, 1, 0, 1, 4);
    }

    private static void promise8NumberBeforeAtTheBase() {
        LogServer bare = Make.withSnapshot(0, 9, 3, 7, 10);
        bare.append(1, 3, 10, 3, 0, 1);
        Check.dueLetter("LAST + 1, LAST being BASE", bare, 0, 1, 6, 3, 0, 10, 1);
        bare.append(1, 3, 9, 3, 0, 2);
        Check.dueLetter("BASE", bare, 0, 1, 6, 3, 1, 9, 2);
        bare.append(1, 3, 9, 2, 0, 3);
        Check.dueLetter("BASE of another term", bare, 0, 1, 6, 3, 0, 10, 3);
        bare.append(1, 3, 8, 2, 0, 4);
        Check.dueLetter("BASE - 1, whatever its term", bare, 0, 1, 6, 3, 1, 9, 4);
        bare.append(1, 3, 0, 2, 0, 5);
        Check.dueLetter("0, whatever its term", bare, 0, 1, 6, 3, 1, 9, 5);
        Make.tell(bare, 2, 3);
        bare.append(1, 3, 9, 3, 0, 6);
        bare.sync();
        bare.append(1, 3, 10, 2, 0, 7);
        Check.dueLetter("BASE + 1 of another term", bare, 0, 1, 6, 3, 0, 10, 7);
        bare.append(1, 3, 9, 2, 0, 8);
        Check.dueLetter("BASE of another term, before entries", bare, 0, 1, 6, 3, 0, 10, 8);
    }

    private static void promise8LeastNumberOfATerm() {
        LogServer x = Make.withLog(0, 7, 1, 1, 2, 2, 2, 3);
        int[] first = {1, 1, 3, 3, 3, 6};
        for (int p = 1; p <= 6; p++) {
            x.append(1, 3, p, 9, 0, p);
            Check.dueLetter("before " + p, x, 0, 1, 6, 3, 0, first[p - 1], p);
        }
        x.append(1, 3, 6, 3, 3, 7);
        x.compact(5);
        x.sync();
        x.append(1, 3, 5, 9, 0, 8);
        Check.dueLetter("BASE has this term too, but the least is above it", x, 0, 1, 6, 3, 0, 4, 8);
        x.append(1, 3, 4, 9, 0, 9);
        Check.dueLetter("BASE + 1", x, 0, 1, 6, 3, 0, 4, 9);
    }

    private static void promise8AnotherTermUpToCommit() {
        LogServer at = committed3of5();
        int went = at.state(16);
        at.entry(2, 2, 9);
        at.append(2, 2, 2, 1, 5, 1);
        at.sync();
        Check.due("COMMIT: no letter", at.state(16), went);
        Check.due("nothing is cut", at.state(8), 5);
        Check.due("COMMIT stays", at.state(4), 3);
        Check.due("TERM is taken", at.state(1), 2);
        Check.due("LEADER too", at.state(3), 2);
        LogServer behind = committed3of5();
        behind.entry(2, 2, 9);
        behind.append(2, 2, 3, 1, 3, 1);
        behind.sync();
        Check.dueLetter("COMMIT + 1", behind, 0, 2, 6, 2, 1, 4, 1);
        Check.due("the rest is cut", behind.state(8), 4);
        LogServer later = committed3of5();
        later.entry(1, 2, 9);
        later.entry(2, 2, 9);
        later.append(2, 2, 1, 1, 3, 1);
        later.sync();
        Check.due("the second one is COMMIT", later.state(16), went);
        LogServer mixed = committed3of5();
        mixed.entry(1, 2, 9);
        mixed.entry(1, 2, 9);
        mixed.entry(2, 2, 9);
        mixed.append(2, 2, 1, 1, 3, 1);
        mixed.sync();
        Check.dueLetter("the third one is COMMIT + 1", mixed, 0, 2, 6, 2, 1, 4, 1);
    }

    /** Five entries of term 1, three of them committed; not dirty. */
    private static LogServer committed3of5() {
        LogServer x = Make.withLog(0, 7, 1, 1, 1, 1, 1);
        x.append(1, 1, 5, 1, 3, 0);
        return x;
    }

    private static void promise8AnotherTermAtTheBase() {
        LogServer at = Make.withSnapshot(0, 9, 3, 7, 10);
        int went = at.state(16);
        at.entry(2, 2, 1);
        at.append(1, 3, 8, 2, 9, 1);
        Check.due("BASE of another term: no letter", at.state(16) + at.state(17), went);
        at.entry(3, 2, 1);
        at.append(1, 3, 8, 2, 9, 2);
        Check.dueLetter("BASE of the same term", at, 0, 1, 6, 3, 1, 9, 2);
        at.entry(2, 2, 1);
        at.append(1, 3, 7, 2, 9, 3);
        Check.dueLetter("BASE - 1 of another term", at, 0, 1, 6, 3, 1, 9, 3);
        at.entry(2, 2, 1);
        at.entry(3, 2, 1);
        at.append(1, 3, 7, 2, 9, 4);
        Check.dueLetter("BASE - 1 of another, BASE of the same term", at, 0, 1, 6, 3, 1, 9, 4);
        Check.due("nothing was written", at.state(14), 0);
    }

    private static void promise8NoneOneSix() {
        LogServer x = new LogServer(0, 7, 0L);
        x.append(1, 0, 0, 0, 0, 1);
        Check.due("none is no write", x.state(14), 0);
        x.entry(0, 2, 1);
        x.append(1, 0, 0, 0, 0, 2);
        Check.due("one is a write", x.state(14), 1);
        x.sync();
        Check.dueLetter("m is 1", x, 0, 1, 6, 0, 1, 1, 2);
        Make.tell(x, 6, 0);
        x.append(1, 0, 1, 0, 0, 3);
        x.sync();
        Check.dueLetter("m is 7", x, 0, 1, 6, 0, 1, 7, 3);
        Make.tell(x, 6, 0);
        x.append(1, 0, 1, 0, 0, 4);
        Check.due("six that are passed over are no write", x.state(14), 0);
        Check.dueLetter("m is 7 again", x, 0, 1, 6, 0, 1, 7, 4);
        Check.dueEntry("its own stay", x, 1, 0, 2, 1);
    }

    private static void promise8Cut() {
        LogServer behind = Make.withLog(0, 7, 1, 1, 1);
        behind.entry(2, 2, 7);
        behind.append(1, 2, 3, 1, 0, 0);
        Check.due("LAST + 1: nothing is cut", behind.state(8), 4);
        LogServer last = Make.withLog(0, 7, 1, 1, 1);
        last.entry(2, 2, 7);
        last.append(1, 2, 2, 1, 0, 0);
        Check.due("LAST: one is cut", last.state(8), 3);
        Check.dueEntry("in its place", last, 3, 2, 2, 7);
        LogServer first = Make.withLog(0, 7, 1, 1, 1);
        first.entry(2, 2, 7);
        first.append(1, 2, 0, 0, 0, 0);
        Check.due("BASE + 1: all are cut", first.state(8), 1);
        Check.dueEntry("in their place", first, 1, 2, 2, 7);
        LogServer same = Make.withLog(0, 7, 1, 1, 1);
        same.entry(1, 2, 7);
        same.append(1, 1, 0, 0, 0, 0);
        Check.due("the same term: none is cut", same.state(8), 3);
        LogServer low = Make.withLog(0, 7, 1, 1, 3);
        low.entry(2, 2, 7);
        low.entry(3, 2, 8);
        low.append(1, 3, 2, 1, 0, 0);
        Check.dueEntry("a lower term cuts too", low, 3, 2, 2, 7);
        Check.dueEntry("and what is behind it is written", low, 4, 3, 2, 8);
        LogServer based = Make.withSnapshot(0, 9, 3, 7, 10);
        Make.tell(based, 2, 3);
        based.append(1, 3, 9, 3, 0, 0);
        based.entry(3, 2, 1);
        based.entry(4, 2, 77);
        based.append(1, 4, 8, 3, 0, 0);
        Check.dueEntry("BASE is passed over, BASE + 1 is cut", based, 10, 4, 2, 77);
        Check.due("LAST", based.state(8), 10);
    }

    private static void promise8Synced() {
        int[] cutAt = {3, 4, 5};
        int[] synced = {2, 3, 3};
        for (int k = 0; k < cutAt.length; k++) {
            LogServer x = Make.withLog(0, 7, 1, 1, 1);
            Make.tell(x, 2, 1);
            x.append(1, 1, 3, 1, 0, 0);
            Check.due("LAST", x.state(8), 5);
            Check.due("SYNCED", x.state(6), 3);
            x.entry(2, 2, 7);
            x.append(1, 2, cutAt[k] - 1, 1, 0, 0);
            Check.due("SYNCED, cut from " + cutAt[k], x.state(6), synced[k]);
        }
    }

    private static void promise8AtLeastTheBase() {
        int[] counts = {0, 1, 2, 3};
        int[] reached = {9, 9, 9, 10};
        for (int k = 0; k < counts.length; k++) {
            LogServer x = Make.withSnapshot(0, 9, 3, 7, 10);
            Make.tell(x, counts[k], 3);
            x.append(1, 3, 7, 3, MOST, 5);
            x.sync();
            Check.dueLetter("p + n is " + (7 + counts[k]) + ", BASE 9", x, 0, 1, 6, 3, 1, reached[k], 5);
            Check.due("COMMIT is not below BASE", x.state(4), reached[k]);
            Check.due("LAST", x.state(8), reached[k]);
        }
    }

    private static void promise8Commit() {
        int[] told = {0, 1, 2, 3, 4, 5, MOST};
        int[] commit = {2, 2, 2, 3, 4, 4, 4};
        for (int k = 0; k < told.length; k++) {
            LogServer x = Make.withLog(0, 7, 1, 1, 1, 1, 1);
            x.append(1, 1, 5, 1, 2, 0);
            Check.due("COMMIT was", x.state(4), 2);
            x.append(1, 1, 4, 1, told[k], 0);
            Check.due("COMMIT told " + told[k] + ", m is 4", x.state(4), commit[k]);
            Check.due("APPLIED", x.state(5), commit[k]);
            Check.due("done", x.state(18), commit[k]);
        }
        LogServer x = Make.withLog(0, 7, 1, 1, 1);
        x.append(1, 1, 3, 1, 3, 0);
        x.append(1, 1, 1, 1, MOST, 0);
        Check.due("m below what it was", x.state(4), 3);
    }

    private static void promise8UpTo250() {
        int[] counts = {3, 4, 5, 6};
        int[] reached = {249, 250, 250, 250};
        for (int k = 0; k < counts.length; k++) {
            LogServer x = Make.follower(0, 7, 246);
            Make.tell(x, counts[k], 1);
            x.append(1, 1, 246, 1, MOST, 9);
            x.sync();
            Check.due("LAST, told up to " + (246 + counts[k]), x.state(8), reached[k]);
            Check.dueLetter("m", x, 0, 1, 6, 1, 1, reached[k], 9);
            Check.due("COMMIT", x.state(4), reached[k]);
        }
        LogServer full = Make.follower(0, 7, 250);
        Make.tell(full, 1, 1);
        full.append(1, 1, 250, 1, 0, 9);
        Check.due("one more is not written", full.state(8), 250);
        Check.due("nor is that a write", full.state(14), 0);
        Check.dueLetter("m is 250", full, 0, 1, 6, 1, 1, 250, 9);
        full.append(1, 1, 251, 1, 0, 10);
        Check.dueLetter("251 is above LAST", full, 0, 1, 6, 1, 0, 251, 10);
    }

    private static void promise8UpTo250BehindABase() {
        LogServer x = Make.follower(0, 7, 250);
        x.append(1, 1, 250, 1, 3, 0);
        x.compact(10);
        x.sync();
        Make.tell(x, 6, 1);
        x.append(1, 1, 250, 1, 0, 9);
        x.sync();
        Check.due("BASE + 250", x.state(8), 253);
        Check.dueLetter("m", x, 0, 1, 6, 1, 1, 253, 9);
        LogServer far = Make.withSnapshot(0, MOST, 3, 7, 10);
        Make.tell(far, 6, 3);
        far.append(1, 3, MOST, 3, 0, 0);
        Check.due("behind the greatest BASE", far.state(8), MOST + 6);
    }

    private static void promise8Beyond250() {
        LogServer x = Make.follower(0, 1, 250);
        x.tick(200);
        x.sync();
        Check.due("its own entry is the 251st", x.state(8), 251);
        x.answer(1, 3, false);
        x.sync();
        Check.due("it follows in term 3", x.state(1), 3);
        x.entry(3, 2, 5);
        x.append(1, 3, 251, 2, 0, 1);
        Check.due("behind it none is told", x.state(8), 251);
        Check.dueLetter("m is the number before", x, 0, 1, 6, 3, 1, 251, 1);
        x.entry(3, 2, 5);
        x.append(1, 3, 250, 1, 0, 2);
        Check.due("the 251st is not told: nothing is cut", x.state(8), 251);
        Check.dueLetter("m is 250", x, 0, 1, 6, 3, 1, 250, 2);
        x.entry(3, 2, 5);
        x.entry(3, 2, 6);
        x.append(1, 3, 249, 1, 0, 3);
        x.sync();
        Check.due("the 250th is told: it cuts", x.state(8), 250);
        Check.dueLetter("m is 250", x, 0, 1, 6, 3, 1, 250, 3);
    }

    /** Committed entries beyond BASE + 250 are not held against what is told there: it is as if it were not. */
    private static void promise8Beyond250IsNotToldAtAll() {
        LogServer x = Make.follower(0, 1, 250);
        x.tick(200);
        x.sync();
        x.sync();
        Check.due("251 is committed", x.state(4), 251);
        x.answer(1, 3, false);
        x.sync();
        x.entry(3, 2, 5);
        x.append(1, 3, 250, 1, 0, 7);
        Check.dueLetter("a 251st of another term", x, 0, 1, 6, 3, 1, 250, 7);
        int went = x.state(16);
        x.entry(3, 2, 5);
        x.append(1, 3, 249, 1, 0, 8);
        Check.due("a 250th of another term: no letter", x.state(16) + x.state(17), went);
        x.entry(4, 2, 5);
        Check.illegal("its term must fit all the same", () -> x.append(1, 3, 250, 1, 0, 9));
    }

    private static void promise8Alarm() {
        LogServer refused = Make.withLog(0, 7, 1);
        refused.tick(20);
        int alarm = refused.state(12);
        refused.append(2, 1, 2, 1, 0, 0);
        Check.due("who refuses draws the alarm too", refused.state(12) != alarm, true);
        Check.due("and knows the leader", refused.state(3), 2);
        refused.tick(49);
        refused.preask(1, 9, 9, 9);
        Check.due("who was heard 49 ago", refused.letter(0, 3), 0);
        refused.tick(1);
        refused.preask(1, 9, 9, 9);
        Check.due("50 ago", refused.letter(0, 3), 1);
    }
}
