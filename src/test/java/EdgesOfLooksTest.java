/** The boundary cases of promises 21 to 28, each sentence by itself. */
public final class EdgesOfLooksTest {
    private static final int MOST = 1000000;
    private static final int[] FAR = {Integer.MIN_VALUE, Integer.MAX_VALUE};

    private EdgesOfLooksTest() {
    }

    public static void main(String[] args) {
        promise21New();
        promise21Dirty();
        promise21Waiting();
        promise21Assembly();
        promise21Told();
        promise21Heard();
        promise21Applied();
        promise21Calls();
        promise21InEachRole();
        promise22FirstAndLast();
        promise22Round();
        promise23BaseAndLast();
        promise23OfASnapshot();
        promise23Full();
        promise24Servers();
        promise24What();
        promise24WhileItLeads();
        promise25NoneAndOne();
        promise25TheLatest64();
        promise25NumbersOfEachKind();
        promise25EntriesOfEachCount();
        promise25LettersThatWait();
        promise26NoneAndOne();
        promise26TheLatest64();
        promise26What();
        promise27NoneAndOne();
        promise27TheLatest32();
        promise27WhereOldOnesWere();
        promise28For();
        Check.end("EdgesOfLooksTest");
    }

    private static void promise21New() {
        LogServer x = new LogServer(0, 7, 0L);
        x.restart();
        for (int what = 0; what < 20; what++) {
            if (what != 12) {
                Check.due("a new one: state(" + what + ")", x.state(what), new LogServer(0, 7, 0L).state(what));
            }
        }
        Check.due("the alarm is drawn again", x.state(12), alarmOfDraw(2, 0));
        x.restart();
        Check.due("and again", x.state(12), alarmOfDraw(3, 0));
        x.tick(30);
        x.restart();
        Check.due("from NOW", x.state(12), alarmOfDraw(4, 30));
    }

    private static int alarmOfDraw(int times, int now) {
        long row = 0;
        for (int k = 0; k < times; k++) {
            row = row * 6364136223846793005L + 1442695040888963407L;
        }
        return now + 50 + (int) ((row >>> 33) % 50);
    }

    private static void promise21Dirty() {
        LogServer x = Make.withLog(0, 7, 1, 1);
        Make.tell(x, 2, 1);
        x.append(1, 1, 2, 1, 1, 0);
        Check.due("dirty before", x.state(14), 1);
        Check.due("SYNCED before", x.state(6), 2);
        x.restart();
        Check.due("not dirty", x.state(14), 0);
        Check.due("SYNCED is LAST", x.state(6), 4);
        Check.due("LAST stays", x.state(8), 4);
        x.preask(1, 9, 9, 9);
        Check.due("letters go at once", x.state(17), 0);
        LogServer voted = new LogServer(0, 7, 0L);
        voted.ask(1, 3, 0, 0);
        voted.restart();
        Check.due("TERM stays", voted.state(1), 3);
        Check.due("VOTED stays", voted.state(2), 1);
    }

    private static void promise21Waiting() {
        LogServer one = new LogServer(0, 7, 0L);
        one.ask(1, 3, 0, 0);
        one.restart();
        Check.due("one that waits is lost", one.state(17), 0);
        Check.due("it never goes", one.sync(), 0);
        Check.due("none went", one.state(16), 0);
        LogServer full = new LogServer(0, 7, 0L);
        full.ask(1, 3, 0, 0);
        for (int k = 0; k < 205; k++) {
            full.preask(1, 9, 0, 0);
        }
        full.restart();
        Check.due("200 that wait are lost", full.sync(), 0);
        full.ask(1, 4, 0, 0);
        Check.due("there is room again", full.sync(), 1);
        LogServer went = new LogServer(0, 7, 0L);
        went.preask(3, 5, 0, 0);
        went.restart();
        Check.dueLetter("what went stays", went, 0, 3, 2, 5, 1);
        Check.due("how many", went.state(16), 1);
    }

    private static void promise21Assembly() {
        LogServer x = new LogServer(0, 7, 0L);
        x.describe(9, 0, 7, 300);
        x.piece(1, 0, 0, 200, 0);
        x.restart();
        x.describe(9, 0, 7, 300);
        x.piece(1, 0, 200, 100, 0);
        Check.dueLetter("it is lost", x, 0, 1, 8, 0, 9, 0, 0);
        x.describe(9, 0, 7, 300);
        x.piece(1, 0, 0, 200, 0);
        x.describe(9, 0, 7, 300);
        x.piece(1, 0, 200, 100, 0);
        Check.due("it can begin anew", x.state(7), 9);
        x.restart();
        Check.due("what was taken in whole is on disk", x.state(7), 9);
        Check.due("COMMIT", x.state(4), 9);
    }

    private static void promise21Told() {
        LogServer x = new LogServer(0, 7, 0L);
        Make.tell(x, 5, 1);
        x.restart();
        Check.due("entries that were told stay", x.entry(1, 2, 6), 6);
        x.restart();
        Check.illegalState("six of them", () -> x.entry(1, 2, 7));
        x.append(1, 1, 0, 0, 0, 0);
        Check.due("and come with the next APPEND", x.state(8), 6);
        x.describe(9, 1, 7, 5);
        x.restart();
        x.piece(1, 1, 0, 5, 0);
        Check.due("a description stays too", x.state(7), 9);
        x.restart();
        Check.illegal("but not one that was used", () -> x.piece(1, 1, 0, 5, 0));
        Check.due("nor entries that were used", x.entry(1, 2, 1), 1);
    }

    private static void promise21Heard() {
        LogServer x = new LogServer(0, 7, 0L);
        x.append(1, 0, 0, 0, 0, 0);
        x.restart();
        Check.due("LEADER", x.state(3), -1);
        x.preask(1, 1, 0, 0);
        Check.due("HEARD is NEVER", x.letter(0, 3), 1);
        x.tick(30);
        x.append(1, 0, 0, 0, 0, 0);
        Check.due("NOW stays", x.state(13), 30);
        x.preask(1, 1, 0, 0);
        Check.due("heard again", x.letter(0, 3), 0);
    }

    private static void promise21Applied() {
        LogServer x = Make.withLog(0, 7, 1, 1, 1, 1);
        x.append(1, 1, 4, 1, 2, 0);
        x.compact(5);
        x.append(1, 1, 4, 1, 3, 0);
        Check.due("done before", x.state(18), 3);
        x.restart();
        Check.due("COMMIT is BASE", x.state(4), 2);
        Check.due("APPLIED is BASE", x.state(5), 2);
        Check.due("what was done stays", x.state(18), 3);
        Check.due("and is told", x.done(0, 0), 3);
        x.append(1, 1, 4, 1, 4, 0);
        Check.due("3 and 4 are done now", x.state(18), 5);
        Check.due("3 again", x.done(1, 0), 3);
        LogServer none = Make.withLog(0, 7, 1);
        none.append(1, 1, 1, 1, 1, 0);
        none.restart();
        Check.due("BASE 0", none.state(4) + none.state(5), 0);
    }

    private static void promise21Calls() {
        LogServer x = Make.leader(0, 7, 1);
        int answered = x.command(1);
        int waits = x.command(2);
        int read = x.read();
        x.sync();
        x.appended(1, 1, true, 2, 1);
        Check.due("one is answered", x.call(answered), 1);
        x.restart();
        Check.due("it stays answered", x.call(answered), 1);
        Check.due("who waits is dropped", x.call(waits), 2);
        Check.due("a read too", x.call(read), 2);
        Check.due("how many calls there were", x.state(19), 3);
        Check.due("for what", x.callFor(waits), 3);
        x.go(1, 1);
        x.answer(1, 2, true);
        x.sync();
        Check.due("numbers go on", x.command(5), 3);
    }

    private static void promise21InEachRole() {
        String[] names = {"follows", "follows, dirty", "asks", "stands", "leads", "hands over", "sends a snapshot"};
        for (String name : names) {
            LogServer x = States.all().get(name).make();
            int base = x.state(7);
            int last = x.state(8);
            int term = x.state(1);
            x.restart();
            Check.due(name + ": ROLE", x.state(0), 0);
            Check.due(name + ": TERM", x.state(1), term);
            Check.due(name + ": LEADER", x.state(3), -1);
            Check.due(name + ": COMMIT", x.state(4), base);
            Check.due(name + ": APPLIED", x.state(5), base);
            Check.due(name + ": SYNCED", x.state(6), last);
            Check.due(name + ": BASE", x.state(7), base);
            Check.due(name + ": LAST", x.state(8), last);
            Check.due(name + ": VOTES", x.state(10), 0);
            Check.due(name + ": HANDING", x.state(11), -1);
            Check.due(name + ": ROUND", x.state(15), 0);
            Check.due(name + ": waiting", x.state(17), 0);
            Check.outOfBounds(name + ": peers", () -> x.peer(1, 0));
            Check.due(name + ": an alarm", x.state(12) >= x.state(13) + 50 && x.state(12) < x.state(13) + 100, true);
        }
    }

    private static void promise22FirstAndLast() {
        LogServer x = new LogServer(0, 7, 0L);
        Check.outOfBounds("-1", () -> x.state(-1));
        Check.due("0", x.state(0), 0);
        Check.due("19", x.state(19), 0);
        Check.outOfBounds("20", () -> x.state(20));
        for (int far : FAR) {
            Check.outOfBounds("far", () -> x.state(far));
        }
    }

    private static void promise22Round() {
        LogServer x = Make.leader(0, 7, 1);
        Check.due("while it leads", x.state(15), 1);
        x.answer(1, 2, false);
        Check.due("while it does not", x.state(15), 0);
        x.go(1, 2);
        x.answer(1, 3, true);
        x.sync();
        Check.due("it begins anew", x.state(15), 1);
    }

    private static void promise23BaseAndLast() {
        LogServer empty = new LogServer(0, 7, 0L);
        Check.due("BASE 0", empty.log(0, 0), 0);
        Check.outOfBounds("BASE 0 has no kind", () -> empty.log(0, 1));
        Check.outOfBounds("BASE 0 has no value", () -> empty.log(0, 2));
        Check.outOfBounds("BASE + 1 of an empty log", () -> empty.log(1, 0));
        Check.outOfBounds("-1", () -> empty.log(-1, 0));
        LogServer x = Make.withLog(0, 7, 1, 2, 3, 3);
        x.append(1, 3, 4, 3, 2, 0);
        x.compact(5);
        Check.outOfBounds("BASE - 1", () -> x.log(1, 0));
        Check.due("BASE", x.log(2, 0), 2);
        Check.outOfBounds("BASE has no kind", () -> x.log(2, 1));
        Check.outOfBounds("BASE has no value", () -> x.log(2, 2));
        Check.dueEntry("BASE + 1", x, 3, 3, 2, 102);
        Check.dueEntry("LAST", x, 4, 3, 2, 103);
        Check.outOfBounds("LAST + 1", () -> x.log(5, 0));
        Check.outOfBounds("what -1", () -> x.log(3, -1));
        Check.outOfBounds("what 3", () -> x.log(3, 3));
        Check.outOfBounds("what -1 of BASE", () -> x.log(2, -1));
        Check.outOfBounds("what 3 of BASE", () -> x.log(2, 3));
        for (int far : FAR) {
            Check.outOfBounds("a far entry", () -> x.log(far, 0));
            Check.outOfBounds("a far what", () -> x.log(3, far));
        }
    }

    private static void promise23OfASnapshot() {
        LogServer x = Make.withSnapshot(0, MOST, 3, 7, 10);
        Check.due("the greatest BASE", x.log(MOST, 0), 3);
        Check.outOfBounds("one below", () -> x.log(MOST - 1, 0));
        Check.outOfBounds("one above", () -> x.log(MOST + 1, 0));
        x.entry(3, 2, 5);
        x.append(1, 3, MOST, 3, 0, 0);
        Check.dueEntry("behind it", x, MOST + 1, 3, 2, 5);
        Check.outOfBounds("behind that", () -> x.log(MOST + 2, 0));
    }

    private static void promise23Full() {
        LogServer x = Make.grown(300);
        Check.dueEntry("the first of 300", x, 1, 1, 2, 1);
        Check.due("the 300th", x.log(300, 1), 0);
        Check.outOfBounds("the 301st", () -> x.log(301, 0));
    }

    private static void promise24Servers() {
        LogServer x = Make.leader(3, 15, 0, 1);
        Check.outOfBounds("-1", () -> x.peer(-1, 0));
        Check.due("0, a peer", x.peer(0, 0), 2);
        Check.due("3, itself", x.peer(3, 1), 1);
        Check.due("6, no peer", x.peer(6, 0), 1);
        Check.outOfBounds("7", () -> x.peer(7, 0));
        for (int far : FAR) {
            Check.outOfBounds("far", () -> x.peer(far, 0));
        }
    }

    private static void promise24What() {
        LogServer x = Make.leader(0, 7, 1);
        x.tick(7);
        x.appended(1, 1, true, 1, 4);
        Check.outOfBounds("-1", () -> x.peer(1, -1));
        Check.due("0, NEXT", x.peer(1, 0), 2);
        Check.due("6, SEEN", x.peer(1, 6), 7);
        Check.outOfBounds("7, ANSWERED is not told", () -> x.peer(1, 7));
        for (int far : FAR) {
            Check.outOfBounds("far", () -> x.peer(1, far));
        }
    }

    private static void promise24WhileItLeads() {
        String[] names = {"new", "follows", "asks", "stands", "restarted"};
        for (String name : names) {
            LogServer x = States.all().get(name).make();
            for (int what = 0; what < 7; what++) {
                int which = what;
                Check.outOfBounds(name, () -> x.peer(1, which));
            }
        }
        LogServer x = Make.leader(0, 7, 1);
        Check.due("leads", x.peer(1, 0), 2);
        x.answer(1, 2, false);
        Check.outOfBounds("led", () -> x.peer(1, 0));
    }

    private static void promise25NoneAndOne() {
        LogServer x = new LogServer(0, 7, 0L);
        Check.outOfBounds("none", () -> x.letter(0, 0));
        x.preask(1, 1, 0, 0);
        Check.due("one", x.letter(0, 0), 1);
        Check.outOfBounds("no second", () -> x.letter(1, 0));
        Check.outOfBounds("-1", () -> x.letter(-1, 0));
        Check.outOfBounds("what -1", () -> x.letter(0, -1));
        for (int far : FAR) {
            Check.outOfBounds("a far letter", () -> x.letter(far, 0));
            Check.outOfBounds("a far what", () -> x.letter(0, far));
        }
    }

    private static void promise25TheLatest64() {
        int[] counts = {63, 64, 65, 127, 128, 129, 300};
        for (int n : counts) {
            LogServer x = new LogServer(0, 7, 0L);
            for (int k = 1; k <= n; k++) {
                x.preask(1 + k % 6, k, 0, 0);
            }
            int kept = Math.min(n, 64);
            for (int k = 0; k < kept; k++) {
                Check.dueLetter(n + " went", x, k, 1 + (n - k) % 6, 2, n - k, 1);
            }
            Check.outOfBounds(n + " went: the first that is not kept", () -> x.letter(kept, 0));
            Check.outOfBounds(n + " went: the next that will", () -> x.letter(-1, 0));
            Check.due("how many", x.state(16), n);
        }
    }

    private static void promise25NumbersOfEachKind() {
        LogServer asks = new LogServer(0, 3, 0L);
        asks.tick(200);
        Check.dueLetter("PREASK has 2", asks, 0, 1, 1, 1, 0, 0);
        asks.preask(1, 1, 0, 0);
        Check.dueLetter("PREANSWER has 1", asks, 0, 1, 2, 1, 1);
        asks.preanswer(1, 1, true);
        asks.sync();
        Check.dueLetter("ASK has 2", asks, 0, 1, 3, 1, 0, 0);
        asks.ask(1, 1, 0, 0);
        Check.dueLetter("ANSWER has 1", asks, 0, 1, 4, 1, 0);
        asks.append(1, 0, 0, 0, 0, 3);
        Check.dueLetter("APPENDED has 3", asks, 0, 1, 6, 1, 0, 0, 3);
        asks.describe(2, 0, 7, 5);
        asks.piece(1, 0, 0, 5, 4);
        Check.dueLetter("STORED has 3", asks, 0, 1, 8, 1, 2, 0, 4);
        asks.answer(1, 1, true);
        asks.sync();
        Check.dueLetter("APPEND with one entry has 8", asks, 0, 1, 5, 1, 0, 0, 0, 1, 1, 1, 0, 0);
        asks.appended(1, 1, true, 1, 1);
        asks.hand(1);
        Check.dueLetter("GO has none", asks, 0, 1, 9, 1);
        LogServer sends = States.sendsSnapshot();
        Check.dueLetter("PIECE has 7", sends, 0, 3, 7, 1, 3, 1, 31, 500, 200, 200, 2);
    }

    private static void promise25EntriesOfEachCount() {
        for (int count = 1; count <= 6; count++) {
            LogServer x = Make.leader(0, 3, 1);
            for (int k = 1; k < count; k++) {
                x.command(k);
            }
            x.sync();
            x.appended(1, 1, false, 1, 1);
            int numbers = 8 + 3 * count;
            Check.due("how many entries", x.letter(0, 7), count);
            Check.due("the value of the last", x.letter(0, numbers - 1), count - 1);
            Check.outOfBounds("no more than those", () -> x.letter(0, numbers));
        }
        LogServer x = Make.leader(0, 3, 1);
        x.appended(1, 1, true, 1, 1);
        x.tick(10);
        Check.due("without entries", x.letter(0, 7), 0);
        Check.outOfBounds("the fifth number is the last", () -> x.letter(0, 8));
    }

    private static void promise25LettersThatWait() {
        LogServer x = new LogServer(0, 7, 0L);
        x.ask(1, 1, 0, 0);
        Check.outOfBounds("what waits did not go", () -> x.letter(0, 0));
        for (int k = 1; k < 66; k++) {
            x.preask(1, 1 + k, 0, 0);
        }
        x.sync();
        Check.due("66 went at once", x.state(16), 66);
        Check.due("the latest", x.letter(0, 2), 66);
        Check.due("the 64th latest", x.letter(63, 2), 3);
        Check.outOfBounds("the 65th", () -> x.letter(64, 0));
    }

    private static void promise26NoneAndOne() {
        LogServer x = new LogServer(0, 7, 0L);
        Check.outOfBounds("none", () -> x.done(0, 0));
        x.entry(0, 0, 1);
        x.entry(0, 1, 7);
        x.append(1, 0, 0, 0, 2, 0);
        Check.outOfBounds("EMPTY and MEMBERS are not done", () -> x.done(0, 0));
        x.entry(0, 2, -9);
        x.append(1, 0, 2, 0, 3, 0);
        Check.due("one: its number", x.done(0, 0), 3);
        Check.due("its value", x.done(0, 1), -9);
        Check.outOfBounds("no second", () -> x.done(1, 0));
        Check.outOfBounds("-1", () -> x.done(-1, 0));
        for (int far : FAR) {
            Check.outOfBounds("far", () -> x.done(far, 0));
        }
    }

    private static void promise26TheLatest64() {
        int[] counts = {63, 64, 65, 127, 128, 129, 250};
        for (int n : counts) {
            LogServer x = Make.follower(0, 7, n);
            x.append(1, 1, n, 1, n, 0);
            int kept = Math.min(n, 64);
            for (int k = 0; k < kept; k++) {
                Check.due(n + " done: number", x.done(k, 0), n - k);
                Check.due(n + " done: value", x.done(k, 1), (n - k - 1) % 6 + 1);
            }
            Check.outOfBounds(n + " done: the first that is not kept", () -> x.done(kept, 0));
            Check.outOfBounds(n + " done: the next that will be", () -> x.done(-1, 0));
            Check.due("how many", x.state(18), n);
        }
    }

    private static void promise26What() {
        LogServer x = Make.follower(0, 7, 2);
        x.append(1, 1, 2, 1, 2, 0);
        Check.outOfBounds("-1", () -> x.done(0, -1));
        Check.due("0", x.done(0, 0), 2);
        Check.due("1", x.done(0, 1), 2);
        Check.outOfBounds("2", () -> x.done(0, 2));
        for (int far : FAR) {
            Check.outOfBounds("far", () -> x.done(0, far));
        }
    }

    private static void promise27NoneAndOne() {
        LogServer x = Make.leader(0, 7, 1);
        Check.outOfBounds("none", () -> x.call(0));
        x.read();
        Check.due("one", x.call(0), 0);
        Check.outOfBounds("no second", () -> x.call(1));
        Check.outOfBounds("-1", () -> x.call(-1));
        for (int far : FAR) {
            Check.outOfBounds("far", () -> x.call(far));
            Check.outOfBounds("far", () -> x.callFor(far));
        }
    }

    private static void promise27TheLatest32() {
        int[] counts = {31, 32, 33, 63, 64, 65, 150};
        for (int n : counts) {
            LogServer x = Make.leader(0, 7, 1);
            for (int k = 0; k < n; k++) {
                Check.due("numbers from 0 on", k % 3 == 0 ? x.read() : x.command(k), k);
            }
            int first = Math.max(0, n - 32);
            for (int k = first; k < n; k++) {
                Check.due(n + " calls: " + k, x.call(k), 0);
            }
            Check.outOfBounds(n + " calls: the one before the latest 32", () -> x.call(first - 1));
            Check.outOfBounds(n + " calls: the one behind the last", () -> x.call(n));
            Check.outOfBounds("for what, before", () -> x.callFor(first - 1));
            Check.outOfBounds("for what, behind", () -> x.callFor(n));
            Check.due("how many", x.state(19), n);
        }
    }

    /** A new call stands where one 32 before it stood, and has nothing of it. */
    private static void promise27WhereOldOnesWere() {
        LogServer x = Make.leader(0, 1);
        for (int k = 0; k < 32; k++) {
            x.command(k);
        }
        x.sync();
        Check.due("the first is answered", x.call(0), 1);
        int read = x.read();
        Check.due("the 33rd", read, 32);
        Check.due("waits", x.call(32), 0);
        Check.due("for COMMIT", x.callFor(32), 33);
        Check.outOfBounds("the first is none of them", () -> x.call(0));
        Check.due("the second is", x.call(1), 1);
        x.sync();
        Check.due("a read waits on, where a command was", x.call(32), 0);
        x.tick(10);
        Check.due("and is answered at the beat", x.call(32), 1);
        LogServer y = Make.leader(0, 7, 1);
        y.appended(1, 1, true, 1, 1);
        for (int k = 0; k < 32; k++) {
            y.read();
        }
        y.command(9);
        y.tick(10);
        y.appended(1, 1, true, 1, 2);
        Check.due("reads are answered", y.call(1), 1);
        Check.due("a command waits on, where a read was", y.call(32), 0);
        y.sync();
        y.appended(1, 1, true, 2, 2);
        Check.due("and is answered when it is applied", y.call(32), 1);
        y.command(10);
        y.answer(1, 2, false);
        Check.due("dropped", y.call(33), 2);
        Check.due("answered ones stay so", y.call(32), 1);
    }

    private static void promise28For() {
        LogServer x = Make.leader(0, 7, 1);
        Check.outOfBounds("none", () -> x.callFor(0));
        x.command(5);
        Check.due("one", x.callFor(0), 2);
        Check.outOfBounds("no second", () -> x.callFor(1));
        Check.outOfBounds("-1", () -> x.callFor(-1));
        x.sync();
        x.appended(1, 1, true, 2, 1);
        Check.due("answered", x.call(0), 1);
        Check.due("for what it waited", x.callFor(0), 2);
        x.read();
        x.answer(1, 2, false);
        Check.due("dropped", x.call(1), 2);
        Check.due("for what it waited", x.callFor(1), 2);
    }
}
