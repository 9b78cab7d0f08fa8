/** The boundary cases of promises 10, 11, 12 and 20, each sentence by itself. */
public final class EdgesOfSnapshotsTest {
    private static final int MOST = 1000000;

    private EdgesOfSnapshotsTest() {
    }

    public static void main(String[] args) {
        promise10LeastAndMost();
        promise10Codes();
        promise10TheNextOneAlone();
        promise11Numbers();
        promise11Bytes();
        promise11NotBeyondTheSize();
        promise11TermOfTheSnapshot();
        promise11NoneDescribed();
        promise11LetterTerm();
        promise11WhileItLeads();
        promise11Commit();
        promise11NewAssembly();
        promise11BeginsAtGot();
        promise11AnotherBase();
        promise11SizeToldNow();
        promise11OnePiece();
        promise11EntryOfThisTerm();
        promise11LastAndSynced();
        promise11FullLog();
        promise11Done();
        promise12Numbers();
        promise12TermAndPeers();
        promise12AllOfTheSize();
        promise12AnotherBase();
        promise12NoSnapshot();
        promise12PiecesOf200();
        promise12OneIsFlying();
        promise12NextAtTheBase();
        promise12Acknowledges();
        promise20Sizes();
        promise20Applied();
        promise20TermAndMembers();
        promise20AllOrNoneGone();
        promise20Offsets();
        promise20InEachRole();
        Check.end("EdgesOfSnapshotsTest");
    }

    private static void promise10LeastAndMost() {
        LogServer x = new LogServer(0, 7, 0L);
        Check.illegal("base 0", () -> x.describe(0, 0, 7, 1));
        Check.illegal("base 1000001", () -> x.describe(MOST + 1, 0, 7, 1));
        Check.illegal("base -1", () -> x.describe(-1, 0, 7, 1));
        Check.illegal("term -1", () -> x.describe(1, -1, 7, 1));
        Check.illegal("term 1000001", () -> x.describe(1, MOST + 1, 7, 1));
        Check.illegal("size 0", () -> x.describe(1, 0, 7, 0));
        Check.illegal("size -1", () -> x.describe(1, 0, 7, -1));
        Check.illegal("size 1000001", () -> x.describe(1, 0, 7, MOST + 1));
        Check.illegal("none was described by these", () -> x.piece(1, MOST, 0, 0, 0));
        x.describe(1, 0, 7, 1);
        x.piece(1, 0, 0, 1, 0);
        Check.due("base 1, term 0, size 1", x.state(7), 1);
        LogServer y = new LogServer(0, 7, 0L);
        y.describe(MOST, MOST, 7, MOST);
        y.piece(1, MOST, 0, 200, 0);
        y.sync();
        Check.dueLetter("base, term, size 1000000", y, 0, 1, 8, MOST, MOST, 200, 0);
        y.describe(MOST, MOST, 7, 200);
        y.piece(1, MOST, 200, 0, 0);
        Check.due("the greatest BASE", y.state(7), MOST);
        Check.due("LAST", y.state(8), MOST);
        Check.due("of the greatest term", y.log(MOST, 0), MOST);
    }

    private static void promise10Codes() {
        int[] codes = {1, 127, 1 + 128 * 127, 127 + 128 * 127, 1 + 16384 * 126, 1 + 128 * 2 + 16384 * 124, 64};
        for (int code : codes) {
            LogServer x = Make.withSnapshot(0, 5, 1, code, 1);
            Check.due("code " + code, x.state(9), code);
        }
        int[] none = {0, 128, 16384, 1 + 16384, 127 + 16384 * 64, 1 + 128 * 2 + 16384 * 2, 1 << 21, (1 << 21) + 1, -1,
            Integer.MIN_VALUE, Integer.MIN_VALUE + 1, Integer.MAX_VALUE};
        LogServer x = new LogServer(0, 7, 0L);
        for (int code : none) {
            Check.illegal("no code " + code, () -> x.describe(1, 0, code, 1));
        }
    }

    private static void promise10TheNextOneAlone() {
        LogServer x = new LogServer(0, 7, 0L);
        x.describe(5, 1, 3, 10);
        x.describe(6, 1, 7, 20);
        x.piece(1, 1, 0, 20, 0);
        Check.due("the latest description", x.state(7), 6);
        Check.due("its members", x.state(9), 7);
        x.describe(8, 1, 3, 10);
        Check.illegal("a wrong one behind it", () -> x.describe(9, 1, 3, 0));
        x.piece(1, 1, 0, 10, 0);
        Check.due("leaves it", x.state(7), 8);
    }

    private static void promise11Numbers() {
        LogServer x = new LogServer(0, 7, 0L);
        int[] bad = {-1, MOST + 1};
        for (int n : bad) {
            wrong(x, "term " + n, n, 0, 1, 0);
            wrong(x, "at " + n, MOST, n, 0, 0);
            wrong(x, "round " + n, MOST, 0, 1, n);
        }
        int[] senders = {-1, 0, 7};
        for (int s : senders) {
            x.describe(5, 0, 7, MOST);
            Check.outOfBounds("from " + s, () -> x.piece(s, 0, 0, 1, 0));
        }
        Check.due("nothing happened", x.state(1) + x.state(16) + x.state(17), 0);
        x.describe(5, 0, 7, MOST);
        x.piece(6, 0, 0, 0, 0);
        Check.dueLetter("all are 0", x, 0, 6, 8, 0, 5, 0, 0);
        x.describe(5, 0, 7, MOST);
        x.piece(1, MOST, MOST, 0, MOST);
        x.sync();
        Check.dueLetter("all are 1000000", x, 0, 1, 8, MOST, 5, 0, MOST);
    }

    private static void wrong(LogServer x, String what, int term, int at, int bytes, int round) {
        x.describe(5, 0, 7, MOST);
        Check.illegal(what, () -> x.piece(1, term, at, bytes, round));
        Check.illegal(what + ": the description is gone", () -> x.piece(1, 1, 0, 1, 0));
    }

    private static void promise11Bytes() {
        LogServer x = new LogServer(0, 7, 0L);
        wrong(x, "-1 bytes", 1, 0, -1, 0);
        wrong(x, "201 bytes", 1, 0, 201, 0);
        wrong(x, "so many that it would wrap", 1, MOST, Integer.MAX_VALUE, 0);
        wrong(x, "so few that it would wrap", 1, 0, Integer.MIN_VALUE, 0);
        x.describe(5, 0, 7, MOST);
        x.piece(1, 0, 0, 0, 0);
        Check.due("0 bytes", x.letter(0, 4), 0);
        x.describe(5, 0, 7, MOST);
        x.piece(1, 0, 0, 200, 0);
        Check.due("200 bytes", x.letter(0, 4), 200);
    }

    private static void promise11NotBeyondTheSize() {
        LogServer x = new LogServer(0, 7, 0L);
        x.describe(5, 0, 7, 150);
        Check.illegal("one beyond, from 0 on", () -> x.piece(1, 0, 0, 151, 0));
        x.describe(5, 0, 7, 150);
        Check.illegal("one beyond, from 100 on", () -> x.piece(1, 0, 100, 51, 0));
        x.describe(5, 0, 7, 150);
        Check.illegal("begins one beyond", () -> x.piece(1, 0, 151, 0, 0));
        x.describe(5, 0, 7, 150);
        x.piece(1, 0, 100, 50, 0);
        Check.due("up to the size, from 100 on", x.letter(0, 4), 0);
        x.describe(5, 0, 7, 150);
        x.piece(1, 0, 150, 0, 0);
        Check.due("begins at the size", x.letter(0, 4), 0);
        x.describe(5, 0, 7, 150);
        x.piece(1, 0, 0, 150, 0);
        Check.due("up to the size, from 0 on", x.state(7), 5);
    }

    private static void promise11TermOfTheSnapshot() {
        LogServer x = new LogServer(0, 7, 0L);
        x.describe(5, 3, 7, 10);
        Check.illegal("one above the letter's", () -> x.piece(1, 2, 0, 10, 0));
        Check.due("TERM stays", x.state(1), 0);
        x.describe(5, 3, 7, 10);
        x.piece(1, 3, 0, 10, 0);
        Check.due("the letter's", x.log(5, 0), 3);
        x.describe(6, 3, 7, 10);
        x.piece(1, 4, 0, 10, 0);
        Check.due("one below the letter's", x.log(6, 0), 3);
        Check.due("TERM", x.state(1), 4);
    }

    private static void promise11NoneDescribed() {
        LogServer x = new LogServer(0, 7, 0L);
        Check.illegal("at first", () -> x.piece(1, 0, 0, 0, 0));
        x.describe(5, 0, 7, 10);
        x.piece(1, 0, 0, 5, 0);
        Check.illegal("after a piece", () -> x.piece(1, 0, 5, 5, 0));
        x.describe(5, 0, 7, 10);
        Check.outOfBounds("from itself", () -> x.piece(0, 0, 5, 5, 0));
        Check.illegal("after one of a wrong sender", () -> x.piece(1, 0, 5, 5, 0));
        Check.outOfBounds("the sender is looked at first", () -> x.piece(7, 0, 5, 5, 0));
        LogServer leads = Make.leader(0, 7, 1);
        leads.describe(5, 0, 7, 10);
        leads.piece(1, 1, 0, 5, 0);
        Check.illegal("after one that came while it leads", () -> leads.piece(1, 1, 0, 5, 0));
        x.describe(5, 0, 7, 10);
        x.piece(1, 0, 5, 5, 0);
        Check.due("the assembly was left alone by all of these", x.state(7), 5);
    }

    private static void promise11LetterTerm() {
        LogServer below = Make.withLog(0, 7, 5);
        below.tick(20);
        int alarm = below.state(12);
        comes(below, 2, 9, 4, 10, 4, 0, 10);
        Check.dueLetter("TERM - 1", below, 0, 2, 8, 5, 9, 0, 77);
        Check.due("LEADER stays", below.state(3), 1);
        Check.due("the alarm stays", below.state(12), alarm);
        Check.due("BASE stays", below.state(7), 0);
        LogServer at = Make.withLog(0, 7, 5);
        comes(at, 2, 9, 4, 20, 5, 0, 10);
        Check.dueLetter("TERM", at, 0, 2, 8, 5, 9, 10, 77);
        Check.due("LEADER", at.state(3), 2);
        LogServer above = Make.withLog(0, 7, 5);
        comes(above, 2, 9, 4, 20, 6, 0, 10);
        Check.due("TERM + 1 is a write", above.state(17), 1);
        above.sync();
        Check.dueLetter("TERM + 1", above, 0, 2, 8, 6, 9, 10, 77);
        above.tick(49);
        above.preask(1, 7, 9, 9);
        Check.due("heard 49 ago", above.letter(0, 3), 0);
        above.tick(1);
        above.preask(1, 7, 9, 9);
        Check.due("heard 50 ago", above.letter(0, 3), 1);
    }

    /** A piece with round 77. */
    private static void comes(LogServer x, int from, int base, int baseTerm, int size, int term, int at, int bytes) {
        x.describe(base, baseTerm, 7, size);
        x.piece(from, term, at, bytes, 77);
    }

    private static void promise11WhileItLeads() {
        LogServer x = Make.leader(0, 7, 1);
        int went = x.state(16);
        comes(x, 1, 9, 1, 10, 1, 0, 10);
        Check.due("TERM: nothing", x.state(16) + x.state(17), went);
        Check.due("BASE", x.state(7), 0);
        comes(x, 1, 9, 0, 10, 0, 0, 10);
        Check.dueLetter("TERM - 1", x, 0, 1, 8, 1, 9, 0, 77);
        Check.due("leads on", x.state(0), 3);
        comes(x, 1, 9, 1, 10, 2, 0, 10);
        Check.due("TERM + 1", x.state(7), 9);
        Check.due("follows", x.state(0), 0);
    }

    private static void promise11Commit() {
        LogServer at = committed2of4();
        comes(at, 1, 2, 1, 10, 1, 0, 5);
        Check.dueLetter("COMMIT: the size told", at, 0, 1, 8, 1, 2, 10, 77);
        Check.due("BASE", at.state(7), 0);
        comes(at, 1, 1, 1, MOST, 1, MOST, 0);
        Check.dueLetter("COMMIT - 1: the size told", at, 0, 1, 8, 1, 1, MOST, 77);
        LogServer behind = committed2of4();
        comes(behind, 1, 3, 1, 10, 1, 0, 5);
        Check.dueLetter("COMMIT + 1: GOT", behind, 0, 1, 8, 1, 3, 5, 77);
        comes(behind, 1, 2, 1, 10, 1, 0, 5);
        comes(behind, 1, 3, 1, 10, 1, 5, 5);
        Check.due("a piece up to COMMIT leaves the assembly", behind.state(7), 3);
        LogServer meanwhile = committed2of4();
        comes(meanwhile, 1, 3, 1, 10, 1, 0, 5);
        meanwhile.append(1, 1, 4, 1, 3, 0);
        comes(meanwhile, 1, 3, 1, 10, 1, 5, 5);
        Check.dueLetter("COMMIT grew meanwhile: the size told", meanwhile, 0, 1, 8, 1, 3, 10, 77);
        Check.due("BASE", meanwhile.state(7), 0);
    }

    /** Four entries of term 1, two of them committed; not dirty. */
    private static LogServer committed2of4() {
        LogServer x = Make.withLog(0, 7, 1, 1, 1, 1);
        x.append(1, 1, 4, 1, 2, 0);
        return x;
    }

    private static void promise11NewAssembly() {
        LogServer x = new LogServer(0, 7, 0L);
        comes(x, 1, 9, 0, 400, 0, 0, 200);
        comes(x, 1, 9, 0, 400, 0, 0, 200);
        Check.dueLetter("at 0 again: GOT begins anew", x, 0, 1, 8, 0, 9, 200, 77);
        comes(x, 1, 9, 0, 400, 0, 0, 0);
        Check.dueLetter("without bytes too", x, 0, 1, 8, 0, 9, 0, 77);
        comes(x, 1, 9, 0, 400, 0, 200, 200);
        Check.dueLetter("what was got is gone", x, 0, 1, 8, 0, 9, 0, 77);
        comes(x, 1, 9, 0, 400, 0, 0, 1);
        comes(x, 1, 9, 0, 400, 0, 1, 1);
        Check.dueLetter("at 1 it goes on", x, 0, 1, 8, 0, 9, 2, 77);
    }

    private static void promise11BeginsAtGot() {
        int[] begins = {99, 100, 101};
        int[] got = {100, 150, 100};
        for (int k = 0; k < begins.length; k++) {
            LogServer x = new LogServer(0, 7, 0L);
            comes(x, 1, 9, 0, 400, 0, 0, 100);
            comes(x, 1, 9, 0, 400, 0, begins[k], 50);
            Check.dueLetter("begins at " + begins[k] + ", GOT 100", x, 0, 1, 8, 0, 9, got[k], 77);
        }
        LogServer x = new LogServer(0, 7, 0L);
        comes(x, 1, 9, 0, 400, 0, 1, 50);
        Check.dueLetter("there is no assembly", x, 0, 1, 8, 0, 9, 0, 77);
        comes(x, 1, 9, 0, 400, 0, 1, 50);
        Check.dueLetter("that made none", x, 0, 1, 8, 0, 9, 0, 77);
        comes(x, 1, 9, 0, 400, 0, 0, 100);
        comes(x, 2, 9, 0, 400, 0, 100, 100);
        Check.dueLetter("another sender goes on with it", x, 0, 2, 8, 0, 9, 200, 77);
        x.go(1, 0);
        x.sync();
        comes(x, 2, 9, 0, 400, 1, 200, 0);
        Check.dueLetter("it outlives a term", x, 0, 2, 8, 1, 9, 200, 77);
    }

    private static void promise11AnotherBase() {
        LogServer x = new LogServer(0, 7, 0L);
        comes(x, 1, 9, 0, 400, 0, 0, 100);
        comes(x, 1, 8, 0, 400, 0, 100, 100);
        Check.dueLetter("one below", x, 0, 1, 8, 0, 8, 0, 77);
        comes(x, 1, 10, 0, 400, 0, 100, 100);
        Check.dueLetter("one above", x, 0, 1, 8, 0, 10, 0, 77);
        comes(x, 1, 9, 0, 400, 0, 100, 0);
        Check.dueLetter("that of this one is left", x, 0, 1, 8, 0, 9, 100, 77);
        comes(x, 1, 10, 0, 400, 0, 0, 50);
        comes(x, 1, 9, 0, 400, 0, 100, 100);
        Check.dueLetter("a new one takes its place", x, 0, 1, 8, 0, 9, 0, 77);
    }

    private static void promise11SizeToldNow() {
        int[] sizes = {101, 100};
        int[] base = {0, 9};
        for (int k = 0; k < sizes.length; k++) {
            LogServer x = new LogServer(0, 7, 0L);
            comes(x, 1, 9, 0, 400, 0, 0, 60);
            comes(x, 1, 9, 0, sizes[k], 0, 60, 40);
            Check.due("GOT 100, size told now " + sizes[k], x.state(7), base[k]);
        }
        LogServer x = new LogServer(0, 7, 0L);
        comes(x, 1, 9, 0, 400, 0, 0, 60);
        comes(x, 1, 9, 0, 60, 0, 60, 0);
        Check.due("without bytes, when the size told now is GOT", x.state(7), 9);
        Check.due("a write", x.state(14), 1);
        x.sync();
        Check.dueLetter("GOT", x, 0, 1, 8, 0, 9, 60, 77);
        comes(x, 1, 10, 0, 60, 0, 60, 0);
        Check.dueLetter("there is no assembly then", x, 0, 1, 8, 0, 10, 0, 77);
    }

    private static void promise11OnePiece() {
        LogServer x = new LogServer(0, 7, 0L);
        comes(x, 1, 1, 0, 1, 0, 0, 1);
        x.sync();
        Check.dueLetter("one byte", x, 0, 1, 8, 0, 1, 1, 77);
        Check.due("BASE", x.state(7), 1);
        comes(x, 1, 2, 0, 200, 0, 0, 199);
        Check.due("one byte is missing", x.state(7), 1);
        comes(x, 1, 2, 0, 200, 0, 0, 200);
        Check.due("200 in one", x.state(7), 2);
        comes(x, 1, 3, 0, 201, 0, 0, 200);
        Check.due("201 are too many for one", x.state(7), 2);
        comes(x, 1, 3, 0, 201, 0, 200, 1);
        Check.due("the last byte", x.state(7), 3);
    }

    private static void promise11EntryOfThisTerm() {
        int[][] rows = {{3, 1, 5}, {3, 2, 3}, {5, 2, 5}, {5, 1, 5}, {4, 2, 5}, {6, 2, 6}};
        for (int[] row : rows) {
            LogServer x = Make.withLog(0, 7, 1, 1, 1, 2, 2);
            comes(x, 1, row[0], row[1], 10, 2, 0, 10);
            String what = "BASE " + row[0] + " of term " + row[1];
            Check.due(what, x.state(7), row[0]);
            Check.due(what + ": LAST", x.state(8), row[2]);
            Check.due(what + ": its term", x.log(row[0], 0), row[1]);
            Check.due(what + ": COMMIT", x.state(4), row[0]);
            Check.due(what + ": APPLIED", x.state(5), row[0]);
            for (int i = row[0] + 1; i <= row[2]; i++) {
                Check.dueEntry(what, x, i, 2, 2, 99 + i);
            }
            Check.outOfBounds(what + ": no kind", () -> x.log(row[0], 1));
            Check.outOfBounds(what + ": what is below", () -> x.log(row[0] - 1, 0));
            Check.outOfBounds(what + ": what is behind", () -> x.log(row[2] + 1, 0));
        }
    }

    private static void promise11LastAndSynced() {
        int[][] rows = {{3, 9, 3}, {5, 9, 5}, {6, 9, 5}, {3, 1, 5}, {5, 1, 5}};
        for (int[] row : rows) {
            LogServer x = Make.withLog(0, 7, 1, 1, 1, 1, 1);
            comes(x, 1, row[0], row[1], 10, 9, 0, 10);
            Check.due("SYNCED behind BASE " + row[0] + " of term " + row[1], x.state(6), row[2]);
            x.sync();
            Check.due("is LAST at the sync", x.state(6), x.state(8));
        }
    }

    private static void promise11FullLog() {
        LogServer x = Make.follower(0, 1, 250);
        x.tick(200);
        x.sync();
        x.answer(1, 3, false);
        x.sync();
        comes(x, 1, 250, 1, 10, 3, 0, 10);
        Check.due("one entry is left", x.state(8), 251);
        Check.dueEntry("its own", x, 251, 2, 0, 0);
        Make.tell(x, 6, 3);
        x.append(1, 3, 251, 2, 0, 0);
        Check.due("there is room again", x.state(8), 257);
    }

    private static void promise11Done() {
        LogServer x = committed2of4();
        comes(x, 1, 4, 1, 10, 1, 0, 10);
        Check.due("what the snapshot has is not done", x.state(18), 2);
        x.append(1, 1, 4, 1, 4, 0);
        Check.due("nor later", x.state(18), 2);
        x.entry(1, 2, 5);
        x.append(1, 1, 4, 1, 5, 0);
        Check.due("what is behind it is", x.done(0, 0), 5);
    }

    private static void promise12Numbers() {
        LogServer x = new LogServer(0, 7, 0L);
        int[] bad = {-1, MOST + 1};
        for (int n : bad) {
            Check.illegal("term " + n, () -> x.stored(1, n, 0, 0, 0));
            Check.illegal("base " + n, () -> x.stored(1, 0, n, 0, 0));
            Check.illegal("bytes " + n, () -> x.stored(1, 0, 0, n, 0));
            Check.illegal("round " + n, () -> x.stored(1, 0, 0, 0, n));
        }
        Check.outOfBounds("from -1", () -> x.stored(-1, 0, 0, 0, 0));
        Check.outOfBounds("from itself", () -> x.stored(0, 0, 0, 0, 0));
        Check.outOfBounds("from 7", () -> x.stored(7, 0, 0, 0, 0));
        x.stored(6, 0, 0, 0, 0);
        Check.due("all are 0", x.state(1), 0);
        x.stored(1, MOST, MOST, MOST, MOST);
        Check.due("all are 1000000", x.state(1), MOST);
    }

    private static void promise12TermAndPeers() {
        LogServer x = sending(450);
        x.stored(1, 0, 3, 200, 9);
        Check.due("TERM - 1", x.peer(1, 4), 0);
        x.stored(3, 1, 3, 200, 9);
        Check.due("no peer", x.peer(3, 4), 0);
        Check.due("nor is its round taken", x.peer(3, 5), 0);
        x.stored(1, 1, 3, 200, 9);
        Check.due("TERM, a peer", x.peer(1, 4), 200);
        x.stored(1, 2, 3, 200, 9);
        Check.due("TERM + 1", x.state(0), 0);
        LogServer learner = Make.leader(0, 1);
        learner.learners(2);
        learner.sync();
        learner.compact(300);
        learner.sync();
        learner.appended(1, 1, false, 1, 1);
        learner.stored(1, 1, 2, 200, 1);
        Check.due("a learner is a peer", learner.peer(1, 4), 200);
    }

    private static void promise12AllOfTheSize() {
        int[] bytes = {0, 1, 449, 450, 451, MOST};
        int[] offset = {0, 1, 449, 0, 0, 0};
        for (int k = 0; k < bytes.length; k++) {
            LogServer x = sending(450);
            x.stored(1, 1, 3, bytes[k], 1);
            boolean all = k > 2;
            String what = bytes[k] + " of 450";
            Check.due(what + ": OFFSET", x.peer(1, 4), offset[k]);
            Check.due(what + ": MATCH", x.peer(1, 1), all ? 3 : 0);
            Check.due(what + ": PROBING", x.peer(1, 3), 1);
            Check.due(what + ": NEXT", x.peer(1, 0), all ? 4 : 1);
            Check.due(what + ": FLYING", x.peer(1, 2), all ? 0 : 1);
            if (!all) {
                Check.dueLetter(what, x, 0, 1, 7, 1, 3, 1, 7, 450, offset[k], Math.min(200, 450 - offset[k]), 1);
            }
        }
    }

    private static void promise12AnotherBase() {
        int[] bases = {2, 4, 0, MOST};
        for (int base : bases) {
            LogServer x = sending(450);
            x.stored(1, 1, 3, 200, 1);
            x.stored(1, 1, base, 450, 1);
            Check.due("for " + base + ": OFFSET", x.peer(1, 4), 0);
            Check.due("for " + base + ": MATCH", x.peer(1, 1), 0);
            Check.dueLetter("for " + base + ": begins anew", x, 0, 1, 7, 1, 3, 1, 7, 450, 0, 200, 1);
        }
    }

    private static void promise12NoSnapshot() {
        LogServer x = Make.leader(0, 7, 1);
        x.appended(1, 1, true, 1, 1);
        x.command(5);
        x.sync();
        Check.due("NEXT", x.peer(1, 0), 3);
        x.stored(1, 1, 0, 0, 1);
        Check.due("BASE 0 has size 0: it is all there, NEXT was 1", x.letter(0, 3), 0);
        Check.due("MATCH stays", x.peer(1, 1), 1);
        Check.due("PROBING", x.peer(1, 3), 1);
        Check.due("FLYING", x.peer(1, 2), 1);
        x.stored(1, 1, 1, 0, 1);
        Check.due("another base: NEXT stays", x.peer(1, 0), 3);
        Check.due("FLYING is 0", x.peer(1, 2), 0);
        Check.due("OFFSET", x.peer(1, 4), 0);
    }

    private static void promise12PiecesOf200() {
        int[] sizes = {1, 199, 200, 201, 400, 401};
        for (int size : sizes) {
            LogServer x = sending(size);
            int at = 0;
            while (at < size) {
                int bytes = Math.min(200, size - at);
                Check.dueLetter("size " + size, x, 0, 1, 7, 1, 3, 1, 7, size, at, bytes, 1);
                Check.due("not yet", x.peer(1, 1), 0);
                at += bytes;
                x.stored(1, 1, 3, at, 1);
            }
            Check.due("size " + size + ": all", x.peer(1, 1), 3);
            Check.due("OFFSET begins anew", x.peer(1, 4), 0);
            Check.due("no more pieces", x.peer(1, 2), 0);
        }
    }

    private static void promise12OneIsFlying() {
        LogServer x = sending(450);
        int went = x.state(16);
        x.command(1);
        x.sync();
        Check.due("while one flies no other goes", x.state(16) - went, 1);
        Check.due("but to the other peer", x.letter(0, 0), 2);
        went = x.state(16);
        x.appended(1, 1, true, 0, 1);
        Check.due("none flies: one goes", x.state(16) - went, 1);
        Check.due("a piece", x.letter(0, 1), 7);
        went = x.state(16);
        x.tick(10);
        Check.due("who answered gets nothing at the beat", x.letter(0, 0), 2);
        Check.due("one letter", x.state(16) - went, 1);
        went = x.state(16);
        x.tick(10);
        Check.due("who did not gets it again", x.state(16) - went, 2);
        Check.dueLetter("from OFFSET on", x, 1, 1, 7, 1, 3, 1, 7, 450, 0, 200, 3);
    }

    private static void promise12NextAtTheBase() {
        int[] hints = {1, 2, 3, 4};
        for (int h : hints) {
            LogServer x = leaderWithSnapshot(450);
            x.command(9);
            x.sync();
            x.appended(1, 1, false, h, 1);
            Check.due("NEXT " + h + ", BASE 3", x.letter(0, 1), h <= 3 ? 7 : 5);
            Check.due("to the sender", x.letter(0, 0), 1);
        }
    }

    private static void promise12Acknowledges() {
        LogServer x = sending(450);
        x.tick(10);
        int[] rounds = {2, 1, 3, 0, 2};
        int[] acks = {2, 2, 3, 3, 3};
        for (int k = 0; k < rounds.length; k++) {
            x.tick(1);
            x.stored(1, 1, 3, 100, rounds[k]);
            Check.due("ACK, round " + rounds[k], x.peer(1, 5), acks[k]);
            Check.due("SEEN", x.peer(1, 6), x.state(13));
        }
    }

    /** Server 0 leads 0, 1, 2 in term 1 with BASE and LAST 3, which 2 has; a piece goes to 1, none yet stored. */
    private static LogServer sending(int size) {
        LogServer x = leaderWithSnapshot(size);
        x.appended(1, 1, false, 1, 1);
        Check.due("a piece flies", x.peer(1, 2), 1);
        return x;
    }

    private static LogServer leaderWithSnapshot(int size) {
        LogServer x = Make.leader(0, 7, 1);
        x.appended(2, 1, true, 1, 1);
        x.command(1);
        x.command(2);
        x.sync();
        x.appended(2, 1, true, 3, 1);
        x.compact(size);
        x.sync();
        return x;
    }

    private static void promise20Sizes() {
        int[] bad = {Integer.MIN_VALUE, -1, 0, MOST + 1, Integer.MAX_VALUE};
        for (int size : bad) {
            LogServer x = committed2of4();
            Check.due("size " + size, x.compact(size), false);
            Check.due("BASE", x.state(7), 0);
            Check.due("no write", x.state(14), 0);
            Check.due("the entries are there", x.log(1, 2), 100);
        }
        LogServer least = committed2of4();
        Check.due("1", least.compact(1), true);
        LogServer most = committed2of4();
        Check.due("1000000", most.compact(MOST), true);
        most.sync();
        most.tick(200);
        most.preanswer(1, 2, true);
        most.sync();
        most.answer(1, 2, true);
        most.sync();
        most.appended(2, 2, false, 1, 1);
        Check.dueLetter("is told", most, 0, 2, 7, 2, 2, 1, 7, MOST, 0, 200, 1);
        most.stored(2, 2, 2, MOST - 1, 1);
        Check.dueLetter("to the last byte", most, 0, 2, 7, 2, 2, 1, 7, MOST, MOST - 1, 1, 1);
        most.stored(2, 2, 2, MOST, 1);
        Check.due("all", most.peer(2, 1), 2);
    }

    private static void promise20Applied() {
        LogServer none = Make.withLog(0, 7, 1, 1);
        Check.due("APPLIED is BASE, 0", none.compact(5), false);
        Check.due("no write", none.state(14), 0);
        none.append(1, 1, 2, 1, 1, 0);
        Check.due("APPLIED is BASE + 1", none.compact(5), true);
        Check.due("BASE", none.state(7), 1);
        none.sync();
        Check.due("APPLIED is BASE, 1", none.compact(5), false);
        Check.due("no write", none.state(14), 0);
        LogServer snapshot = Make.withSnapshot(0, 9, 3, 7, 10);
        Check.due("APPLIED is BASE, 9", snapshot.compact(5), false);
        LogServer again = committed2of4();
        again.restart();
        Check.due("what was applied before a restart does not count", again.compact(5), false);
    }

    private static void promise20TermAndMembers() {
        LogServer x = new LogServer(0, 7, 0L);
        x.entry(1, 1, 15);
        x.entry(2, 2, 1);
        x.entry(3, 1, 31);
        x.append(1, 3, 0, 0, 1, 0);
        x.compact(5);
        Check.due("at APPLIED itself", x.log(1, 0), 1);
        x.append(1, 3, 3, 3, 2, 0);
        x.compact(5);
        Check.due("behind it", x.log(2, 0), 2);
        Check.due("the members of the log", x.state(9), 31);
        x.entry(4, 2, 1);
        x.append(1, 4, 2, 2, 0, 0);
        Check.due("those at APPLIED, when the log is cut", x.state(9), 15);
        x.append(1, 4, 3, 4, 3, 0);
        x.compact(5);
        Check.due("those of the snapshot before", x.state(9), 15);
        LogServer first = committed2of4();
        first.compact(5);
        Check.due("the first ones", first.state(9), 7);
    }

    private static void promise20AllOrNoneGone() {
        LogServer x = Make.withLog(0, 7, 1, 1, 1);
        x.append(1, 1, 3, 1, 3, 0);
        x.compact(5);
        Check.due("all are gone: LAST", x.state(8), 3);
        Check.outOfBounds("none behind", () -> x.log(4, 0));
        Check.due("SYNCED", x.state(6), 3);
        LogServer one = Make.withLog(0, 7, 1, 1, 1);
        one.append(1, 1, 3, 1, 2, 0);
        one.compact(5);
        Check.dueEntry("one is left", one, 3, 1, 2, 102);
        Check.outOfBounds("BASE has no kind", () -> one.log(2, 1));
        Check.outOfBounds("BASE has no value", () -> one.log(2, 2));
        Check.outOfBounds("BASE - 1", () -> one.log(1, 0));
    }

    private static void promise20Offsets() {
        LogServer x = sending(450);
        x.stored(1, 1, 3, 200, 1);
        x.command(9);
        x.sync();
        x.appended(2, 1, true, 4, 1);
        Check.due("a wrong size", x.compact(0), false);
        Check.due("leaves OFFSET", x.peer(1, 4), 200);
        Check.due("a right one", x.compact(7), true);
        for (int s = 0; s < 7; s++) {
            Check.due("OFFSET of " + s, x.peer(s, 4), 0);
        }
        Check.due("FLYING stays", x.peer(1, 2), 1);
        Check.due("NEXT stays", x.peer(1, 0), 1);
    }

    private static void promise20InEachRole() {
        LogServer asks = committed2of4();
        asks.tick(200);
        Check.due("who asks", asks.compact(5), true);
        LogServer stands = committed2of4();
        stands.go(1, 1);
        Check.due("who stands", stands.compact(5), true);
        Check.due("stands on", stands.state(0), 2);
        LogServer leads = Make.leader(0, 1);
        Check.due("who leads", leads.compact(5), true);
        Check.due("leads on", leads.state(0), 3);
        Check.due("a read waits for COMMIT, which is BASE, of TERM", leads.callFor(leads.read()), 1);
    }
}
