/**
 * A majority has more than half of OLD, and of NEW, if that is not empty: half of them is not enough, one more is;
 * wherever the document asks for one (PREANSWER, ANSWER, SYNC, COUNTS, READS, SEEN).
 */
public final class EdgesOfMajoritiesTest {
    private static final int YES = 1;
    private static final int NO = 0;

    /** A code of members, the servers beside server 0 itself, and whether they and it are a majority. */
    private static final int[][] ROWS = {
        {1, 0, YES},
        {3, 0, NO}, {3, 0b10, YES},
        {7, 0, NO}, {7, 0b10, YES}, {7, 0b100, YES}, {7, 0b1000, NO},
        {15, 0b10, NO}, {15, 0b110, YES},
        {31, 0b10, NO}, {31, 0b110, YES}, {31, 0b1100010, NO},
        {63, 0b110, NO}, {63, 0b1110, YES},
        {127, 0b110, NO}, {127, 0b1110, YES}, {127, 0b1110000, YES},
        {joint(1, 1), 0, YES},
        {joint(1, 3), 0, NO}, {joint(1, 3), 0b10, YES},
        {joint(1, 2), 0, NO}, {joint(1, 2), 0b10, YES},
        {joint(2, 1), 0, NO}, {joint(2, 1), 0b10, YES},
        {joint(3, 15), 0b10, NO}, {joint(3, 15), 0b1100, NO}, {joint(3, 15), 0b110, YES},
        {joint(15, 3), 0b10, NO}, {joint(15, 3), 0b1100, NO}, {joint(15, 3), 0b110, YES},
        {joint(7, 24), 0b1010, NO}, {joint(7, 24), 0b11000, NO}, {joint(7, 24), 0b11010, YES},
        {joint(7, 56), 0b1010, NO}, {joint(7, 56), 0b11010, YES},
        {joint(7, 127), 0b110, NO}, {joint(7, 127), 0b111000, NO}, {joint(7, 127), 0b11010, YES},
        {7 + 16384 * 8, 0b1000, NO}, {7 + 16384 * 8, 0b1010, YES},
        {3 + 16384 * 124, 0b1111100, NO}, {3 + 16384 * 124, 0b10, YES},
    };

    private EdgesOfMajoritiesTest() {
    }

    public static void main(String[] args) {
        for (int[] row : ROWS) {
            String what = "code " + row[0] + ", servers " + Integer.toBinaryString(row[1] | 1);
            asked(what, row[0], row[1], row[2]);
            chosen(what, row[0], row[1], row[2]);
            chosenAtTheSync(what, row[0], row[1], row[2]);
            counted(what, row[0], row[1], row[2]);
            countedAtTheSync(what, row[0], row[1], row[2]);
            seen(what, row[0], row[1], row[2]);
            if (row[0] / 128 % 128 == 0) {
                read(what, row[0], row[1], row[2]);
            }
        }
        chosenWithoutItself();
        countedWithoutItself();
        readWhileJoint();
        Check.end("EdgesOfMajoritiesTest");
    }

    private static int joint(int old, int fresh) {
        return old + 128 * fresh;
    }

    /** Promises 2 and 4: are the votes a majority, it campaigns. */
    private static void asked(String what, int code, int servers, int majority) {
        LogServer x = Make.withMembers(0, code);
        x.tick(200);
        eachOf(servers, s -> x.preanswer(s, 2, true));
        Check.due("PREANSWER: " + what, x.state(0), majority == YES ? 2 : 1);
        Check.due("PREANSWER, term: " + what, x.state(1), majority == YES ? 2 : 1);
    }

    /** Promise 6: are they a majority, it leads. */
    private static void chosen(String what, int code, int servers, int majority) {
        LogServer x = Make.withMembers(0, code);
        x.go(6, 1);
        x.sync();
        eachOf(servers, s -> x.answer(s, 2, true));
        Check.due("ANSWER: " + what, x.state(0), majority == YES ? 3 : 2);
        Check.due("ANSWER, LAST: " + what, x.state(8), majority == YES ? 2 : 1);
    }

    /** Promise 14: while it stands, it votes for itself: a majority: it leads. */
    private static void chosenAtTheSync(String what, int code, int servers, int majority) {
        LogServer x = Make.withMembers(0, code);
        x.go(6, 1);
        eachOf(servers, s -> x.answer(s, 2, true));
        x.sync();
        Check.due("SYNC: " + what, x.state(0), majority == YES ? 3 : 2);
    }

    /** Promise 9: the greatest number that a majority has as MATCH. */
    private static void counted(String what, int code, int servers, int majority) {
        LogServer x = leader(code);
        eachOf(servers, s -> x.appended(s, 2, true, 2, 1));
        Check.due("COUNTS: " + what, x.state(4), majority == YES ? 2 : 0);
    }

    /** Promise 14: while it leads, its own MATCH is SYNCED, and it counts. */
    private static void countedAtTheSync(String what, int code, int servers, int majority) {
        if (servers != 0 && isMajorityWithoutItself(code, servers)) {
            return;
        }
        LogServer x = leaderNotSynced(code);
        eachOf(servers, s -> x.appended(s, 2, true, 2, 1));
        Check.due("COUNTS before the SYNC: " + what, x.state(4), 0);
        x.sync();
        Check.due("COUNTS at the SYNC: " + what, x.state(4), majority == YES ? 2 : 0);
    }

    /** Promise 2: is what a majority has as SEEN below NOW - 100, it steps down. */
    private static void seen(String what, int code, int servers, int majority) {
        LogServer x = leader(code);
        x.tick(50);
        eachOf(servers, s -> x.appended(s, 2, true, 0, 1));
        Check.due("SEEN, leads: " + what, x.state(0), 3);
        Check.due("SEEN, rings: " + what, x.tick(51), true);
        Check.due("SEEN: " + what, x.state(0), majority == YES ? 3 : 0);
    }

    /** Promise 16: a majority has ACK not below their round. */
    private static void read(String what, int code, int servers, int majority) {
        LogServer x = leader(code);
        eachOf(code & 126, s -> x.appended(s, 2, true, 2, 1));
        x.read();
        x.tick(10);
        eachOf(servers, s -> x.appended(s, 2, true, 2, 2));
        Check.due("READS: " + what, x.call(0), majority);
    }

    private static void chosenWithoutItself() {
        LogServer x = new LogServer(0, 15, 0L);
        x.go(1, 0);
        x.answer(1, 1, true);
        x.answer(2, 1, true);
        Check.due("two of four, its own vote is not on disk", x.state(0), 2);
        x.answer(3, 1, true);
        Check.due("three of four without its own vote", x.state(0), 3);
        Check.due("its own vote never came", x.state(10), 14);
    }

    private static void countedWithoutItself() {
        LogServer x = Make.leader(0, 15, 1, 2, 3);
        x.command(5);
        x.appended(1, 1, true, 2, 1);
        x.appended(2, 1, true, 2, 1);
        Check.due("two of four, it is not on its own disk", x.state(4), 1);
        x.appended(3, 1, true, 2, 1);
        Check.due("three of four without itself", x.state(4), 2);
    }

    private static void readWhileJoint() {
        LogServer x = leader(joint(7, 120));
        x.read();
        x.tick(10);
        x.appended(1, 2, true, 0, 2);
        x.appended(3, 2, true, 0, 2);
        x.appended(4, 2, true, 0, 2);
        eachOf(0b1111110, s -> x.appended(s, 2, true, 2, 1));
        Check.due("it is applied", x.state(5), 2);
        Check.due("two of three and two of four", x.call(0), 0);
        LogServer y = leader(joint(7, 120));
        y.read();
        y.tick(10);
        y.appended(1, 2, true, 0, 2);
        y.appended(3, 2, true, 0, 2);
        y.appended(4, 2, true, 0, 2);
        y.appended(5, 2, true, 0, 2);
        eachOf(0b0111110, s -> y.appended(s, 2, true, 2, 1));
        Check.due("it is applied", y.state(5), 2);
        Check.due("two of three and three of four", y.call(0), 1);
    }

    private static boolean isMajorityWithoutItself(int code, int servers) {
        int old = code % 128;
        int fresh = code / 128 % 128;
        return 2 * Integer.bitCount(old & servers) > Integer.bitCount(old)
            && (fresh == 0 || 2 * Integer.bitCount(fresh & servers) > Integer.bitCount(fresh));
    }

    /** Server 0 leads in term 2 at NOW 0, with entry 1, the members, and 2, its EMPTY one, on its disk. */
    private static LogServer leader(int code) {
        LogServer x = leaderNotSynced(code);
        x.sync();
        return x;
    }

    private static LogServer leaderNotSynced(int code) {
        LogServer x = Make.withMembers(0, code);
        x.go(6, 1);
        x.sync();
        int others = (code | code >> 7) & 126;
        for (int s = 1; s < 7 && x.state(0) == 2; s++) {
            if ((others >> s & 1) == 1) {
                x.answer(s, 2, true);
            }
        }
        Check.due("code " + code + ": leads", x.state(0), 3);
        return x;
    }

    /** What a server does. */
    private interface Deed {
        void by(int server);
    }

    private static void eachOf(int servers, Deed deed) {
        for (int s = 0; s < 7; s++) {
            if ((servers >> s & 1) == 1) {
                deed.by(s);
            }
        }
    }
}
