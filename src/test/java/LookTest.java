/** Promises 21 to 28: what a restart leaves, and what can be looked at. */
public final class LookTest {
    private LookTest() {
    }

    public static void main(String[] args) {
        restartKeepsTheDisk();
        restartForgetsTheRest();
        restartKeepsWhatWasTold();
        restartOfALeader();
        restartLosesAnAssembly();
        stateIsTold();
        logIsTold();
        peerIsTold();
        letterIsTold();
        doneIsTold();
        callIsTold();
        Check.end("LookTest");
    }

    private static void restartKeepsTheDisk() {
        LogServer x = Make.withLog(0, 7, 1, 1, 2, 2);
        x.append(1, 2, 4, 2, 3, 0);
        x.compact(44);
        x.entry(2, 1, 15);
        x.append(1, 2, 4, 2, 4, 0);
        x.tick(10);
        int went = x.state(16);
        int done = x.state(18);
        x.restart();
        Check.due("clean", x.state(14), 0);
        Check.due("what was not synced stays too", x.state(8), 5);
        Check.due("SYNCED", x.state(6), 5);
        Check.due("BASE", x.state(7), 3);
        Check.due("its term", x.log(3, 0), 2);
        Check.due("COMMIT", x.state(4), 3);
        Check.due("APPLIED", x.state(5), 3);
        Check.due("members", x.state(9), 15);
        Check.due("term", x.state(1), 2);
        Check.due("letters that wait are lost", x.state(17), 0);
        Check.due("those that went stay", x.state(16), went);
        Check.due("their numbers too", x.letter(0, 1), 6);
        Check.due("NOW", x.state(13), 10);
        Check.due("commands done stay", x.state(18), done);
        Check.due("and are told", x.done(0, 0), 4);
        x.append(1, 2, 5, 2, 5, 0);
        Check.due("what was applied is done again", x.state(18), done + 1);
        LogServer voted = new LogServer(0, 7, 0L);
        voted.ask(1, 3, 0, 0);
        voted.restart();
        Check.due("VOTED", voted.state(2), 1);
        voted.ask(2, 3, 9, 9);
        Check.dueLetter("it does not vote twice", voted, 0, 2, 4, 3, 0);
    }

    private static void restartForgetsTheRest() {
        LogServer x = new LogServer(0, 7, 0L);
        x.append(1, 0, 0, 0, 0, 0);
        x.tick(200);
        Check.due("asks", x.state(0), 1);
        int alarm = x.state(12);
        x.restart();
        Check.due("follows", x.state(0), 0);
        Check.due("no votes", x.state(10), 0);
        Check.due("no leader", x.state(3), -1);
        Check.due("ROW stays, and is drawn from", x.state(12), fourth());
        Check.due("another alarm", x.state(12) != alarm, true);
        LogServer heard = new LogServer(0, 7, 0L);
        heard.append(1, 0, 0, 0, 0, 0);
        heard.restart();
        Check.due("a leader is forgotten", heard.state(3), -1);
        heard.preask(2, 1, 0, 0);
        Check.due("no leader was heard", heard.letter(0, 3), 1);
    }

    /** The alarm when it is drawn a fourth time from row 0, at 200. */
    private static int fourth() {
        long row = 0;
        for (int k = 0; k < 4; k++) {
            row = row * 6364136223846793005L + 1442695040888963407L;
        }
        return 250 + (int) ((row >>> 33) % 50);
    }

    private static void restartKeepsWhatWasTold() {
        LogServer x = new LogServer(0, 7, 0L);
        x.entry(1, 2, 5);
        x.describe(9, 1, 7, 10);
        x.restart();
        Check.due("the entry is there", x.entry(1, 2, 6), 2);
        x.append(1, 1, 0, 0, 0, 0);
        Check.due("both are written", x.state(8), 2);
        x.piece(1, 1, 0, 10, 0);
        Check.due("the snapshot is described", x.state(7), 9);
    }

    private static void restartOfALeader() {
        LogServer x = Make.leader(0, 7, 1);
        x.command(5);
        x.read();
        x.hand(1);
        x.restart();
        Check.due("follows", x.state(0), 0);
        Check.due("ROUND", x.state(15), 0);
        Check.due("HANDING", x.state(11), -1);
        Check.due("LAST", x.state(8), 2);
        Check.due("SYNCED", x.state(6), 2);
        Check.due("calls are there", x.state(19), 2);
        Check.due("dropped", x.call(0), 2);
        Check.due("dropped", x.call(1), 2);
        Check.due("for what", x.callFor(0), 2);
        Check.outOfBounds("it does not lead", () -> x.peer(1, 0));
        Check.due("nothing waits", x.sync(), 0);
        Check.due("nor does it vote for itself", x.state(10), 0);
    }

    private static void restartLosesAnAssembly() {
        LogServer x = new LogServer(0, 7, 0L);
        x.describe(9, 1, 7, 300);
        x.piece(1, 1, 0, 200, 0);
        x.restart();
        x.describe(9, 1, 7, 300);
        x.piece(1, 1, 200, 100, 0);
        Check.due("BASE", x.state(7), 0);
        Check.dueLetter("from 0 again", x, 0, 1, 8, 1, 9, 0, 0);
    }

    private static void stateIsTold() {
        LogServer x = Make.leader(3, 15, 0, 1);
        x.tick(3);
        x.command(7);
        x.hand(1);
        int[] want = {3, 1, 3, 3, 0, 0, 1, 0, 2, 15, 11, 1, 10, 3, 1, 1, 6, 0, 0, 1};
        for (int what = 0; what < want.length; what++) {
            Check.due("state(" + what + ")", x.state(what), want[what]);
        }
        int[] bad = {-1, 20, Integer.MAX_VALUE, Integer.MIN_VALUE};
        for (int what : bad) {
            Check.outOfBounds("state(" + what + ")", () -> x.state(what));
        }
    }

    private static void logIsTold() {
        LogServer x = Make.withLog(0, 7, 1, 2, 2);
        x.append(1, 2, 3, 2, 1, 0);
        x.compact(5);
        Check.due("BASE", x.log(1, 0), 1);
        Check.dueEntry("the first", x, 2, 2, 2, 101);
        Check.dueEntry("the last", x, 3, 2, 2, 102);
        int[] bad = {0, 4, -1, Integer.MAX_VALUE, Integer.MIN_VALUE};
        for (int i : bad) {
            Check.outOfBounds("log(" + i + ", 0)", () -> x.log(i, 0));
        }
        int[] nothing = {-1, 3, Integer.MAX_VALUE, Integer.MIN_VALUE};
        for (int what : nothing) {
            Check.outOfBounds("log(2, " + what + ")", () -> x.log(2, what));
            Check.outOfBounds("log(1, " + what + ")", () -> x.log(1, what));
        }
        Check.outOfBounds("of BASE no kind", () -> x.log(1, 1));
        Check.outOfBounds("of BASE no value", () -> x.log(1, 2));
    }

    private static void peerIsTold() {
        LogServer x = Make.leader(0, 7, 1);
        x.tick(4);
        x.appended(1, 1, true, 1, 1);
        x.command(1);
        int[] want = {3, 1, 1, 0, 0, 1, 4};
        for (int what = 0; what < 7; what++) {
            Check.due("peer(1, " + what + ")", x.peer(1, what), want[what]);
        }
        Check.due("itself", x.peer(0, 1), 1);
        Check.due("one who is no peer", x.peer(6, 0), 1);
        int[] bad = {-1, 7, Integer.MAX_VALUE, Integer.MIN_VALUE};
        for (int n : bad) {
            Check.outOfBounds("server " + n, () -> x.peer(n, 0));
            Check.outOfBounds("what " + n, () -> x.peer(1, n));
        }
        LogServer follows = new LogServer(0, 7, 0L);
        Check.outOfBounds("follows", () -> follows.peer(1, 0));
        follows.tick(60);
        Check.outOfBounds("asks", () -> follows.peer(1, 0));
        follows.go(1, 0);
        Check.outOfBounds("stands", () -> follows.peer(1, 0));
    }

    private static void letterIsTold() {
        LogServer x = new LogServer(0, 7, 0L);
        Check.outOfBounds("none went", () -> x.letter(0, 0));
        for (int k = 1; k <= 70; k++) {
            x.preask(1 + k % 6, k, 0, 0);
            int only = k;
            if (only < 64) {
                Check.outOfBounds("so many went", () -> x.letter(only, 0));
            }
        }
        for (int k = 0; k < 64; k++) {
            Check.dueLetter("the latest 64", x, k, 1 + (70 - k) % 6, 2, 70 - k, 1);
        }
        int[] bad = {64, 69, -1, Integer.MAX_VALUE, Integer.MIN_VALUE};
        for (int k : bad) {
            Check.outOfBounds("letter(" + k + ", 0)", () -> x.letter(k, 0));
        }
        int[] nothing = {4, 25, 26, -1, Integer.MAX_VALUE, Integer.MIN_VALUE};
        for (int what : nothing) {
            Check.outOfBounds("letter(0, " + what + ")", () -> x.letter(0, what));
        }
        Check.due("how many went", x.state(16), 70);
    }

    private static void doneIsTold() {
        LogServer x = new LogServer(0, 7, 0L);
        Check.outOfBounds("none", () -> x.done(0, 0));
        for (int p = 0; p < 72; p += 6) {
            for (int k = 1; k <= 6; k++) {
                x.entry(1, 2, -(p + k));
            }
            x.append(1, 1, p, p == 0 ? 0 : 1, p + 6, 0);
        }
        Check.due("how many", x.state(18), 72);
        for (int k = 0; k < 64; k++) {
            Check.due("number", x.done(k, 0), 72 - k);
            Check.due("value", x.done(k, 1), k - 72);
        }
        int[] bad = {64, 71, -1, Integer.MAX_VALUE, Integer.MIN_VALUE};
        for (int k : bad) {
            Check.outOfBounds("done(" + k + ", 0)", () -> x.done(k, 0));
        }
        int[] nothing = {2, -1, Integer.MAX_VALUE, Integer.MIN_VALUE};
        for (int what : nothing) {
            Check.outOfBounds("done(0, " + what + ")", () -> x.done(0, what));
        }
    }

    private static void callIsTold() {
        LogServer x = Make.leader(0, 7, 1);
        Check.outOfBounds("none", () -> x.call(0));
        Check.outOfBounds("none", () -> x.callFor(0));
        for (int k = 0; k < 40; k++) {
            Check.due("its number", k % 2 == 0 ? x.command(k) : x.read(), k);
        }
        for (int k = 8; k < 40; k++) {
            Check.due("waits", x.call(k), 0);
            Check.due("for", x.callFor(k), k % 2 == 0 ? 2 + k / 2 : 1);
        }
        int[] bad = {7, 0, 40, -1, Integer.MAX_VALUE, Integer.MIN_VALUE};
        for (int k : bad) {
            Check.outOfBounds("call(" + k + ")", () -> x.call(k));
            Check.outOfBounds("callFor(" + k + ")", () -> x.callFor(k));
        }
        x.sync();
        x.appended(1, 1, true, 15, 1);
        for (int k = 8; k < 40; k++) {
            Check.due("commands up to 15 are answered", x.call(k), k % 2 == 0 && k <= 26 ? 1 : 0);
        }
        int late = x.command(5);
        Check.due("a new one waits where an answered one was", x.call(late), 0);
        x.tick(10);
        x.appended(1, 1, true, 15, 2);
        x.ask(2, 2, 0, 0);
        Check.outOfBounds("now that is the 33rd", () -> x.call(8));
        for (int k = 9; k < 40; k++) {
            Check.due("reads are answered, others dropped", x.call(k), k % 2 == 1 || k <= 26 ? 1 : 2);
        }
    }
}
