import java.util.LinkedHashMap;
import java.util.Map;

/** Servers (each is number 0) in every role, with much that is under way, for the calls that must leave it alone. */
final class States {
    private States() {
    }

    static Map<String, Twins.Recipe> all() {
        Map<String, Twins.Recipe> all = new LinkedHashMap<>();
        all.put("new", () -> new LogServer(0, 7, 5L));
        all.put("follows", States::follows);
        all.put("follows, dirty", States::dirty);
        all.put("asks", States::asks);
        all.put("stands", States::stands);
        all.put("leads", States::leads);
        all.put("hands over", States::handsOver);
        all.put("sends a snapshot", States::sendsSnapshot);
        all.put("changes the members", States::changesMembers);
        all.put("restarted", States::restarted);
        return all;
    }

    static LogServer follows() {
        LogServer x = Make.withLog(0, 7, 1, 1, 2, 2);
        x.append(1, 2, 4, 2, 2, 3);
        x.compact(300);
        x.sync();
        x.tick(20);
        x.append(1, 2, 4, 2, 3, 4);
        return x;
    }

    static LogServer dirty() {
        LogServer x = follows();
        x.describe(9, 2, 7, 400);
        x.piece(1, 2, 0, 200, 3);
        x.entry(3, 2, 7);
        x.append(1, 3, 4, 2, 3, 5);
        x.preask(2, 9, 9, 9);
        return x;
    }

    static LogServer asks() {
        LogServer x = new LogServer(0, 31, 5L);
        x.tick(200);
        x.preanswer(1, 1, true);
        return x;
    }

    static LogServer stands() {
        LogServer x = new LogServer(0, 31, 5L);
        x.go(1, 0);
        x.sync();
        x.answer(1, 1, true);
        return x;
    }

    static LogServer leads() {
        LogServer x = Make.leader(0, 31, 1, 2);
        x.appended(1, 1, true, 1, 1);
        x.appended(2, 1, true, 1, 1);
        x.command(4);
        x.sync();
        x.tick(10);
        x.command(5);
        x.read();
        return x;
    }

    static LogServer handsOver() {
        LogServer x = leads();
        x.hand(3);
        x.tick(30);
        return x;
    }

    static LogServer sendsSnapshot() {
        LogServer x = leads();
        x.sync();
        x.appended(1, 1, true, 3, 1);
        x.appended(2, 1, true, 3, 1);
        x.compact(500);
        x.sync();
        x.appended(3, 1, false, 1, 1);
        x.stored(3, 1, 3, 200, 1);
        return x;
    }

    static LogServer changesMembers() {
        LogServer x = leads();
        x.sync();
        x.appended(1, 1, true, 3, 1);
        x.appended(2, 1, true, 3, 1);
        x.members(7);
        return x;
    }

    static LogServer restarted() {
        LogServer x = leads();
        x.restart();
        return x;
    }
}
