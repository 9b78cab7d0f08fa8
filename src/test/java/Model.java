import java.util.ArrayList;
import java.util.List;

/**
 * A second reading of the document, with lists and without any thrift, to hold against LogServer in long runs.
 * It answers only calls that do not throw.
 */
final class Model {
    static final int NONE = -1;

    record Entry(int term, int kind, int value) {
    }

    static final class Call {
        boolean isRead;
        int number;
        int term;
        int round;
        int outcome;
    }

    static final class Follower {
        int next;
        int match;
        int flying;
        boolean probing;
        int offset;
        int ack;
        int seen;
        boolean answered;
    }

    final int itself;
    long row;
    int now;
    int term;
    int voted = NONE;
    int base;
    int snapTerm;
    int snapCode;
    int snapSize;
    List<Entry> entries = new ArrayList<>();
    boolean dirty;
    int role;
    int leader = NONE;
    int commit;
    int applied;
    int synced;
    Integer heard;
    int alarm;
    int votes;
    int handing = NONE;
    int handedAt;
    int first;
    int round;
    Follower[] of = new Follower[7];
    List<int[]> waiting = new ArrayList<>();
    List<int[]> gone = new ArrayList<>();
    List<int[]> deeds = new ArrayList<>();
    List<Call> calls = new ArrayList<>();
    List<Entry> told = new ArrayList<>();
    int[] described;
    int assemblyBase = NONE;
    int assemblyGot;

    Model(int itself, int first, long row) {
        this.itself = (itself & 7) == 7 ? 6 : itself & 7;
        this.snapCode = (first & 127) == 0 ? 1 : first & 127;
        this.row = row;
        draw();
    }

    int last() {
        return base + entries.size();
    }

    Entry at(int number) {
        return entries.get(number - base - 1);
    }

    int termOf(int number) {
        return number == base ? snapTerm : at(number).term;
    }

    int membersNumber() {
        for (int i = last(); i > base; i--) {
            if (at(i).kind == 1) {
                return i;
            }
        }
        return base;
    }

    int code() {
        int number = membersNumber();
        return number == base ? snapCode : at(number).value;
    }

    int old() {
        return code() % 128;
    }

    int fresh() {
        return code() / 128 % 128;
    }

    int learning() {
        return code() / 16384;
    }

    boolean voter(int server) {
        return ((old() | fresh()) >> server & 1) == 1;
    }

    boolean isPeer(int server) {
        return server != itself && ((old() | fresh() | learning()) >> server & 1) == 1;
    }

    static int size(int set) {
        int n = 0;
        for (int s = 0; s < 7; s++) {
            n += set >> s & 1;
        }
        return n;
    }

    boolean majority(int set) {
        boolean ofOld = size(set & old()) > size(old()) / 2;
        return ofOld && (fresh() == 0 || size(set & fresh()) > size(fresh()) / 2);
    }

    void draw() {
        row = row * 6364136223846793005L + 1442695040888963407L;
        alarm = (int) (now + 50 + (row >>> 33) % 50);
    }

    void send(int... letter) {
        if (!dirty) {
            gone.add(letter);
        } else if (waiting.size() < 200) {
            waiting.add(letter);
        }
    }

    void write(int kind, int value) {
        entries.add(new Entry(term, kind, value));
        dirty = true;
    }

    void stepDown(int t, int l) {
        if (t > term) {
            term = t;
            voted = NONE;
            dirty = true;
        }
        if (role == 3) {
            draw();
            dropCalls();
            handing = NONE;
        }
        role = 0;
        leader = l;
    }

    void dropCalls() {
        for (Call c : calls) {
            if (c.outcome == 0) {
                c.outcome = 2;
            }
        }
    }

    void comes(int t) {
        if (t > term) {
            stepDown(t, NONE);
        }
    }

    boolean asNew(int n, int t) {
        int own = termOf(last());
        return t > own || t == own && n >= last();
    }

    boolean tick(int n) {
        now += n;
        if (alarm > now) {
            return false;
        }
        if (role == 3) {
            of[itself].seen = now;
            int late = 0;
            for (int s = 0; s < 7; s++) {
                if (of[s].seen >= now - 100) {
                    late |= 1 << s;
                }
            }
            if (majority(late)) {
                beat();
            } else {
                stepDown(term, NONE);
            }
            return true;
        }
        draw();
        if (voter(itself)) {
            role = 1;
            leader = NONE;
            votes = 1 << itself;
            for (int s = 0; s < 7; s++) {
                if (s != itself && voter(s)) {
                    send(s, 1, term + 1, last(), termOf(last()));
                }
            }
            if (majority(votes)) {
                campaign();
            }
        }
        return true;
    }

    void preask(int from, int t, int n, int nTerm) {
        boolean ok = t > term && asNew(n, nTerm) && role != 3 && (heard == null || heard <= now - 50);
        send(from, 2, ok ? t : term, ok ? 1 : 0);
    }

    void preanswer(int from, int t, boolean granted) {
        if (!granted) {
            comes(t);
        }
        if (granted && t == term + 1 && role == 1) {
            votes |= 1 << from;
            if (majority(votes)) {
                campaign();
            }
        }
    }

    void ask(int from, int t, int n, int nTerm) {
        comes(t);
        boolean ok = t == term && (voted == NONE || voted == from) && asNew(n, nTerm);
        if (ok) {
            if (voted != from) {
                dirty = true;
            }
            voted = from;
            role = 0;
            draw();
        }
        send(from, 4, term, ok ? 1 : 0);
    }

    void answer(int from, int t, boolean granted) {
        comes(t);
        if (granted && t == term && role == 2) {
            votes |= 1 << from;
            if (majority(votes)) {
                lead();
            }
        }
    }

    void go(int t) {
        comes(t);
        if (t == term && (role == 0 || role == 1) && voter(itself)) {
            campaign();
        }
    }

    void campaign() {
        role = 2;
        leader = NONE;
        term++;
        voted = itself;
        dirty = true;
        votes = 0;
        draw();
        for (int s = 0; s < 7; s++) {
            if (s != itself && voter(s)) {
                send(s, 3, term, last(), termOf(last()));
            }
        }
    }

    void lead() {
        if (entries.size() >= 300) {
            stepDown(term, NONE);
            return;
        }
        role = 3;
        leader = itself;
        handing = NONE;
        for (int s = 0; s < 7; s++) {
            of[s] = new Follower();
            of[s].next = last() + 1;
            of[s].probing = true;
            of[s].seen = now;
        }
        round = 0;
        first = last() + 1;
        write(0, 0);
        beat();
    }

    void beat() {
        if (handing != NONE && now - handedAt > 50) {
            handing = NONE;
        }
        alarm = now + 10;
        round++;
        for (int s = 0; s < 7; s++) {
            if (isPeer(s) && of[s].flying > 0 && !of[s].answered) {
                of[s].flying = 0;
                of[s].probing = true;
                of[s].next = of[s].match + 1;
            }
        }
        for (int s = 0; s < 7; s++) {
            of[s].answered = false;
        }
        of[itself].match = synced;
        of[itself].seen = now;
        of[itself].ack = round;
        sendToAll(true);
        reads();
    }

    void sendToAll(boolean asBeat) {
        for (int s = 0; s < 7; s++) {
            if (isPeer(s)) {
                sendTo(s, asBeat);
            }
        }
    }

    void sendTo(int s, boolean asBeat) {
        Follower f = of[s];
        if (f.next <= base) {
            if (f.flying == 0) {
                f.flying = 1;
                int bytes = snapSize - f.offset > 200 ? 200 : snapSize - f.offset;
                send(s, 7, term, base, snapTerm, snapCode, snapSize, f.offset, bytes, round);
            }
            return;
        }
        boolean any = false;
        while (f.next <= last() && f.flying < (f.probing ? 1 : 4)) {
            f.flying++;
            sendEntries(s, Math.min(f.next + 5, last()));
            any = true;
        }
        if (!any && asBeat) {
            sendEntries(s, f.next - 1);
        }
    }

    void sendEntries(int s, int upTo) {
        Follower f = of[s];
        int n = upTo - f.next + 1;
        int[] letter = new int[8 + 3 * n];
        letter[0] = s;
        letter[1] = 5;
        letter[2] = term;
        letter[3] = f.next - 1;
        letter[4] = termOf(f.next - 1);
        letter[5] = commit;
        letter[6] = round;
        letter[7] = n;
        for (int k = 0; k < n; k++) {
            Entry e = at(f.next + k);
            letter[8 + 3 * k] = e.term;
            letter[9 + 3 * k] = e.kind;
            letter[10 + 3 * k] = e.value;
        }
        send(letter);
        f.next = upTo + 1;
    }

    boolean majorityHasMatch(int n) {
        int set = 0;
        for (int s = 0; s < 7; s++) {
            if (of[s].match >= n) {
                set |= 1 << s;
            }
        }
        return majority(set);
    }

    void count() {
        int n = last();
        while (n > 0 && !majorityHasMatch(n)) {
            n--;
        }
        if (n > commit && termOf(n) == term) {
            commit = n;
            apply();
        }
        if (membersNumber() <= commit) {
            if (fresh() != 0) {
                if (entries.size() < 300) {
                    write(1, fresh() + 16384 * learning());
                    sendToAll(false);
                }
            } else if ((old() >> itself & 1) == 0) {
                stepDown(term, NONE);
            }
        }
    }

    void apply() {
        while (applied < commit) {
            applied++;
            if (at(applied).kind == 2) {
                deeds.add(new int[] {applied, at(applied).value});
            }
            for (Call c : calls) {
                if (c.outcome == 0 && !c.isRead && c.number == applied) {
                    c.outcome = c.term == at(applied).term ? 1 : 2;
                }
            }
        }
        reads();
    }

    void reads() {
        for (Call c : calls) {
            if (c.outcome == 0 && c.isRead && applied >= c.number) {
                int set = 0;
                for (int s = 0; s < 7; s++) {
                    if (of[s].ack >= c.round) {
                        set |= 1 << s;
                    }
                }
                if (majority(set)) {
                    c.outcome = 1;
                }
            }
        }
    }

    void append(int from, int t, int p, int pTerm, int told, int itsRound) {
        List<Entry> list = new ArrayList<>(this.told);
        this.told.clear();
        comes(t);
        if (t < term) {
            send(from, 6, term, 0, 0, itsRound);
            return;
        }
        if (role == 3) {
            return;
        }
        stepDown(term, from);
        heard = now;
        draw();
        while (!list.isEmpty() && p + list.size() > base + 250) {
            list.remove(list.size() - 1);
        }
        if (p > last()) {
            send(from, 6, term, 0, last() + 1, itsRound);
            return;
        }
        if (p >= base && termOf(p) != pTerm) {
            int h = p == base ? base + 1 : p;
            while (p > base && h - 1 > base && termOf(h - 1) == termOf(p)) {
                h--;
            }
            send(from, 6, term, 0, h, itsRound);
            return;
        }
        for (int k = 0; k < list.size(); k++) {
            int number = p + 1 + k;
            if (number >= base && number <= commit && termOf(number) != list.get(k).term) {
                return;
            }
        }
        int k = 0;
        while (k < list.size() && (p + 1 + k <= base || p + 1 + k <= last() && termOf(p + 1 + k) == list.get(k).term)) {
            k++;
        }
        if (k < list.size()) {
            while (last() >= p + 1 + k) {
                entries.remove(entries.size() - 1);
            }
            synced = Math.min(synced, last());
            entries.addAll(list.subList(k, list.size()));
            dirty = true;
        }
        int m = Math.max(base, p + list.size());
        commit = Math.max(commit, Math.min(told, m));
        apply();
        send(from, 6, term, 1, m, itsRound);
    }

    void piece(int from, int t, int at, int bytes, int itsRound) {
        int[] d = described;
        described = null;
        comes(t);
        if (t < term) {
            send(from, 8, term, d[0], 0, itsRound);
            return;
        }
        if (role == 3) {
            return;
        }
        stepDown(term, from);
        heard = now;
        draw();
        int b = d[0];
        if (b <= commit) {
            send(from, 8, term, b, d[3], itsRound);
            return;
        }
        if (at == 0) {
            assemblyBase = b;
            assemblyGot = 0;
        }
        if (assemblyBase != b || at != assemblyGot) {
            send(from, 8, term, b, assemblyBase == b ? assemblyGot : 0, itsRound);
            return;
        }
        assemblyGot += bytes;
        if (assemblyGot >= d[3]) {
            List<Entry> stay = new ArrayList<>();
            if (b > base && b <= last() && at(b).term == d[1]) {
                stay.addAll(entries.subList(b - base, entries.size()));
            }
            entries = stay;
            base = b;
            snapTerm = d[1];
            snapCode = d[2];
            snapSize = d[3];
            commit = b;
            applied = b;
            synced = Math.min(synced, last());
            dirty = true;
            assemblyBase = NONE;
        }
        send(from, 8, term, b, assemblyGot, itsRound);
    }

    boolean counts(int from, int t, int itsRound) {
        comes(t);
        if (t != term || role != 3 || !isPeer(from)) {
            return false;
        }
        of[from].seen = now;
        of[from].answered = true;
        of[from].ack = Math.max(of[from].ack, itsRound);
        return true;
    }

    void appended(int from, int t, boolean ok, int number, int itsRound) {
        if (!counts(from, t, itsRound)) {
            return;
        }
        Follower f = of[from];
        if (ok) {
            int n = Math.min(number, last());
            f.match = Math.max(f.match, n);
            f.probing = false;
            f.flying = f.flying > 0 ? f.flying - 1 : 0;
            f.next = Math.max(f.next, n + 1);
        } else {
            f.flying = 0;
            f.probing = true;
            f.next = Math.min(last() + 1, Math.max(f.match + 1, number));
        }
        then(from);
    }

    void stored(int from, int t, int b, int bytes, int itsRound) {
        if (!counts(from, t, itsRound)) {
            return;
        }
        Follower f = of[from];
        f.flying = 0;
        if (b == base && bytes >= snapSize) {
            f.match = Math.max(f.match, base);
            f.next = base + 1;
            f.probing = true;
            f.offset = 0;
        } else {
            f.offset = b == base ? bytes : 0;
        }
        then(from);
    }

    void then(int from) {
        count();
        if (role == 3) {
            reads();
        }
        if (role == 3 && isPeer(from)) {
            sendTo(from, false);
            if (handing == from && of[from].match == last()) {
                send(from, 9, term);
            }
        }
    }

    int sync() {
        int n = waiting.size();
        gone.addAll(waiting);
        waiting.clear();
        dirty = false;
        synced = last();
        if (role == 2) {
            votes |= 1 << itself;
            if (majority(votes)) {
                lead();
            }
        } else if (role == 3) {
            of[itself].match = synced;
            count();
        }
        return n;
    }

    int command(int value) {
        if (role != 3 || handing != NONE || entries.size() >= 200) {
            return NONE;
        }
        write(2, value);
        sendToAll(false);
        Call c = new Call();
        c.number = last();
        c.term = term;
        calls.add(c);
        return calls.size() - 1;
    }

    int read() {
        if (role != 3 || handing != NONE) {
            return NONE;
        }
        Call c = new Call();
        c.isRead = true;
        c.number = termOf(commit) == term ? commit : first;
        c.round = round + 1;
        calls.add(c);
        return calls.size() - 1;
    }

    boolean mayNotChange() {
        return role != 3 || handing != NONE || entries.size() >= 200 || membersNumber() > commit || fresh() != 0;
    }

    boolean members(int set) {
        if (mayNotChange() || set < 1 || set > 127) {
            return false;
        }
        for (int s = 0; s < 7; s++) {
            if ((set >> s & 1) == 1 && (old() >> s & 1) == 0) {
                if ((learning() >> s & 1) == 0 || of[s].match < commit) {
                    return false;
                }
            }
        }
        write(1, old() + 128 * set + 16384 * (learning() & ~set));
        sendToAll(false);
        return true;
    }

    boolean learners(int set) {
        if (mayNotChange() || set < 0 || set > 127 || (set & old()) != 0) {
            return false;
        }
        write(1, old() + 16384 * set);
        sendToAll(false);
        return true;
    }

    boolean hand(int server) {
        if (role != 3 || handing != NONE || server < 0 || server > 6 || server == itself || !voter(server)) {
            return false;
        }
        handing = server;
        handedAt = now;
        if (of[server].match == last()) {
            send(server, 9, term);
        } else {
            sendTo(server, false);
        }
        return true;
    }

    boolean compact(int bytes) {
        if (applied == base || bytes < 1 || bytes > 1000000) {
            return false;
        }
        int t = termOf(applied);
        int c = snapCode;
        for (int i = base + 1; i <= applied; i++) {
            if (at(i).kind == 1) {
                c = at(i).value;
            }
        }
        entries = new ArrayList<>(entries.subList(applied - base, entries.size()));
        base = applied;
        snapTerm = t;
        snapCode = c;
        snapSize = bytes;
        dirty = true;
        for (int s = 0; s < 7 && role == 3; s++) {
            of[s].offset = 0;
        }
        return true;
    }

    void restart() {
        dirty = false;
        waiting.clear();
        assemblyBase = NONE;
        role = 0;
        leader = NONE;
        commit = base;
        applied = base;
        synced = last();
        heard = null;
        votes = 0;
        handing = NONE;
        dropCalls();
        draw();
    }

    int state(int what) {
        int[] all = {role, term, voted, leader, commit, applied, synced, base, last(), code(), votes, handing, alarm,
            now, dirty ? 1 : 0, role == 3 ? round : 0, gone.size(), waiting.size(), deeds.size(), calls.size()};
        return all[what];
    }

    int peer(int server, int what) {
        Follower f = of[server];
        int[] all = {f.next, f.match, f.flying, f.probing ? 1 : 0, f.offset, f.ack, f.seen};
        return all[what];
    }
}
