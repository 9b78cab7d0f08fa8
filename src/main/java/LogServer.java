/**
 * One of several servers that keep a log by agreement. It only answers calls: letters of other servers come in
 * through methods, and its own letters, the commands done and the state are read out through others.
 */
public final class LogServer {
    /** Nothing there. */
    public static final int NONE = -1;

    private static final int SERVERS = 7;
    private static final int ALL_SERVERS = 127;
    private static final int GREATEST = 1000000;

    private static final int FOLLOWS = 0;
    private static final int ASKS = 1;
    private static final int STANDS = 2;
    private static final int LEADS = 3;

    private static final int EMPTY = 0;
    private static final int MEMBERS = 1;
    private static final int COMMAND = 2;

    private static final int PREASK = 1;
    private static final int PREANSWER = 2;
    private static final int ASK = 3;
    private static final int ANSWER = 4;
    private static final int APPEND = 5;
    private static final int APPENDED = 6;
    private static final int PIECE = 7;
    private static final int STORED = 8;
    private static final int GO = 9;

    private static final int NEVER = -1;
    private static final int SILENCE = 50;
    private static final int HANDING_LASTS = 50;
    private static final int BEAT = 10;
    private static final int LOST_TOUCH = 100;
    private static final int LONGEST_TICK = 1000;

    private static final int ENTRIES_A_LETTER = 6;
    private static final int BYTES_A_PIECE = 200;
    private static final int MOST_FLYING = 4;

    private static final int LOG_ROOM = 300;
    private static final int ROOM_FOR_OTHERS = 250;
    private static final int ROOM_FOR_CALLERS = 200;

    private final int itself;
    private final Disk disk;
    private final Mail mail = new Mail();
    private final Told told = new Told();
    private final Lead lead = new Lead();
    private final Calls calls = new Calls();
    private final Deeds deeds = new Deeds();

    private long row;
    private int now = 0;
    private int role = FOLLOWS;
    private int leader = NONE;
    private int committed = 0;
    private int applied = 0;
    private int heard = NEVER;
    private int alarm = 0;
    private int votes = 0;
    private int handing = NONE;
    private int handingSince = 0;
    private int assembling = NONE;
    private int got = 0;

    public LogServer(int itself, int first, long row) {
        this.itself = Math.min(itself & 7, SERVERS - 1);
        int old = first & ALL_SERVERS;
        this.disk = new Disk(old == 0 ? 1 : old);
        this.row = row;
        drawAlarm();
    }

    // ---- time ----

    public boolean tick(int n) throws IllegalArgumentException {
        if (n < 1 || n > LONGEST_TICK) {
            throw new IllegalArgumentException("a tick is 1 .. 1000");
        }
        now += n;
        if (alarm > now) {
            return false;
        }
        if (role == LEADS) {
            ringLeading();
        } else {
            ringOtherwise();
        }
        return true;
    }

    private void ringLeading() {
        lead.seen[itself] = now;
        if (reachedByMajority(lead.seen) < now - LOST_TOUCH) {
            stepDown(disk.term, NONE);
        } else {
            beat();
        }
    }

    private void ringOtherwise() {
        drawAlarm();
        if (!has(voters(), itself)) {
            return;
        }
        role = ASKS;
        leader = NONE;
        votes = bit(itself);
        sendToVoters(PREASK, disk.term + 1);
        if (isMajority(votes)) {
            campaign();
        }
    }

    private void drawAlarm() {
        row = row * 6364136223846793005L + 1442695040888963407L;
        alarm = now + 50 + (int) ((row >>> 33) % 50);
    }

    // ---- elections ----

    public void preask(int from, int term, int last, int lastTerm)
            throws IndexOutOfBoundsException, IllegalArgumentException {
        checkSender(from);
        checkNumber(term);
        checkNumber(last);
        checkNumber(lastTerm);
        boolean silent = heard == NEVER || heard <= now - SILENCE;
        boolean grants = term > disk.term && isAsNew(last, lastTerm) && role != LEADS && silent;
        mail.begin(from, PREANSWER, grants ? term : disk.term);
        mail.add(grants ? 1 : 0);
        mail.post(disk.dirty);
    }

    public void preanswer(int from, int term, boolean granted)
            throws IndexOutOfBoundsException, IllegalArgumentException {
        checkSender(from);
        checkNumber(term);
        if (!granted) {
            yieldTo(term);
        } else if (term == disk.term + 1 && role == ASKS) {
            votes |= bit(from);
            if (isMajority(votes)) {
                campaign();
            }
        }
    }

    public void ask(int from, int term, int last, int lastTerm)
            throws IndexOutOfBoundsException, IllegalArgumentException {
        checkSender(from);
        checkNumber(term);
        checkNumber(last);
        checkNumber(lastTerm);
        yieldTo(term);
        boolean free = disk.voted == NONE || disk.voted == from;
        boolean grants = term == disk.term && free && isAsNew(last, lastTerm);
        if (grants) {
            disk.voteFor(from);
            role = FOLLOWS;
            drawAlarm();
        }
        mail.begin(from, ANSWER, disk.term);
        mail.add(grants ? 1 : 0);
        mail.post(disk.dirty);
    }

    public void answer(int from, int term, boolean granted)
            throws IndexOutOfBoundsException, IllegalArgumentException {
        checkSender(from);
        checkNumber(term);
        yieldTo(term);
        if (granted && term == disk.term && role == STANDS) {
            votes |= bit(from);
            if (isMajority(votes)) {
                takeLead();
            }
        }
    }

    public void go(int from, int term) throws IndexOutOfBoundsException, IllegalArgumentException {
        checkSender(from);
        checkNumber(term);
        yieldTo(term);
        boolean idle = role == FOLLOWS || role == ASKS;
        if (term == disk.term && idle && has(voters(), itself)) {
            campaign();
        }
    }

    private void campaign() {
        role = STANDS;
        leader = NONE;
        disk.enterTerm(disk.term + 1);
        disk.voteFor(itself);
        // Its own vote counts only once it is on the disk: sync() adds it.
        votes = 0;
        drawAlarm();
        sendToVoters(ASK, disk.term);
    }

    private void sendToVoters(int kind, int term) {
        int others = voters() & ~bit(itself);
        for (int server = 0; server < SERVERS; server++) {
            if (has(others, server)) {
                mail.begin(server, kind, term);
                mail.add(disk.last);
                mail.add(disk.lastTerm());
                mail.post(disk.dirty);
            }
        }
    }

    private boolean isAsNew(int last, int lastTerm) {
        int own = disk.lastTerm();
        return lastTerm > own || lastTerm == own && last >= disk.last;
    }

    private void yieldTo(int term) {
        if (term > disk.term) {
            stepDown(term, NONE);
        }
    }

    private void stepDown(int term, int newLeader) {
        if (term > disk.term) {
            disk.enterTerm(term);
        }
        if (role == LEADS) {
            drawAlarm();
            calls.dropWaiting();
            handing = NONE;
        }
        role = FOLLOWS;
        leader = newLeader;
    }

    // ---- following ----

    public int entry(int term, int kind, int value) throws IllegalArgumentException, IllegalStateException {
        checkNumber(term);
        if (kind < EMPTY || kind > COMMAND) {
            throw new IllegalArgumentException("a kind is 0 .. 2");
        }
        if (kind == MEMBERS && !isCode(value)) {
            throw new IllegalArgumentException("no code of members");
        }
        if (told.count >= ENTRIES_A_LETTER) {
            throw new IllegalStateException("there are 6 entries");
        }
        told.add(term, kind, value);
        return told.count;
    }

    public void append(int from, int term, int before, int beforeTerm, int commit, int round)
            throws IndexOutOfBoundsException, IllegalArgumentException {
        int count = told.takeCount();
        checkSender(from);
        checkNumber(term);
        checkNumber(before);
        checkNumber(beforeTerm);
        checkNumber(commit);
        checkNumber(round);
        if (!told.termsRise(count, beforeTerm, term)) {
            throw new IllegalArgumentException("an entry's term does not fit");
        }
        yieldTo(term);
        if (term < disk.term) {
            replyAppended(from, 0, 0, round);
        } else if (role != LEADS) {
            follow(from);
            takeAppend(from, before, beforeTerm, count, commit, round);
        }
    }

    private void follow(int from) {
        stepDown(disk.term, from);
        heard = now;
        drawAlarm();
    }

    private void takeAppend(int from, int before, int beforeTerm, int count, int commit, int round) {
        if (before > disk.last) {
            replyAppended(from, 0, disk.last + 1, round);
            return;
        }
        if (before >= disk.base && disk.termAt(before) != beforeTerm) {
            replyAppended(from, 0, disk.beginOfTermAt(before), round);
            return;
        }
        int fitting = Math.max(0, Math.min(count, disk.base + ROOM_FOR_OTHERS - before));
        if (contradictsCommitted(before, fitting)) {
            return;
        }
        writeTold(before, fitting);
        int reached = Math.max(before + fitting, disk.base);
        committed = Math.max(committed, Math.min(commit, reached));
        applyCommitted();
        replyAppended(from, 1, reached, round);
    }

    private boolean contradictsCommitted(int before, int count) {
        for (int k = 0; k < count; k++) {
            int number = before + 1 + k;
            if (number >= disk.base && number <= committed && disk.termAt(number) != told.termOf(k)) {
                return true;
            }
        }
        return false;
    }

    private void writeTold(int before, int count) {
        boolean writing = false;
        for (int k = 0; k < count; k++) {
            int number = before + 1 + k;
            boolean known = number <= disk.base || disk.termAt(number) == told.termOf(k);
            if (!writing && !known) {
                disk.cutFrom(number);
                writing = true;
            }
            if (writing) {
                disk.write(told.termOf(k), told.kindOf(k), told.valueOf(k));
            }
        }
    }

    private void replyAppended(int to, int ok, int number, int round) {
        mail.begin(to, APPENDED, disk.term);
        mail.add(ok);
        mail.add(number);
        mail.add(round);
        mail.post(disk.dirty);
    }

    // ---- taking in a snapshot ----

    public void describe(int base, int baseTerm, int code, int size) throws IllegalArgumentException {
        checkNumber(baseTerm);
        if (!isPositive(base) || !isPositive(size) || !isCode(code)) {
            throw new IllegalArgumentException("no such snapshot");
        }
        told.describeSnapshot(base, baseTerm, code, size);
    }

    public void piece(int from, int term, int at, int bytes, int round)
            throws IndexOutOfBoundsException, IllegalArgumentException {
        boolean described = told.takeDescribed();
        checkSender(from);
        checkNumber(term);
        checkNumber(at);
        checkNumber(round);
        if (!described || told.baseTerm > term) {
            throw new IllegalArgumentException("no snapshot that fits was described");
        }
        if (bytes < 0 || bytes > BYTES_A_PIECE || at + bytes > told.size) {
            throw new IllegalArgumentException("no such bytes");
        }
        yieldTo(term);
        if (term < disk.term) {
            replyStored(from, told.base, 0, round);
        } else if (role != LEADS) {
            follow(from);
            replyStored(from, told.base, takePiece(at, bytes), round);
        }
    }

    /** How many bytes of the snapshot told are there now, as the sender is to be told. */
    private int takePiece(int at, int bytes) {
        if (told.base <= committed) {
            return told.size;
        }
        if (at == 0) {
            assembling = told.base;
            got = 0;
        }
        if (assembling != told.base) {
            return 0;
        }
        if (at != got) {
            return got;
        }
        got += bytes;
        if (got >= told.size) {
            disk.install(told.base, told.baseTerm, told.code, told.size);
            committed = told.base;
            applied = told.base;
            assembling = NONE;
        }
        return got;
    }

    private void replyStored(int to, int base, int bytes, int round) {
        mail.begin(to, STORED, disk.term);
        mail.add(base);
        mail.add(bytes);
        mail.add(round);
        mail.post(disk.dirty);
    }

    // ---- leading ----

    private void takeLead() {
        if (!disk.hasRoom()) {
            stepDown(disk.term, NONE);
            return;
        }
        role = LEADS;
        leader = itself;
        handing = NONE;
        lead.begin(disk.last + 1, now);
        disk.write(disk.term, EMPTY, 0);
        beat();
    }

    private void beat() {
        if (handing != NONE && now - handingSince > HANDING_LASTS) {
            handing = NONE;
        }
        alarm = now + BEAT;
        lead.round++;
        int others = peers();
        for (int server = 0; server < SERVERS; server++) {
            if (has(others, server)) {
                lead.fallBackIfSilent(server);
            }
            lead.answered[server] = false;
        }
        lead.match[itself] = disk.synced;
        lead.seen[itself] = now;
        lead.ack[itself] = lead.round;
        sendToPeers(true);
        answerReads();
    }

    private void sendToPeers(boolean asBeat) {
        int others = peers();
        for (int server = 0; server < SERVERS; server++) {
            if (has(others, server)) {
                sendTo(server, asBeat);
            }
        }
    }

    private void sendTo(int server, boolean asBeat) {
        if (lead.next[server] <= disk.base) {
            if (lead.flying[server] == 0) {
                sendPiece(server);
            }
            return;
        }
        int limit = lead.probing[server] ? 1 : MOST_FLYING;
        boolean sent = false;
        for (int k = 0; k < MOST_FLYING; k++) {
            if (lead.next[server] > disk.last || lead.flying[server] >= limit) {
                break;
            }
            lead.flying[server]++;
            sendAppend(server, Math.min(ENTRIES_A_LETTER, disk.last - lead.next[server] + 1));
            sent = true;
        }
        if (asBeat && !sent) {
            sendAppend(server, 0);
        }
    }

    private void sendAppend(int server, int count) {
        int first = lead.next[server];
        mail.begin(server, APPEND, disk.term);
        mail.add(first - 1);
        mail.add(disk.termAt(first - 1));
        mail.add(committed);
        mail.add(lead.round);
        mail.add(count);
        for (int k = 0; k < count; k++) {
            mail.add(disk.termAt(first + k));
            mail.add(disk.kindAt(first + k));
            mail.add(disk.valueAt(first + k));
        }
        mail.post(disk.dirty);
        lead.next[server] = first + count;
    }

    private void sendPiece(int server) {
        int offset = lead.offset[server];
        lead.flying[server] = 1;
        mail.begin(server, PIECE, disk.term);
        mail.add(disk.base);
        mail.add(disk.baseTerm);
        mail.add(disk.baseCode);
        mail.add(disk.baseSize);
        mail.add(offset);
        mail.add(Math.min(BYTES_A_PIECE, disk.baseSize - offset));
        mail.add(lead.round);
        mail.post(disk.dirty);
    }

    private void sendGo(int server) {
        mail.begin(server, GO, disk.term);
        mail.post(disk.dirty);
    }

    public void appended(int from, int term, boolean ok, int number, int round)
            throws IndexOutOfBoundsException, IllegalArgumentException {
        checkSender(from);
        checkNumber(term);
        checkNumber(number);
        checkNumber(round);
        yieldTo(term);
        if (!isOwnPeer(from, term)) {
            return;
        }
        lead.hear(from, now, round);
        if (ok) {
            lead.accept(from, Math.min(number, disk.last));
        } else {
            lead.refuse(from, number, disk.last);
        }
        goOnWith(from);
    }

    public void stored(int from, int term, int base, int bytes, int round)
            throws IndexOutOfBoundsException, IllegalArgumentException {
        checkSender(from);
        checkNumber(term);
        checkNumber(base);
        checkNumber(bytes);
        checkNumber(round);
        yieldTo(term);
        if (!isOwnPeer(from, term)) {
            return;
        }
        lead.hear(from, now, round);
        lead.flying[from] = 0;
        if (base != disk.base) {
            lead.offset[from] = 0;
        } else if (bytes < disk.baseSize) {
            lead.offset[from] = bytes;
        } else {
            lead.holdSnapshot(from, disk.base);
        }
        goOnWith(from);
    }

    private boolean isOwnPeer(int from, int term) {
        return role == LEADS && term == disk.term && has(peers(), from);
    }

    private void goOnWith(int from) {
        countCommitted();
        answerReads();
        // Counting may have ended the lead, or taken the sender out of the members.
        if (role != LEADS || !has(peers(), from)) {
            return;
        }
        sendTo(from, false);
        if (handing == from && lead.match[from] == disk.last) {
            sendGo(from);
        }
    }

    private void countCommitted() {
        int reached = reachedByMajority(lead.match);
        if (reached > committed && disk.termAt(reached) == disk.term) {
            committed = reached;
            applyCommitted();
        }
        if (disk.membersNumber > committed) {
            return;
        }
        int next = newOf(disk.code);
        if (next == 0) {
            if (!has(oldOf(disk.code), itself)) {
                stepDown(disk.term, NONE);
            }
        } else if (disk.hasRoom()) {
            disk.write(disk.term, MEMBERS, codeOf(next, 0, learnersOf(disk.code)));
            sendToPeers(false);
        }
    }

    private void applyCommitted() {
        for (int number = applied + 1; number <= committed; number++) {
            if (disk.kindAt(number) == COMMAND) {
                deeds.add(number, disk.valueAt(number));
            }
        }
        applied = committed;
        calls.answerCommands(applied, disk);
        answerReads();
    }

    private void answerReads() {
        if (role == LEADS) {
            calls.answerReads(applied, reachedByMajority(lead.ack));
        }
    }

    // ---- its disk ----

    public int sync() {
        int went = mail.release();
        disk.settle();
        if (role == STANDS) {
            votes |= bit(itself);
            if (isMajority(votes)) {
                takeLead();
            }
        } else if (role == LEADS) {
            lead.match[itself] = disk.synced;
            countCommitted();
        }
        return went;
    }

    public boolean compact(int size) {
        if (applied == disk.base || !isPositive(size)) {
            return false;
        }
        disk.install(applied, disk.termAt(applied), disk.codeAt(applied), size);
        lead.forgetOffsets();
        return true;
    }

    public void restart() {
        disk.settle();
        mail.loseWaiting();
        calls.dropWaiting();
        assembling = NONE;
        role = FOLLOWS;
        leader = NONE;
        committed = disk.base;
        applied = disk.base;
        heard = NEVER;
        votes = 0;
        handing = NONE;
        drawAlarm();
    }

    // ---- its callers ----

    public int command(int value) {
        if (!takesEntries()) {
            return NONE;
        }
        disk.write(disk.term, COMMAND, value);
        sendToPeers(false);
        return calls.open(false, disk.last, disk.term);
    }

    public int read() {
        if (role != LEADS || handing != NONE) {
            return NONE;
        }
        boolean current = disk.termAt(committed) == disk.term;
        return calls.open(true, current ? committed : lead.first, lead.round + 1);
    }

    public boolean members(int set) {
        if (!mayChangeMembers() || set < 1 || set > ALL_SERVERS) {
            return false;
        }
        int old = oldOf(disk.code);
        int learning = learnersOf(disk.code);
        for (int server = 0; server < SERVERS; server++) {
            boolean ready = has(learning, server) && lead.match[server] >= committed;
            if (has(set, server) && !has(old, server) && !ready) {
                return false;
            }
        }
        disk.write(disk.term, MEMBERS, codeOf(old, set, learning & ~set));
        sendToPeers(false);
        return true;
    }

    public boolean learners(int set) {
        int old = oldOf(disk.code);
        if (!mayChangeMembers() || set < 0 || set > ALL_SERVERS || (set & old) != 0) {
            return false;
        }
        disk.write(disk.term, MEMBERS, codeOf(old, 0, set));
        sendToPeers(false);
        return true;
    }

    public boolean hand(int server) {
        if (role != LEADS || handing != NONE || !isOtherServer(server) || !has(voters(), server)) {
            return false;
        }
        handing = server;
        handingSince = now;
        if (lead.match[server] == disk.last) {
            sendGo(server);
        } else {
            sendTo(server, false);
        }
        return true;
    }

    private boolean takesEntries() {
        return role == LEADS && handing == NONE && disk.last - disk.base < ROOM_FOR_CALLERS;
    }

    private boolean mayChangeMembers() {
        return takesEntries() && disk.membersNumber <= committed && newOf(disk.code) == 0;
    }

    // ---- what can be looked at ----

    public int state(int what) throws IndexOutOfBoundsException {
        switch (what) {
            case 0: return role;
            case 1: return disk.term;
            case 2: return disk.voted;
            case 3: return leader;
            case 4: return committed;
            case 5: return applied;
            case 6: return disk.synced;
            case 7: return disk.base;
            case 8: return disk.last;
            case 9: return disk.code;
            case 10: return votes;
            case 11: return handing;
            case 12: return alarm;
            case 13: return now;
            case 14: return disk.dirty ? 1 : 0;
            case 15: return role == LEADS ? lead.round : 0;
            case 16: return mail.went;
            case 17: return mail.waits;
            case 18: return deeds.count;
            case 19: return calls.count;
            default: throw new IndexOutOfBoundsException("no such state");
        }
    }

    public int log(int i, int what) throws IndexOutOfBoundsException {
        if (what == 0 && (i == disk.base || disk.holds(i))) {
            return disk.termAt(i);
        }
        if (what == 1 && disk.holds(i)) {
            return disk.kindAt(i);
        }
        if (what == 2 && disk.holds(i)) {
            return disk.valueAt(i);
        }
        throw new IndexOutOfBoundsException("no such entry");
    }

    public int peer(int server, int what) throws IndexOutOfBoundsException {
        if (role != LEADS || server < 0 || server >= SERVERS) {
            throw new IndexOutOfBoundsException("no such server");
        }
        switch (what) {
            case 0: return lead.next[server];
            case 1: return lead.match[server];
            case 2: return lead.flying[server];
            case 3: return lead.probing[server] ? 1 : 0;
            case 4: return lead.offset[server];
            case 5: return lead.ack[server];
            case 6: return lead.seen[server];
            default: throw new IndexOutOfBoundsException("nothing such of a server");
        }
    }

    public int letter(int k, int what) throws IndexOutOfBoundsException {
        if (!mail.knows(k, what)) {
            throw new IndexOutOfBoundsException("no such number of a letter");
        }
        return mail.numberOf(k, what);
    }

    public int done(int k, int what) throws IndexOutOfBoundsException {
        if (!deeds.knows(k) || what < 0 || what > 1) {
            throw new IndexOutOfBoundsException("no such command");
        }
        return what == 0 ? deeds.numberOf(k) : deeds.valueOf(k);
    }

    public int call(int number) throws IndexOutOfBoundsException {
        checkCall(number);
        return calls.outcomeOf(number);
    }

    public int callFor(int number) throws IndexOutOfBoundsException {
        checkCall(number);
        return calls.targetOf(number);
    }

    // ---- what letters and calls must be like ----

    private boolean isOtherServer(int server) {
        return server >= 0 && server < SERVERS && server != itself;
    }

    private void checkSender(int from) {
        if (!isOtherServer(from)) {
            throw new IndexOutOfBoundsException("no other server");
        }
    }

    private static void checkNumber(int number) {
        if (number < 0 || number > GREATEST) {
            throw new IllegalArgumentException("a number is 0 .. 1000000");
        }
    }

    private void checkCall(int number) {
        if (!calls.knows(number)) {
            throw new IndexOutOfBoundsException("no such call");
        }
    }

    private static boolean isPositive(int number) {
        return number >= 1 && number <= GREATEST;
    }

    // ---- sets of servers ----

    private int voters() {
        return oldOf(disk.code) | newOf(disk.code);
    }

    private int peers() {
        return (voters() | learnersOf(disk.code)) & ~bit(itself);
    }

    private boolean isMajority(int set) {
        int old = oldOf(disk.code);
        int next = newOf(disk.code);
        boolean ofOld = 2 * Integer.bitCount(set & old) > Integer.bitCount(old);
        boolean ofNew = next == 0 || 2 * Integer.bitCount(set & next) > Integer.bitCount(next);
        return ofOld && ofNew;
    }

    /** The greatest number that a majority has reached, of one number (0 or more) for each server. */
    private int reachedByMajority(int[] numbers) {
        int greatest = 0;
        for (int server = 0; server < SERVERS; server++) {
            if (numbers[server] > greatest && isMajority(serversFrom(numbers, numbers[server]))) {
                greatest = numbers[server];
            }
        }
        return greatest;
    }

    private static int serversFrom(int[] numbers, int least) {
        int set = 0;
        for (int server = 0; server < SERVERS; server++) {
            if (numbers[server] >= least) {
                set |= bit(server);
            }
        }
        return set;
    }

    private static int bit(int server) {
        return 1 << server;
    }

    private static boolean has(int set, int server) {
        return (set & bit(server)) != 0;
    }

    private static int oldOf(int code) {
        return code & ALL_SERVERS;
    }

    private static int newOf(int code) {
        return code >> 7 & ALL_SERVERS;
    }

    private static int learnersOf(int code) {
        return code >> 14 & ALL_SERVERS;
    }

    private static int codeOf(int old, int next, int learning) {
        return old | next << 7 | learning << 14;
    }

    private static boolean isCode(int code) {
        boolean inRange = code >= 0 && code < 1 << 21;
        return inRange && oldOf(code) != 0 && (learnersOf(code) & (oldOf(code) | newOf(code))) == 0;
    }

    /** What a restart leaves: the term, the vote, the snapshot and the log behind it. */
    private static final class Disk {
        private final int[] terms = new int[LOG_ROOM];
        private final int[] kinds = new int[LOG_ROOM];
        private final int[] values = new int[LOG_ROOM];
        private int term = 0;
        private int voted = NONE;
        private int base = 0;
        private int baseTerm = 0;
        private int baseCode;
        private int baseSize = 0;
        private int last = 0;
        private int synced = 0;
        private boolean dirty = false;
        // Kept beside the log, since every majority that is counted asks for the members.
        private int membersNumber = 0;
        private int code;

        Disk(int code) {
            this.baseCode = code;
            this.code = code;
        }

        void enterTerm(int newTerm) {
            term = newTerm;
            voted = NONE;
            dirty = true;
        }

        void voteFor(int server) {
            if (voted != server) {
                voted = server;
                dirty = true;
            }
        }

        void settle() {
            dirty = false;
            synced = last;
        }

        boolean holds(int number) {
            return number > base && number <= last && number - base <= LOG_ROOM;
        }

        boolean hasRoom() {
            return last - base < LOG_ROOM;
        }

        int termAt(int number) {
            if (number == base) {
                return baseTerm;
            }
            return holds(number) ? terms[number - base - 1] : NONE;
        }

        int kindAt(int number) {
            return holds(number) ? kinds[number - base - 1] : NONE;
        }

        int valueAt(int number) {
            return holds(number) ? values[number - base - 1] : NONE;
        }

        int lastTerm() {
            return termAt(last);
        }

        /** The least number above the snapshot from which on all entries to this number have one term. */
        int beginOfTermAt(int number) {
            int begin = Math.max(number, base + 1);
            while (begin > base + 1 && termAt(begin - 1) == termAt(number)) {
                begin--;
            }
            return begin;
        }

        int codeAt(int number) {
            return codeOfMembersAt(membersUpTo(number));
        }

        void write(int newTerm, int kind, int value) {
            int slot = last - base;
            if (slot < 0 || slot >= LOG_ROOM) {
                return;
            }
            terms[slot] = newTerm;
            kinds[slot] = kind;
            values[slot] = value;
            last++;
            dirty = true;
            if (kind == MEMBERS) {
                membersNumber = last;
                code = value;
            }
        }

        void cutFrom(int number) {
            if (holds(number)) {
                endAt(number - 1);
                dirty = true;
                findMembers();
            }
        }

        /** A snapshot up to a number takes the place of the log there; what is behind stays if it fits to it. */
        void install(int number, int numberTerm, int snapshotCode, int size) {
            if (holds(number) && termAt(number) == numberTerm) {
                dropUpTo(number);
            } else {
                endAt(number);
            }
            base = number;
            baseTerm = numberTerm;
            baseCode = snapshotCode;
            baseSize = size;
            dirty = true;
            findMembers();
        }

        private void dropUpTo(int number) {
            int gone = number - base;
            for (int slot = 0; slot + gone < last - base && slot + gone < LOG_ROOM; slot++) {
                terms[slot] = terms[slot + gone];
                kinds[slot] = kinds[slot + gone];
                values[slot] = values[slot + gone];
            }
        }

        private void endAt(int number) {
            last = number;
            synced = Math.min(synced, last);
        }

        private void findMembers() {
            membersNumber = membersUpTo(last);
            code = codeOfMembersAt(membersNumber);
        }

        /** The number of the last entry of kind MEMBERS up to this one, or the snapshot's. */
        private int membersUpTo(int number) {
            int found = number;
            while (found > base && kindAt(found) != MEMBERS) {
                found--;
            }
            return found;
        }

        private int codeOfMembersAt(int number) {
            return holds(number) ? valueAt(number) : baseCode;
        }
    }

    /** Letters that wait for the disk, and the latest that went. */
    private static final class Mail {
        private static final int WAITING = 200;
        private static final int KEPT = 64;
        private static final int WIDTH = 26;

        private final int[] draft = new int[WIDTH];
        private int draftLength = 0;
        private final int[] waiting = new int[WAITING * WIDTH];
        private final int[] waitingLengths = new int[WAITING];
        private int waits = 0;
        private final int[] kept = new int[KEPT * WIDTH];
        private final int[] keptLengths = new int[KEPT];
        private int went = 0;

        void begin(int to, int kind, int term) {
            draftLength = 0;
            add(to);
            add(kind);
            add(term);
        }

        void add(int number) {
            if (draftLength < WIDTH) {
                draft[draftLength] = number;
                draftLength++;
            }
        }

        void post(boolean hold) {
            if (!hold) {
                int slot = slotOf(went);
                System.arraycopy(draft, 0, kept, slot * WIDTH, draftLength);
                keptLengths[slot] = draftLength;
                went++;
            } else if (waits < WAITING) {
                System.arraycopy(draft, 0, waiting, waits * WIDTH, draftLength);
                waitingLengths[waits] = draftLength;
                waits++;
            }
        }

        int release() {
            int released = waits;
            for (int k = 0; k < released; k++) {
                int slot = slotOf(went);
                System.arraycopy(waiting, k * WIDTH, kept, slot * WIDTH, waitingLengths[k]);
                keptLengths[slot] = waitingLengths[k];
                went++;
            }
            waits = 0;
            return released;
        }

        void loseWaiting() {
            waits = 0;
        }

        boolean knows(int k, int what) {
            return k >= 0 && k < KEPT && k < went && what >= 0 && what < keptLengths[slotOf(went - 1 - k)];
        }

        int numberOf(int k, int what) {
            return knows(k, what) ? kept[slotOf(went - 1 - k) * WIDTH + what] : NONE;
        }

        private static int slotOf(int order) {
            return order & KEPT - 1;
        }
    }

    /** What was told for the next letter that comes: entries for an APPEND, a snapshot for a PIECE. */
    private static final class Told {
        private final int[] terms = new int[ENTRIES_A_LETTER];
        private final int[] kinds = new int[ENTRIES_A_LETTER];
        private final int[] values = new int[ENTRIES_A_LETTER];
        private int count = 0;
        private boolean described = false;
        private int base = 0;
        private int baseTerm = 0;
        private int code = 0;
        private int size = 0;

        void add(int term, int kind, int value) {
            if (count < ENTRIES_A_LETTER) {
                terms[count] = term;
                kinds[count] = kind;
                values[count] = value;
                count++;
            }
        }

        /** How many entries were told; they can still be looked at, but the next letter has none of them. */
        int takeCount() {
            int taken = count;
            count = 0;
            return taken;
        }

        boolean termsRise(int taken, int least, int greatest) {
            int before = least;
            for (int k = 0; k < taken; k++) {
                if (termOf(k) < before || termOf(k) > greatest) {
                    return false;
                }
                before = termOf(k);
            }
            return true;
        }

        int termOf(int k) {
            return k >= 0 && k < ENTRIES_A_LETTER ? terms[k] : NONE;
        }

        int kindOf(int k) {
            return k >= 0 && k < ENTRIES_A_LETTER ? kinds[k] : NONE;
        }

        int valueOf(int k) {
            return k >= 0 && k < ENTRIES_A_LETTER ? values[k] : NONE;
        }

        void describeSnapshot(int newBase, int newTerm, int newCode, int newSize) {
            described = true;
            base = newBase;
            baseTerm = newTerm;
            code = newCode;
            size = newSize;
        }

        /** Whether a snapshot was described; it can still be looked at, but the next letter has none. */
        boolean takeDescribed() {
            boolean taken = described;
            described = false;
            return taken;
        }
    }

    /** What a leader knows of each server. */
    private static final class Lead {
        private final int[] next = new int[SERVERS];
        private final int[] match = new int[SERVERS];
        private final int[] flying = new int[SERVERS];
        private final boolean[] probing = new boolean[SERVERS];
        private final int[] offset = new int[SERVERS];
        private final int[] ack = new int[SERVERS];
        private final int[] seen = new int[SERVERS];
        private final boolean[] answered = new boolean[SERVERS];
        private int first = 0;
        private int round = 0;

        void begin(int firstNumber, int now) {
            first = firstNumber;
            round = 0;
            for (int server = 0; server < SERVERS; server++) {
                next[server] = firstNumber;
                match[server] = 0;
                flying[server] = 0;
                probing[server] = true;
                offset[server] = 0;
                ack[server] = 0;
                seen[server] = now;
                answered[server] = false;
            }
        }

        void fallBackIfSilent(int server) {
            if (flying[server] > 0 && !answered[server]) {
                flying[server] = 0;
                probing[server] = true;
                next[server] = match[server] + 1;
            }
        }

        void hear(int server, int now, int itsRound) {
            seen[server] = now;
            answered[server] = true;
            ack[server] = Math.max(ack[server], itsRound);
        }

        void accept(int server, int number) {
            match[server] = Math.max(match[server], number);
            probing[server] = false;
            flying[server] = Math.max(0, flying[server] - 1);
            next[server] = Math.max(next[server], number + 1);
        }

        void refuse(int server, int hint, int last) {
            flying[server] = 0;
            probing[server] = true;
            next[server] = Math.min(Math.max(hint, match[server] + 1), last + 1);
        }

        void holdSnapshot(int server, int base) {
            match[server] = Math.max(match[server], base);
            next[server] = base + 1;
            probing[server] = true;
            offset[server] = 0;
        }

        void forgetOffsets() {
            for (int server = 0; server < SERVERS; server++) {
                offset[server] = 0;
            }
        }
    }

    /** The latest calls; older ones can't be asked for any more, so they need not be kept. */
    private static final class Calls {
        private static final int KEPT = 32;
        private static final int WAITS = 0;
        private static final int ANSWERED = 1;
        private static final int DROPPED = 2;

        private final boolean[] reads = new boolean[KEPT];
        private final int[] targets = new int[KEPT];
        // The term in which a command was asked, the round for which a read waits.
        private final int[] marks = new int[KEPT];
        private final int[] outcomes = new int[KEPT];
        private int count = 0;

        int open(boolean isRead, int target, int mark) {
            int number = count;
            int slot = slotOf(number);
            reads[slot] = isRead;
            targets[slot] = target;
            marks[slot] = mark;
            outcomes[slot] = WAITS;
            count++;
            return number;
        }

        void dropWaiting() {
            for (int slot = 0; slot < KEPT && slot < count; slot++) {
                if (outcomes[slot] == WAITS) {
                    outcomes[slot] = DROPPED;
                }
            }
        }

        void answerCommands(int applied, Disk disk) {
            for (int slot = 0; slot < KEPT && slot < count; slot++) {
                if (outcomes[slot] == WAITS && !reads[slot] && targets[slot] <= applied) {
                    outcomes[slot] = disk.termAt(targets[slot]) == marks[slot] ? ANSWERED : DROPPED;
                }
            }
        }

        void answerReads(int applied, int round) {
            for (int slot = 0; slot < KEPT && slot < count; slot++) {
                if (outcomes[slot] == WAITS && reads[slot] && targets[slot] <= applied && marks[slot] <= round) {
                    outcomes[slot] = ANSWERED;
                }
            }
        }

        boolean knows(int number) {
            return number >= 0 && number < count && number >= count - KEPT;
        }

        int outcomeOf(int number) {
            return outcomes[slotOf(number)];
        }

        int targetOf(int number) {
            return targets[slotOf(number)];
        }

        private static int slotOf(int number) {
            return number & KEPT - 1;
        }
    }

    /** The latest commands that were done. */
    private static final class Deeds {
        private static final int KEPT = 64;

        private final int[] numbers = new int[KEPT];
        private final int[] values = new int[KEPT];
        private int count = 0;

        void add(int number, int value) {
            int slot = slotOf(count);
            numbers[slot] = number;
            values[slot] = value;
            count++;
        }

        boolean knows(int k) {
            return k >= 0 && k < KEPT && k < count;
        }

        int numberOf(int k) {
            return numbers[slotOf(count - 1 - k)];
        }

        int valueOf(int k) {
            return values[slotOf(count - 1 - k)];
        }

        private static int slotOf(int order) {
            return order & KEPT - 1;
        }
    }
}
