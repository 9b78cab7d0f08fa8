import java.util.LinkedHashMap;
import java.util.Map;

/** All that can be looked at of a server, to tell whether a call changed anything of it. */
final class Picture {
    private static final long THROWS = Long.MIN_VALUE;

    private final Map<String, Long> seen = new LinkedHashMap<>();

    private Picture() {
    }

    /** A look that may throw. */
    private interface Look {
        int at();
    }

    static Picture of(LogServer x) {
        Picture picture = new Picture();
        for (int what = 0; what < 20; what++) {
            picture.seen.put("state(" + what + ")", (long) x.state(what));
        }
        picture.addLog(x);
        picture.addPeers(x);
        picture.addLetters(x);
        picture.addDeeds(x);
        for (int k = Math.max(0, x.state(19) - 33); k <= x.state(19); k++) {
            int number = k;
            picture.add("call(" + k + ")", () -> x.call(number));
            picture.add("callFor(" + k + ")", () -> x.callFor(number));
        }
        return picture;
    }

    private void addLog(LogServer x) {
        for (int i = x.state(7) - 1; i <= x.state(8) + 1; i++) {
            for (int what = 0; what < 3; what++) {
                int number = i;
                int which = what;
                add("log(" + i + ", " + what + ")", () -> x.log(number, which));
            }
        }
    }

    private void addPeers(LogServer x) {
        boolean leads = true;
        for (int s = 0; s < 7 && leads; s++) {
            for (int what = 0; what < 7 && leads; what++) {
                int server = s;
                int which = what;
                leads = add("peer(" + s + ", " + what + ")", () -> x.peer(server, which));
            }
        }
    }

    private void addLetters(LogServer x) {
        boolean any = true;
        for (int k = 0; k <= 64 && any; k++) {
            boolean more = true;
            for (int what = 0; what <= 26 && more; what++) {
                int back = k;
                int which = what;
                more = add("letter(" + k + ", " + what + ")", () -> x.letter(back, which));
                any = more || what > 0;
            }
        }
    }

    private void addDeeds(LogServer x) {
        boolean any = true;
        for (int k = 0; k <= 64 && any; k++) {
            int back = k;
            any = add("done(" + k + ", 0)", () -> x.done(back, 0)) && add("done(" + k + ", 1)", () -> x.done(back, 1));
        }
    }

    private boolean add(String name, Look look) {
        try {
            seen.put(name, (long) look.at());
            return true;
        } catch (IndexOutOfBoundsException e) {
            seen.put(name, THROWS);
            return false;
        }
    }

    /** The first look in which the two differ, or null. */
    static String difference(Picture one, Picture other) {
        for (Map.Entry<String, Long> look : one.seen.entrySet()) {
            Long there = other.seen.get(look.getKey());
            if (!look.getValue().equals(there)) {
                return look.getKey() + ": " + told(look.getValue()) + " and " + told(there);
            }
        }
        return one.seen.size() == other.seen.size() ? null : "not as many looks";
    }

    private static String told(Long value) {
        return value == null ? "nothing" : value == THROWS ? "throws" : value.toString();
    }
}
