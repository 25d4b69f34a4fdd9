/** Promises 1 to 10: a new object, and the actions on sessions, sectors and settings. */
public final class SessionsTest {
    private static final Due due = new Due();

    private static final int NO_SUCH = -1;
    private static final int BAD_VALUE = -2;
    private static final int TOO_MANY = -4;
    private static final int NOT_POSSIBLE = -5;
    private static final int NONE = -6;

    private static void newObject() {
        WriteOnceDisc disc = new WriteOnceDisc();
        due.same("1 sessions()", disc.sessions(), 0);
        due.same("1 next()", disc.next(), 0);
        due.same("1 valid()", disc.valid(), NONE);
        due.same("1 setting(0)", disc.setting(0), 4);
        due.same("1 setting(1)", disc.setting(1), 3);
        due.same("1 clearText()", disc.clearText(), 0);
        due.same("1 undo()", disc.undo(), NONE);
        for (int sector = 0; sector < 240; sector++) {
            due.same("1 damaged(" + sector + ")", disc.damaged(sector), 0);
            due.same("1 use(" + sector + ")", disc.use(sector), 0);
        }
    }

    private static void begin() {
        WriteOnceDisc disc = new WriteOnceDisc();
        due.same("2 begin(-1)", disc.begin(-1), BAD_VALUE);
        due.same("2 begin(2)", disc.begin(2), BAD_VALUE);
        due.same("2 begin(1) without a valid session", disc.begin(1), 0);
        due.same("2 session(0, 5)", disc.session(0, 5), 0);
        due.same("2 begin(2) while open", disc.begin(2), BAD_VALUE);
        due.same("2 begin(0) while open", disc.begin(0), NOT_POSSIBLE);
        disc.write(3, 5);
        disc.write(4, 6);
        disc.close();
        due.same("2 begin(1)", disc.begin(1), 1);
        due.same("2 copied entries", disc.session(1, 5), 2);
        due.same("2 copied first sector", disc.entry(1, 3, 0), 4);
        due.same("2 copied home", disc.entry(1, 4, 2), 0);
        disc.write(3, 2);
        due.same("2 the older table stays", disc.entry(0, 3, 0), 4);
        disc.close();
        due.same("2 begin(0)", disc.begin(0), 2);
        due.same("2 empty table", disc.session(2, 5), 0);
        disc.eject();
        due.same("2 begin(1) copies the valid session, not the broken one", disc.begin(1), 3);
        due.same("2 entries from session 1", disc.session(3, 5), 2);
        due.same("2 entry from session 1", disc.entry(3, 3, 2), 1);
    }

    private static void beginWithoutSessionsLeft() {
        WriteOnceDisc disc = new WriteOnceDisc();
        for (int number = 0; number < 12; number++) {
            due.same("2 begin(0)", disc.begin(0), number);
            if (number < 11) {
                disc.close();
            }
        }
        due.same("2 begin(0) of a 13th while open", disc.begin(0), NOT_POSSIBLE);
        disc.close();
        due.same("2 begin(0) of a 13th", disc.begin(0), TOO_MANY);
        due.same("2 sessions()", disc.sessions(), 12);
    }

    /** Leaves as many sectors as wanted, with no session open. */
    private static WriteOnceDisc discWithRoom(int wanted) {
        WriteOnceDisc disc = new WriteOnceDisc();
        disc.begin(0);
        int left = 240 - 4 - 3 - wanted;
        while (left > 0) {
            int size = Math.min(left, 40);
            disc.write(0, size);
            left -= size;
        }
        disc.close();
        return disc;
    }

    private static void beginWithoutRoom() {
        WriteOnceDisc disc = discWithRoom(7);
        due.same("2 next()", disc.next(), 233);
        due.same("2 begin(0) that just fits", disc.begin(0), 1);
        due.same("2 write behind it", disc.write(0, 1), TOO_MANY);
        due.same("2 close() at the end", disc.close(), 240);
        due.same("2 next() at the end", disc.next(), 240);
        due.same("2 begin(0) on a full disc", disc.begin(0), TOO_MANY);
        disc = discWithRoom(6);
        due.same("2 begin(0) that does not fit", disc.begin(0), TOO_MANY);
        disc.set(1, 2);
        due.same("2 begin(0) with a shorter lead-out", disc.begin(0), 1);
    }

    private static void write() {
        WriteOnceDisc disc = new WriteOnceDisc();
        due.same("3 write(20, 0)", disc.write(20, 0), NO_SUCH);
        due.same("3 write(-1, 1)", disc.write(-1, 1), NO_SUCH);
        due.same("3 write(0, 0)", disc.write(0, 0), BAD_VALUE);
        due.same("3 write(0, 41)", disc.write(0, 41), BAD_VALUE);
        due.same("3 write(0, 1) without a session", disc.write(0, 1), NOT_POSSIBLE);
        disc.begin(0);
        due.same("3 write(0, 1)", disc.write(0, 1), 4);
        due.same("3 write(19, 40)", disc.write(19, 40), 5);
        due.same("3 write(0, 2)", disc.write(0, 2), 45);
        due.same("3 replaced entry", disc.entry(0, 0, 0), 45);
        due.same("3 entries", disc.session(0, 5), 2);
        disc.write(1, 40);
        disc.write(1, 40);
        disc.write(1, 40);
        disc.write(1, 40);
        due.same("3 next()", disc.next(), 207);
        due.same("3 write(2, 31)", disc.write(2, 31), TOO_MANY);
        due.same("3 nothing changed", disc.next(), 207);
        due.same("3 write(2, 30)", disc.write(2, 30), 207);
        disc.close();
        due.same("3 next()", disc.next(), 240);
        due.same("3 write(2, 1) in a closed session", disc.write(2, 1), NOT_POSSIBLE);
    }

    private static void remove() {
        WriteOnceDisc disc = new WriteOnceDisc();
        due.same("4 remove(20)", disc.remove(20), NO_SUCH);
        due.same("4 remove(-1)", disc.remove(-1), NO_SUCH);
        due.same("4 remove(0) without a session", disc.remove(0), NOT_POSSIBLE);
        disc.begin(0);
        disc.write(0, 1);
        disc.write(19, 1);
        due.same("4 remove(5) without an entry", disc.remove(5), NOT_POSSIBLE);
        due.same("4 remove(0)", disc.remove(0), 1);
        due.same("4 remove(0) again", disc.remove(0), NOT_POSSIBLE);
        due.same("4 remove(19)", disc.remove(19), 0);
        due.same("4 next() stays", disc.next(), 6);
        disc.write(1, 1);
        disc.close();
        due.same("4 remove(1) when closed", disc.remove(1), NOT_POSSIBLE);
    }

    private static void keep() {
        WriteOnceDisc disc = new WriteOnceDisc();
        due.same("5 keep(0, 0) without sessions", disc.keep(0, 0), NO_SUCH);
        disc.begin(0);
        disc.write(1, 3);
        disc.write(2, 4);
        due.same("5 keep(1, 0) from itself", disc.keep(1, 0), NOT_POSSIBLE);
        disc.close();
        due.same("5 keep(1, 0) without an open session", disc.keep(1, 0), NOT_POSSIBLE);
        disc.begin(0);
        due.same("5 keep(20, 0)", disc.keep(20, 0), NO_SUCH);
        due.same("5 keep(-1, 0)", disc.keep(-1, 0), NO_SUCH);
        due.same("5 keep(1, -1)", disc.keep(1, -1), NO_SUCH);
        due.same("5 keep(1, 2)", disc.keep(1, 2), NO_SUCH);
        due.same("5 keep(3, 0) without an entry", disc.keep(3, 0), NOT_POSSIBLE);
        disc.write(1, 1);
        due.same("5 keep(1, 0)", disc.keep(1, 0), 4);
        due.same("5 replaced", disc.entry(1, 1, 1), 3);
        due.same("5 home", disc.entry(1, 1, 2), 0);
        due.same("5 next() stays", disc.next(), 19);
        disc.eject();
        disc.begin(0);
        due.same("5 keep(1, 1) from a broken one", disc.keep(1, 1), NOT_POSSIBLE);
        disc.damage(0);
        due.same("5 keep(2, 0) from an unreadable one", disc.keep(2, 0), NOT_POSSIBLE);
    }

    private static void closeAndEject() {
        WriteOnceDisc disc = new WriteOnceDisc();
        due.same("6 close() without a session", disc.close(), NOT_POSSIBLE);
        due.same("7 eject() without a session", disc.eject(), 0);
        disc.begin(0);
        disc.set(1, 9);
        due.same("6 close() with the lead-out of begin", disc.close(), 7);
        due.same("6 session(0, 0)", disc.session(0, 0), WriteOnceDisc.CLOSED);
        due.same("6 close() again", disc.close(), NOT_POSSIBLE);
        due.same("7 eject() when closed", disc.eject(), 0);
        due.same("7 session(0, 0)", disc.session(0, 0), WriteOnceDisc.CLOSED);
        disc.begin(0);
        disc.write(7, 2);
        due.same("7 eject()", disc.eject(), 1);
        due.same("7 session(1, 0)", disc.session(1, 0), WriteOnceDisc.BROKEN);
        due.same("7 it keeps its table", disc.entry(1, 7, 0), 11);
        due.same("7 no lead-out", disc.next(), 13);
        due.same("7 eject() again", disc.eject(), 0);
        due.same("6 close() when broken", disc.close(), NOT_POSSIBLE);
    }

    private static void repair() {
        WriteOnceDisc disc = new WriteOnceDisc();
        due.same("8 repair(0) without sessions", disc.repair(0), NO_SUCH);
        due.same("8 repair(-1)", disc.repair(-1), NO_SUCH);
        disc.set(1, 5);
        disc.begin(0);
        due.same("8 repair(0) when open", disc.repair(0), NOT_POSSIBLE);
        disc.write(0, 2);
        disc.eject();
        disc.set(1, 1);
        disc.damage(4);
        due.same("8 repair(1)", disc.repair(1), NO_SUCH);
        due.same("8 repair(0) with its own lead-out", disc.repair(0), 11);
        due.same("8 session(0, 0)", disc.session(0, 0), WriteOnceDisc.CLOSED);
        due.same("8 session(0, 2)", disc.session(0, 2), 11);
        due.same("8 valid()", disc.valid(), 0);
        due.same("8 repair(0) when closed", disc.repair(0), NOT_POSSIBLE);
        disc.begin(0);
        disc.eject();
        disc.begin(0);
        due.same("8 repair(1) not the last", disc.repair(1), NOT_POSSIBLE);
        disc.eject();
        disc.damage(18);
        due.same("8 repair(2) with a damaged lead-in", disc.repair(2), NOT_POSSIBLE);
        disc.undo();
        disc.damage(19);
        due.same("8 repair(2) with damage behind the lead-in", disc.repair(2), 20);
    }

    private static void damage() {
        WriteOnceDisc disc = new WriteOnceDisc();
        due.same("9 damage(-1)", disc.damage(-1), NO_SUCH);
        due.same("9 damage(240)", disc.damage(240), NO_SUCH);
        due.same("9 damage(239)", disc.damage(239), 1);
        due.same("9 damage(0)", disc.damage(0), 2);
        due.same("9 damage(239) again", disc.damage(239), 2);
        due.same("9 damaged(239)", disc.damaged(239), 1);
        due.same("9 damaged(238)", disc.damaged(238), 0);
        disc.begin(0);
        disc.close();
        due.same("9 a session on a damaged lead-in", disc.valid(), NONE);
    }

    private static void set() {
        WriteOnceDisc disc = new WriteOnceDisc();
        due.same("10 set(-1, 4)", disc.set(-1, 4), NO_SUCH);
        due.same("10 set(2, 99)", disc.set(2, 99), NO_SUCH);
        due.same("10 set(0, 1)", disc.set(0, 1), BAD_VALUE);
        due.same("10 set(0, 10)", disc.set(0, 10), BAD_VALUE);
        due.same("10 set(1, 0)", disc.set(1, 0), BAD_VALUE);
        due.same("10 set(1, 10)", disc.set(1, 10), BAD_VALUE);
        disc.begin(0);
        due.same("10 set(0, 2)", disc.set(0, 2), 4);
        due.same("10 set(0, 9)", disc.set(0, 9), 2);
        due.same("10 set(1, 1)", disc.set(1, 1), 3);
        due.same("10 set(1, 9)", disc.set(1, 9), 1);
        due.same("10 session(0, 3)", disc.session(0, 3), 4);
        due.same("10 session(0, 4)", disc.session(0, 4), 3);
        disc.close();
        disc.begin(0);
        due.same("10 session(1, 3)", disc.session(1, 3), 9);
        due.same("10 session(1, 4)", disc.session(1, 4), 9);
    }

    public static void main(String[] args) {
        newObject();
        begin();
        beginWithoutSessionsLeft();
        beginWithoutRoom();
        write();
        remove();
        keep();
        closeAndEject();
        repair();
        damage();
        set();
        due.end();
    }
}
