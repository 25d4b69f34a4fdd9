/** Promises 16 to 23: what is told about sessions, tables, sectors and settings. */
public final class TablesTest {
    private static final Due due = new Due();

    private static final int NO_SUCH = -1;
    private static final int BAD_VALUE = -2;
    private static final int NONE = -6;

    /** Session 0 (0 to 13) is closed, session 1 (14 to 22) broken, session 2 (23 to 25) open. */
    private static WriteOnceDisc threeSessions() {
        WriteOnceDisc disc = new WriteOnceDisc();
        disc.begin(0);
        disc.write(0, 2);
        disc.write(0, 3);
        disc.write(19, 2);
        disc.close();
        disc.set(0, 6);
        disc.set(1, 2);
        disc.begin(1);
        disc.write(5, 3);
        disc.eject();
        disc.set(0, 2);
        disc.begin(0);
        disc.write(6, 1);
        return disc;
    }

    private static void sessionRow(WriteOnceDisc disc, int session, int[] want) {
        for (int what = 0; what < want.length; what++) {
            due.same("17 session(" + session + ", " + what + ")", disc.session(session, what), want[what]);
        }
    }

    private static void sessions() {
        WriteOnceDisc disc = threeSessions();
        due.same("16 sessions()", disc.sessions(), 3);
        sessionRow(disc, 0, new int[] {1, 0, 14, 4, 3, 2, 1, 3});
        sessionRow(disc, 1, new int[] {2, 14, 9, 6, 2, 3, 0, 1});
        sessionRow(disc, 2, new int[] {0, 23, 3, 2, 2, 1, 0, 1});
        due.same("17 session(3, 0)", disc.session(3, 0), NO_SUCH);
        due.same("17 session(-1, 9)", disc.session(-1, 9), NO_SUCH);
        due.same("17 session(0, -1)", disc.session(0, -1), BAD_VALUE);
        due.same("17 session(0, 8)", disc.session(0, 8), BAD_VALUE);
        disc.damage(3);
        due.same("17 session(0, 6) when damaged", disc.session(0, 6), 0);
        disc.undo();
        disc.damage(4);
        disc.damage(11);
        due.same("17 session(0, 6) with other damage", disc.session(0, 6), 1);
    }

    private static void entries() {
        WriteOnceDisc disc = threeSessions();
        due.same("18 entry(0, 0, 0)", disc.entry(0, 0, 0), 6);
        due.same("18 entry(0, 0, 1)", disc.entry(0, 0, 1), 3);
        due.same("18 entry(0, 0, 2)", disc.entry(0, 0, 2), 0);
        due.same("18 entry(1, 19, 0) of a broken session", disc.entry(1, 19, 0), 9);
        due.same("18 entry(1, 19, 2)", disc.entry(1, 19, 2), 0);
        due.same("18 entry(1, 5, 2)", disc.entry(1, 5, 2), 1);
        due.same("18 entry(2, 0, 0)", disc.entry(2, 0, 0), NONE);
        due.same("18 entry(2, 0, 3)", disc.entry(2, 0, 3), BAD_VALUE);
        due.same("18 entry(2, 0, -1)", disc.entry(2, 0, -1), BAD_VALUE);
        due.same("18 entry(3, 0, 3)", disc.entry(3, 0, 3), NO_SUCH);
        due.same("18 entry(-1, 0, 0)", disc.entry(-1, 0, 0), NO_SUCH);
        due.same("18 entry(0, 20, 3)", disc.entry(0, 20, 3), NO_SUCH);
        due.same("18 entry(0, -1, 0)", disc.entry(0, -1, 0), NO_SUCH);
    }

    private static void valid() {
        WriteOnceDisc disc = threeSessions();
        due.same("19 valid()", disc.valid(), 0);
        due.same("20 next()", disc.next(), 26);
        disc.close();
        due.same("19 valid()", disc.valid(), 2);
        due.same("20 next()", disc.next(), 28);
        disc.damage(24);
        due.same("19 valid() when 2 is damaged", disc.valid(), 0);
        disc.damage(0);
        due.same("19 valid() when 0 is damaged", disc.valid(), NONE);
    }

    private static void sectors() {
        WriteOnceDisc disc = threeSessions();
        String uses = "11113333333222" + "111111333" + "113" + "0";
        for (int sector = 0; sector < uses.length(); sector++) {
            due.same("22 use(" + sector + ")", disc.use(sector), uses.charAt(sector) - '0');
        }
        due.same("22 use(239)", disc.use(239), 0);
        due.same("22 use(240)", disc.use(240), NO_SUCH);
        due.same("22 use(-1)", disc.use(-1), NO_SUCH);
        disc.damage(239);
        due.same("21 damaged(239)", disc.damaged(239), 1);
        due.same("21 damaged(238)", disc.damaged(238), 0);
        due.same("21 damaged(240)", disc.damaged(240), NO_SUCH);
        due.same("21 damaged(-1)", disc.damaged(-1), NO_SUCH);
    }

    private static void settings() {
        WriteOnceDisc disc = threeSessions();
        due.same("23 setting(0)", disc.setting(0), 2);
        due.same("23 setting(1)", disc.setting(1), 2);
        due.same("23 setting(2)", disc.setting(2), NO_SUCH);
        due.same("23 setting(-1)", disc.setting(-1), NO_SUCH);
    }

    public static void main(String[] args) {
        sessions();
        entries();
        valid();
        sectors();
        settings();
        due.end();
    }
}
