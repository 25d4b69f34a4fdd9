/** The edges that the document names under "Terms", a test for each sentence: disc, sessions, tables, damage. */
public final class EdgesOfTermsTest {
    private static final Edge edge = new Edge();

    private static final int NO_SUCH = -1;
    private static final int BAD_VALUE = -2;
    private static final int TOO_MANY = -4;
    private static final int NOT_POSSIBLE = -5;
    private static final int NONE = -6;

    private static final int OPEN = 0;
    private static final int CLOSED = 1;
    private static final int BROKEN = 2;

    private static void sectors() {
        edge.sentence("The disc has 240 sectors, 0 to 239");
        edge.takesOnly("", "damage(%d)", 0, 239, NO_SUCH);
        edge.takesOnly("", "damaged(%d)", 0, 239, NO_SUCH);
        edge.takesOnly("", "use(%d)", 0, 239, NO_SUCH);
        edge.takesOnly("", "validIf(%d)", 0, 239, NO_SUCH);
    }

    private static void sectorsAreNeverUsedAgain() {
        edge.sentence("Sectors are used in ascending order and never again");
        edge.answers("begin(0) write(0, 5)", "write(1, 5)", 9);
        edge.answers("begin(0) write(0, 5) remove(0)", "write(0, 5)", 9);
        edge.answers("begin(0) write(0, 5)", "write(0, 5)", 9);
        edge.answers("begin(0) write(0, 5) eject() begin(0)", "session(1, 1)", 9);
        edge.answers("begin(0) eject() begin(0)", "session(1, 1)", 4);
        edge.answers("begin(0) close() damage(0) begin(0)", "session(1, 1)", 7);
    }

    private static void damagedSectorsAreUsed() {
        edge.sentence("the next sector is the first one that is not used");
        edge.answers("damage(0)", "next()", 0);
        edge.answers("damage(0) begin(0)", "session(0, 1)", 0);
        edge.answers("damage(4) begin(0)", "write(0, 1)", 4);
        edge.answers("damage(0) damage(4) begin(0) write(0, 1)", "next()", 5);
    }

    private static void firstNextSector() {
        edge.sentence("the next sector is 0 at first");
        edge.answers("", "next()", 0);
        edge.answers("begin(0)", "next()", 4);
    }

    private static void lastNextSector() {
        edge.sentence("the next sector is 240 if all are used");
        edge.answers(Edge.openWithRoom(1) + "close()", "next()", 239);
        edge.answers(Edge.openWithRoom(0), "next()", 237);
        edge.answers(Edge.openWithRoom(0) + "close()", "next()", 240);
        edge.answers(Edge.openWithRoom(0) + "eject() repair(0)", "next()", 240);
        edge.answers(Edge.openWithRoom(0) + "close() damage(239)", "next()", 240);
    }

    private static void twelveSessions() {
        edge.sentence("There are at most 12 sessions, numbered from 0");
        edge.answers("", "begin(0)", 0);
        edge.answers("begin(0) close() ".repeat(11), "begin(0)", 11);
        edge.answers("begin(0) close() ".repeat(12), "session(11, 0)", CLOSED);
        edge.refuses("begin(0) close() ".repeat(12), "begin(0)", TOO_MANY);
        edge.refuses("begin(0) eject() ".repeat(12), "begin(1)", TOO_MANY);
        edge.answers("begin(0) close() ".repeat(12), "sessions()", 12);
    }

    private static void oneOpenSession() {
        edge.sentence("At most one session, the last one, is open");
        edge.answers("begin(0)", "session(0, 0)", OPEN);
        edge.refuses("begin(0)", "begin(0)", NOT_POSSIBLE);
        edge.answers("begin(0) close()", "session(0, 0)", CLOSED);
        edge.answers("begin(0) close() begin(0)", "session(0, 0)", CLOSED);
        edge.answers("begin(0) close() begin(0)", "session(1, 0)", OPEN);
        edge.answers("begin(0) eject() begin(0)", "session(0, 0)", BROKEN);
        edge.answers("begin(0) eject() begin(0)", "session(1, 0)", OPEN);
    }

    private static void leadInSetting() {
        edge.sentence("LEAD_IN (2 to 9; 4)");
        edge.answers("", "setting(0)", 4);
        edge.takesOnly("", "set(0, %d)", 2, 9, BAD_VALUE);
        edge.answers("set(0, 2)", "setting(0)", 2);
        edge.answers("set(0, 9)", "setting(0)", 9);
    }

    private static void leadOutSetting() {
        edge.sentence("LEAD_OUT (1 to 9; 3)");
        edge.answers("", "setting(1)", 3);
        edge.takesOnly("", "set(1, %d)", 1, 9, BAD_VALUE);
        edge.answers("set(1, 1)", "setting(1)", 1);
        edge.answers("set(1, 9)", "setting(1)", 9);
    }

    private static void settingsAreKept() {
        edge.sentence("A session keeps the settings that there were when it was begun");
        edge.answers("begin(0) set(0, 9)", "session(0, 3)", 4);
        edge.answers("begin(0) set(1, 9)", "session(0, 4)", 3);
        edge.answers("begin(0) set(0, 9) set(1, 9)", "close()", 7);
        edge.answers("begin(0) eject() set(0, 9) set(1, 9)", "repair(0)", 7);
        edge.answers("begin(0) set(0, 9)", "use(4)", 0);
        edge.answers("begin(0) write(0, 1) set(0, 9)", "use(4)", 3);
        edge.answers("begin(0) write(0, 1) close() set(1, 9)", "use(4)", 3);
        edge.answers("begin(0) close() set(0, 9) damage(4)", "valid()", 0);
        edge.answers("begin(0) close() set(0, 2) damage(3)", "valid()", NONE);
        edge.answers("set(0, 9) set(1, 9) begin(0) set(0, 2) set(1, 1)", "close()", 18);
        edge.answers("begin(0) set(0, 9) close() begin(0)", "session(1, 3)", 9);
        edge.answers("begin(0) set(1, 9) close() begin(0)", "session(1, 4)", 9);
    }

    private static void names() {
        edge.sentence("for some names of files (0 to 19)");
        edge.takesOnly("begin(0)", "write(%d, 1)", 0, 19, NO_SUCH);
        edge.answers("begin(0) write(0, 1)", "entry(0, 0, 0)", 4);
        edge.answers("begin(0) write(19, 1)", "entry(0, 19, 0)", 4);
    }

    private static void filesNeverChange() {
        edge.sentence("Files are never changed; an entry is only a reference to sectors");
        String before = "begin(0) write(1, 5) close() begin(1) write(1, 2) ";
        edge.answers(before, "entry(0, 1, 0)", 4);
        edge.answers(before, "entry(0, 1, 1)", 5);
        edge.answers(before, "entry(1, 1, 0)", 16);
        edge.answers(before + "remove(1)", "entry(0, 1, 0)", 4);
        edge.answers(before + "remove(1)", "use(16)", 3);
        edge.answers(before + "close() begin(0) keep(1, 0)", "entry(1, 1, 0)", 16);
    }

    private static void leadInTakesTheNextSectors() {
        edge.sentence("When a session is begun, its lead-in takes the next LEAD_IN sectors");
        edge.answers("set(0, 2) begin(0)", "next()", 2);
        edge.answers("set(0, 2) begin(0)", "use(1)", 1);
        edge.answers("set(0, 2) begin(0)", "use(2)", 0);
        edge.answers("set(0, 9) begin(0)", "next()", 9);
        edge.answers("set(0, 9) begin(0)", "use(8)", 1);
        edge.answers("set(0, 9) begin(0)", "use(9)", 0);
    }

    private static void filesTakeTheNextSectors() {
        edge.sentence("When a file is written, it takes as many of the next sectors as its size");
        edge.answers("begin(0) write(0, 1)", "next()", 5);
        edge.answers("begin(0) write(0, 1)", "use(4)", 3);
        edge.answers("begin(0) write(0, 1)", "use(5)", 0);
        edge.answers("begin(0) write(0, 40)", "next()", 44);
        edge.answers("begin(0) write(0, 40)", "use(43)", 3);
        edge.answers("begin(0) write(0, 40)", "use(44)", 0);
    }

    private static void entriesAreReplaced() {
        edge.sentence("an entry that the table has for this name is replaced");
        edge.answers("begin(0) write(7, 2) write(7, 3)", "session(0, 5)", 1);
        edge.answers("begin(0) write(7, 2) write(7, 3)", "entry(0, 7, 0)", 6);
        edge.answers("begin(0) write(7, 2) write(7, 3)", "entry(0, 7, 1)", 3);
        edge.answers("begin(0) write(7, 2) close() begin(1) write(7, 3)", "entry(1, 7, 2)", 1);
        edge.answers("begin(0) write(7, 2) close() begin(1) write(7, 3)", "session(1, 5)", 1);
    }

    private static void leadOutTakesTheNextSectors() {
        edge.sentence("When a session is closed, its lead-out takes the next LEAD_OUT sectors of this session");
        edge.answers("set(1, 1) begin(0)", "close()", 5);
        edge.answers("set(1, 1) begin(0) close()", "use(4)", 2);
        edge.answers("set(1, 1) begin(0) close()", "use(5)", 0);
        edge.answers("set(1, 9) begin(0)", "close()", 13);
        edge.answers("set(1, 9) begin(0) close()", "use(12)", 2);
        edge.answers("set(1, 9) begin(0) close()", "use(13)", 0);
    }

    private static void ejectedSessions() {
        edge.sentence("an open session becomes broken; it keeps its table, but has no lead-out");
        String before = "begin(0) write(3, 2) write(4, 1) eject() ";
        edge.answers(before, "session(0, 0)", BROKEN);
        edge.answers(before, "session(0, 5)", 2);
        edge.answers(before, "entry(0, 3, 0)", 4);
        edge.answers(before, "entry(0, 4, 1)", 1);
        edge.answers(before, "next()", 7);
        edge.answers(before, "use(6)", 3);
        edge.answers(before, "use(7)", 0);
    }

    private static void damageStays() {
        edge.sentence("A sector can be damaged; it stays damaged");
        edge.answers("damage(5) damage(5)", "damaged(5)", 1);
        edge.answers("damage(5) begin(0) write(0, 3) close()", "damaged(5)", 1);
        edge.answers("begin(0) write(0, 3) damage(5) eject() repair(0)", "damaged(5)", 1);
        edge.answers("damage(2) begin(0) close()", "session(0, 6)", 0);
    }

    private static void readableSessions() {
        edge.sentence("A session is readable if it is closed and no sector of its lead-in is damaged");
        String one = "begin(0) close() begin(0) write(0, 1) ";
        edge.answers(one, "session(1, 6)", 0);
        edge.answers(one + "eject()", "session(1, 6)", 0);
        edge.answers(one + "close()", "session(1, 6)", 1);
        edge.answers(one + "eject() repair(1)", "session(1, 6)", 1);
        for (int sector = 0; sector < 15; sector++) {
            int readable = sector >= 7 && sector <= 10 ? 0 : 1;
            edge.answers(one + "close() damage(" + sector + ")", "session(1, 6)", readable);
        }
    }

    private static void readableWithEachLeadIn() {
        edge.sentence("no sector of its lead-in is damaged: the least and the greatest lead-in");
        edge.answers("set(0, 2) begin(0) close() damage(1)", "session(0, 6)", 0);
        edge.answers("set(0, 2) begin(0) close() damage(2)", "session(0, 6)", 1);
        edge.answers("set(0, 9) begin(0) close() damage(8)", "session(0, 6)", 0);
        edge.answers("set(0, 9) begin(0) close() damage(9)", "session(0, 6)", 1);
    }

    private static void validSession() {
        edge.sentence("The valid session is the readable session with the greatest number. (There can be none.)");
        String three = "begin(0) close() begin(0) close() begin(0) ";
        edge.answers("", "valid()", NONE);
        edge.answers("begin(0)", "valid()", NONE);
        edge.answers("begin(0) eject()", "valid()", NONE);
        edge.answers(three, "valid()", 1);
        edge.answers(three + "close()", "valid()", 2);
        edge.answers(three + "close() damage(7)", "valid()", 2);
        edge.answers(three + "close() damage(14)", "valid()", 1);
        edge.answers(three + "close() damage(14) damage(10)", "valid()", 0);
        edge.answers(three + "close() damage(14) damage(10) damage(3)", "valid()", NONE);
        edge.answers("begin(0) close() ".repeat(12), "valid()", 11);
    }

    private static void foundFiles() {
        edge.sentence("A file can be found if the table of the valid session has an entry for its name");
        edge.answers("begin(0) write(0, 1)", "find(0)", NONE);
        edge.answers("begin(0) write(0, 1) close()", "find(0)", 4);
        edge.answers("begin(0) write(0, 1) close()", "find(1)", NONE);
        edge.answers("begin(0) write(0, 1) close() begin(0)", "find(0)", 4);
        edge.answers("begin(0) write(0, 1) close() begin(0) close()", "find(0)", NONE);
        edge.answers("begin(0) write(0, 1) close() begin(1) close()", "find(0)", 4);
        edge.answers("begin(0) write(0, 1) close() damage(4)", "find(0)", 4);
    }

    private static void intactFiles() {
        edge.sentence("it is intact if none of its sectors is damaged");
        String three = "begin(0) write(0, 1) write(1, 3) write(2, 1) close() ";
        for (int sector = 0; sector < 240; sector++) {
            int intact = sector >= 5 && sector <= 7 ? 0 : sector < 4 ? NONE : 1;
            edge.answers(three + "damage(" + sector + ")", "intact(1)", intact);
        }
    }

    public static void main(String[] args) {
        sectors();
        sectorsAreNeverUsedAgain();
        damagedSectorsAreUsed();
        firstNextSector();
        lastNextSector();
        twelveSessions();
        oneOpenSession();
        leadInSetting();
        leadOutSetting();
        settingsAreKept();
        names();
        filesNeverChange();
        leadInTakesTheNextSectors();
        filesTakeTheNextSectors();
        entriesAreReplaced();
        leadOutTakesTheNextSectors();
        ejectedSessions();
        damageStays();
        readableSessions();
        readableWithEachLeadIn();
        validSession();
        foundFiles();
        intactFiles();
        edge.end();
    }
}
