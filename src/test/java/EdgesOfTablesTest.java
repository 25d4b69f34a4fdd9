/** The edges that promises 16 to 23 name, a test for each sentence or part of one. */
public final class EdgesOfTablesTest {
    private static final Edge edge = new Edge();

    private static final int NO_SUCH = -1;
    private static final int BAD_VALUE = -2;
    private static final int NONE = -6;

    /** Twelve sessions of seven sectors; the last one is open. */
    private static final String TWELVE = "begin(0) close() ".repeat(11) + "begin(0) ";

    private static void sessions() {
        edge.sentence("16: Returns how many sessions there are");
        for (int number = 0; number <= 12; number++) {
            edge.answers("begin(0) close() ".repeat(number), "sessions()", number);
            edge.answers("begin(0) eject() ".repeat(number), "sessions()", number);
        }
        edge.answers("begin(0)", "sessions()", 1);
        edge.answers("begin(0) close() ".repeat(12) + "begin(0)", "sessions()", 12);
        edge.answers("begin(0) undo()", "sessions()", 0);
    }

    private static void sessionNumbers() {
        edge.sentence("17: NO_SUCH if there is no such session");
        edge.refuses("", "session(0, 0)", NO_SUCH);
        edge.takesOnly("begin(0)", "session(%d, 0)", 0, 0, NO_SUCH);
        edge.takesOnly(TWELVE, "session(%d, 0)", 0, 11, NO_SUCH);
        edge.answers("begin(0) undo()", "session(0, 0)", NO_SUCH);
    }

    private static void sessionWhats() {
        edge.sentence("17: BAD_VALUE if what is out of range");
        edge.takesOnly("begin(0)", "session(0, %d)", 0, 7, BAD_VALUE);
        edge.takesOnly(TWELVE, "session(11, %d)", 0, 7, BAD_VALUE);
    }

    private static void sessionOrderOfCodes() {
        edge.sentence("17: NO_SUCH, then BAD_VALUE");
        edge.refuses("", "session(0, 8)", NO_SUCH);
        edge.refuses("begin(0)", "session(1, -1)", NO_SUCH);
        edge.refuses("begin(0)", "session(-1, 8)", NO_SUCH);
    }

    private static void sessionState() {
        edge.sentence("17: 0 for its state");
        edge.answers("begin(0)", "session(0, 0)", 0);
        edge.answers("begin(0) close()", "session(0, 0)", 1);
        edge.answers("begin(0) eject()", "session(0, 0)", 2);
        edge.answers("begin(0) eject() repair(0)", "session(0, 0)", 1);
        edge.answers("begin(0) close() damage(0)", "session(0, 0)", 1);
    }

    private static void sessionFirstSector() {
        edge.sentence("17: 1 for its first sector");
        edge.answers("begin(0)", "session(0, 1)", 0);
        edge.answers("begin(0) write(0, 40) close() begin(0)", "session(1, 1)", 47);
        edge.answers(Edge.closedWithRoom(7) + "begin(0)", "session(1, 1)", 233);
        edge.answers(Edge.closedWithRoom(3) + "set(0, 2) set(1, 1) begin(0)", "session(1, 1)", 237);
    }

    private static void sessionSectors() {
        edge.sentence("17: 2 for the number of sectors that it has taken so far, with lead-in and lead-out");
        edge.answers("begin(0)", "session(0, 2)", 4);
        edge.answers("begin(0) write(0, 1)", "session(0, 2)", 5);
        edge.answers("begin(0) write(0, 1) remove(0)", "session(0, 2)", 5);
        edge.answers("begin(0) write(0, 1) eject()", "session(0, 2)", 5);
        edge.answers("begin(0) write(0, 1) close()", "session(0, 2)", 8);
        edge.answers("begin(0) write(0, 1) eject() repair(0)", "session(0, 2)", 8);
        edge.answers("begin(0) write(0, 1) eject() begin(0) close()", "session(0, 2)", 5);
        edge.answers("begin(0) write(0, 1) close() begin(1) keep(0, 0)", "session(1, 2)", 4);
        edge.answers("set(0, 2) set(1, 1) begin(0) close()", "session(0, 2)", 3);
        edge.answers("set(0, 9) set(1, 9) begin(0) close()", "session(0, 2)", 18);
        edge.answers(Edge.closedWithRoom(0), "session(0, 2)", 240);
    }

    private static void sessionLeads() {
        edge.sentence("17: 3 for its LEAD_IN; 4 for its LEAD_OUT");
        edge.answers("begin(0)", "session(0, 3)", 4);
        edge.answers("begin(0)", "session(0, 4)", 3);
        edge.answers("set(0, 2) set(1, 1) begin(0)", "session(0, 3)", 2);
        edge.answers("set(0, 2) set(1, 1) begin(0)", "session(0, 4)", 1);
        edge.answers("set(0, 9) set(1, 9) begin(0)", "session(0, 3)", 9);
        edge.answers("set(0, 9) set(1, 9) begin(0)", "session(0, 4)", 9);
        edge.answers("begin(0) eject()", "session(0, 4)", 3);
    }

    private static void sessionEntries() {
        edge.sentence("17: 5 for the number of entries of its table");
        edge.answers("begin(0)", "session(0, 5)", 0);
        StringBuilder calls = new StringBuilder("begin(0)");
        for (int name = 0; name <= 19; name++) {
            calls.append(" write(").append(name).append(", 1)");
            edge.answers(calls.toString(), "session(0, 5)", name + 1);
        }
        edge.answers(calls + " write(0, 1)", "session(0, 5)", 20);
        edge.answers(calls + " remove(0)", "session(0, 5)", 19);
        edge.answers(calls + " eject()", "session(0, 5)", 20);
        edge.answers(calls + " close() damage(0)", "session(0, 5)", 20);
    }

    private static void sessionReadable() {
        edge.sentence("17: 6 for 1 if it is readable, otherwise 0");
        edge.answers("begin(0)", "session(0, 6)", 0);
        edge.answers("begin(0) eject()", "session(0, 6)", 0);
        edge.answers("begin(0) close()", "session(0, 6)", 1);
        edge.answers("begin(0) close() damage(0)", "session(0, 6)", 0);
        edge.answers("begin(0) close() damage(3)", "session(0, 6)", 0);
        edge.answers("begin(0) close() damage(4)", "session(0, 6)", 1);
        edge.answers("begin(0) close() begin(0) close()", "session(0, 6)", 1);
    }

    private static void sessionWrittenFiles() {
        edge.sentence("17: 7 for the number of files that were written in it");
        edge.answers("begin(0)", "session(0, 7)", 0);
        edge.answers("begin(0) write(0, 1)", "session(0, 7)", 1);
        edge.answers("begin(0) write(0, 1) write(0, 1)", "session(0, 7)", 2);
        edge.answers("begin(0) write(0, 1) remove(0)", "session(0, 7)", 1);
        edge.answers("begin(0) write(0, 1) eject()", "session(0, 7)", 1);
        edge.answers("begin(0) write(0, 1) close() begin(1) keep(0, 0)", "session(1, 7)", 0);
        edge.answers("begin(0) write(0, 1) close() begin(1) write(1, 1)", "session(0, 7)", 1);
        edge.answers("set(0, 2) set(1, 1) begin(0) " + "write(0, 1) ".repeat(237), "session(0, 7)", 237);
    }

    private static void entryNumbers() {
        edge.sentence("18: NO_SUCH if there is no such session or name");
        edge.refuses("", "entry(0, 0, 0)", NO_SUCH);
        edge.takesOnly("begin(0)", "entry(%d, 0, 0)", 0, 0, NO_SUCH);
        edge.takesOnly(TWELVE, "entry(%d, 0, 0)", 0, 11, NO_SUCH);
        edge.takesOnly("begin(0)", "entry(0, %d, 0)", 0, 19, NO_SUCH);
        edge.takesOnly("begin(0) write(0, 1) write(19, 1)", "entry(0, %d, 2)", 0, 19, NO_SUCH);
    }

    private static void entryWhats() {
        edge.sentence("18: BAD_VALUE if what is out of range");
        edge.takesOnly("begin(0)", "entry(0, 0, %d)", 0, 2, BAD_VALUE);
        edge.takesOnly("begin(0) write(0, 1)", "entry(0, 0, %d)", 0, 2, BAD_VALUE);
    }

    private static void entryOrderOfCodes() {
        edge.sentence("18: NO_SUCH, then BAD_VALUE, then NONE");
        edge.refuses("", "entry(0, 0, 3)", NO_SUCH);
        edge.refuses("begin(0)", "entry(1, 0, -1)", NO_SUCH);
        edge.refuses("begin(0)", "entry(0, 20, 3)", NO_SUCH);
        edge.refuses("begin(0)", "entry(0, 0, 3)", BAD_VALUE);
    }

    private static void entryOfNothing() {
        edge.sentence("18: NONE if the table has no entry for this name");
        edge.answers("begin(0)", "entry(0, 0, 0)", NONE);
        edge.answers("begin(0)", "entry(0, 19, 2)", NONE);
        edge.answers("begin(0) write(0, 1)", "entry(0, 1, 0)", NONE);
        edge.answers("begin(0) write(0, 1) remove(0)", "entry(0, 0, 1)", NONE);
        edge.answers("begin(0) write(0, 1) close() begin(0)", "entry(1, 0, 0)", NONE);
    }

    private static void entryOfUnreadableSessions() {
        edge.sentence("18: whether the session is readable or not");
        String before = "begin(0) write(0, 1) write(19, 40) ";
        for (String after : new String[] {"", "eject()", "close()", "close() damage(0)", "damage(5)"}) {
            edge.answers(before + after, "entry(0, 0, 0)", 4);
            edge.answers(before + after, "entry(0, 0, 1)", 1);
            edge.answers(before + after, "entry(0, 19, 0)", 5);
            edge.answers(before + after, "entry(0, 19, 1)", 40);
            edge.answers(before + after, "entry(0, 19, 2)", 0);
        }
    }

    private static void entryTellsTheSession() {
        edge.sentence("18: 2 for the session in which the file was written");
        String before = "begin(0) write(0, 1) close() begin(1) write(1, 1) close() ";
        edge.answers(before + "begin(1)", "entry(2, 0, 2)", 0);
        edge.answers(before + "begin(1)", "entry(2, 1, 2)", 1);
        edge.answers(before + "begin(0) keep(0, 1)", "entry(2, 0, 2)", 0);
        edge.answers(TWELVE + "write(3, 1)", "entry(11, 3, 2)", 11);
    }

    private static void valid() {
        edge.sentence("19: NONE if there is none");
        edge.answers("", "valid()", NONE);
        edge.answers("begin(0)", "valid()", NONE);
        edge.answers("begin(0) eject()", "valid()", NONE);
        edge.answers("begin(0) close() damage(3)", "valid()", NONE);
        edge.answers("begin(0) close()", "valid()", 0);
        edge.answers(TWELVE, "valid()", 10);
        edge.answers(TWELVE + "close()", "valid()", 11);
        edge.answers(TWELVE + "eject() repair(11)", "valid()", 11);
    }

    private static void next() {
        edge.sentence("20: Returns the next sector, 240 if all sectors are used");
        edge.answers("", "next()", 0);
        edge.answers(Edge.openWithRoom(0), "next()", 237);
        edge.answers(Edge.closedWithRoom(1), "next()", 239);
        edge.answers(Edge.closedWithRoom(0), "next()", 240);
    }

    private static void damaged() {
        edge.sentence("21: NO_SUCH if there is no such sector");
        edge.takesOnly("", "damaged(%d)", 0, 239, NO_SUCH);
        edge.answers("damage(239)", "damaged(240)", NO_SUCH);
    }

    private static void damagedAnswers() {
        edge.sentence("21: Returns 1 if it is damaged, otherwise 0");
        for (int sector : new int[] {0, 1, 119, 238, 239}) {
            for (int asked = 0; asked <= 239; asked++) {
                edge.answers("damage(" + sector + ")", "damaged(" + asked + ")", asked == sector ? 1 : 0);
            }
        }
    }

    private static void use() {
        edge.sentence("22: NO_SUCH if there is no such sector");
        edge.takesOnly("", "use(%d)", 0, 239, NO_SUCH);
        edge.takesOnly(Edge.closedWithRoom(0), "use(%d)", 0, 239, NO_SUCH);
    }

    private static void uses(String before, String due) {
        for (int sector = 0; sector <= 239; sector++) {
            int want = sector < due.length() ? due.charAt(sector) - '0' : 0;
            edge.answers(before, "use(" + sector + ")", want);
        }
    }

    private static void useAnswers() {
        edge.sentence("22: 0 if it is not used, 1 for a lead-in, 2 for a lead-out, 3 for a file");
        uses("", "");
        uses("damage(0) damage(239)", "");
        uses("begin(0)", "1111");
        uses("begin(0) eject()", "1111");
        uses("begin(0) close()", "1111222");
        uses("begin(0) write(0, 1)", "11113");
        uses("begin(0) write(0, 1) remove(0)", "11113");
        uses("begin(0) write(0, 1) eject()", "11113");
        uses("begin(0) write(0, 1) close()", "11113222");
        uses("begin(0) write(0, 1) eject() repair(0)", "11113222");
        uses("set(0, 2) set(1, 1) begin(0) write(0, 2) close() begin(0)", "1133211");
        uses("set(0, 9) set(1, 9) begin(0) close() set(0, 2) begin(0)", "11111111122222222211");
        uses("begin(0) write(0, 1) eject() set(1, 1) begin(0) write(1, 4) close()", "11113" + "111133332");
        uses(Edge.openWithRoom(0), "1111" + "3".repeat(233));
        uses(Edge.closedWithRoom(0), "1111" + "3".repeat(233) + "222");
    }

    private static void setting() {
        edge.sentence("23: NO_SUCH if there is no such setting");
        edge.takesOnly("", "setting(%d)", 0, 1, NO_SUCH);
        edge.answers("", "setting(0)", 4);
        edge.answers("", "setting(1)", 3);
        edge.answers("set(0, 2)", "setting(1)", 3);
        edge.answers("set(1, 9)", "setting(0)", 4);
        edge.answers("set(0, 9) begin(0) close()", "setting(0)", 9);
    }

    public static void main(String[] args) {
        sessions();
        sessionNumbers();
        sessionWhats();
        sessionOrderOfCodes();
        sessionState();
        sessionFirstSector();
        sessionSectors();
        sessionLeads();
        sessionEntries();
        sessionReadable();
        sessionWrittenFiles();
        entryNumbers();
        entryWhats();
        entryOrderOfCodes();
        entryOfNothing();
        entryOfUnreadableSessions();
        entryTellsTheSession();
        valid();
        next();
        damaged();
        damagedAnswers();
        use();
        useAnswers();
        setting();
        edge.end();
    }
}
