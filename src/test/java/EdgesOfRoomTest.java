/** The edges that promises 31 to 35 name, a test for each sentence or part of one. */
public final class EdgesOfRoomTest {
    private static final Edge edge = new Edge();

    private static final int NO_SUCH = -1;
    private static final int BAD_VALUE = -2;
    private static final int NONE = -6;

    private static final String LEAST = "set(0, 2) set(1, 1) ";
    private static final String GREATEST = "set(0, 9) set(1, 9) ";
    private static final String ALL_SESSIONS = "begin(0) close() ".repeat(12);
    private static final String LAST_SESSION = "begin(0) close() ".repeat(11) + "begin(0) ";

    // ---- 31: largest

    private static void largestInTheOpenSession() {
        edge.sentence("31: the greatest size of a file that could be written next, in the open session");
        for (int room = 0; room <= 40; room++) {
            edge.answers(Edge.openWithRoom(room), "largest()", room);
            edge.answers(Edge.openWithRoom(room) + GREATEST, "largest()", room);
        }
        edge.answers("set(1, 9)" + Edge.openWithRoom(40), "largest()", 34);
        edge.answers("set(1, 1)" + Edge.openWithRoom(3), "largest()", 5);
        edge.answers(LAST_SESSION, "largest()", 40);
    }

    private static void largestInANewSession() {
        edge.sentence("31: if no session is open, in a new one");
        edge.answers("", "largest()", 40);
        for (int room = 0; room <= 40; room++) {
            edge.answers(Edge.closedWithRoom(7 + room), "largest()", room);
        }
        edge.answers("begin(0)" + Edge.fill(196) + "eject()", "largest()", 33);
        edge.answers(Edge.closedWithRoom(20) + LEAST, "largest()", 17);
        edge.answers(Edge.closedWithRoom(20) + GREATEST, "largest()", 2);
    }

    private static void largestIsAtMost40() {
        edge.sentence("31: at most 40");
        edge.answers(Edge.openWithRoom(40), "largest()", 40);
        edge.answers(Edge.openWithRoom(41), "largest()", 40);
        edge.answers(Edge.closedWithRoom(47), "largest()", 40);
        edge.answers(Edge.closedWithRoom(48), "largest()", 40);
        edge.answers("begin(0)", "largest()", 40);
    }

    private static void largestOfNothing() {
        edge.sentence("31: 0 if none could be written");
        edge.answers(Edge.openWithRoom(0), "largest()", 0);
        edge.answers(Edge.closedWithRoom(7), "largest()", 0);
        edge.answers(Edge.closedWithRoom(6), "largest()", 0);
        edge.answers(Edge.closedWithRoom(5), "largest()", 0);
        edge.answers(Edge.closedWithRoom(0), "largest()", 0);
        edge.answers(Edge.closedWithRoom(3) + LEAST, "largest()", 0);
        edge.answers(Edge.closedWithRoom(4) + LEAST, "largest()", 1);
        edge.answers(Edge.closedWithRoom(18) + GREATEST, "largest()", 0);
        edge.answers(Edge.closedWithRoom(19) + GREATEST, "largest()", 1);
        edge.answers(ALL_SESSIONS, "largest()", 0);
        edge.answers("begin(0) eject() ".repeat(12), "largest()", 0);
    }

    // ---- 32: filesLeft

    private static void filesLeftSizes() {
        edge.sentence("32: BAD_VALUE if size is out of range");
        edge.takesOnly("", "filesLeft(%d)", 1, 40, BAD_VALUE);
        edge.takesOnly("begin(0)", "filesLeft(%d)", 1, 40, BAD_VALUE);
        edge.takesOnly(Edge.closedWithRoom(0), "filesLeft(%d)", 1, 40, BAD_VALUE);
        edge.takesOnly(ALL_SESSIONS, "filesLeft(%d)", 1, 40, BAD_VALUE);
    }

    private static void filesLeftInTheOpenSession() {
        edge.sentence("32: all in one session: in the open one");
        edge.answers("begin(0)", "filesLeft(1)", 233);
        edge.answers("begin(0)", "filesLeft(40)", 5);
        edge.answers("begin(0)" + GREATEST, "filesLeft(1)", 233);
        edge.answers("begin(0)" + LEAST, "filesLeft(1)", 233);
        edge.answers(LAST_SESSION, "filesLeft(40)", 3);
        for (int size = 2; size <= 40; size++) {
            edge.answers(Edge.openWithRoom(size), "filesLeft(" + size + ")", 1);
            edge.answers(Edge.openWithRoom(size - 1), "filesLeft(" + size + ")", 0);
            edge.answers(Edge.openWithRoom(2 * size), "filesLeft(" + size + ")", 2);
            edge.answers(Edge.openWithRoom(2 * size - 1), "filesLeft(" + size + ")", 1);
        }
        edge.answers(Edge.openWithRoom(0), "filesLeft(1)", 0);
        edge.answers(Edge.openWithRoom(1), "filesLeft(1)", 1);
    }

    private static void filesLeftInANewSession() {
        edge.sentence("32: if no session is open, in a new one");
        edge.answers("", "filesLeft(1)", 233);
        edge.answers(LEAST, "filesLeft(1)", 237);
        edge.answers(GREATEST, "filesLeft(1)", 222);
        edge.answers("begin(0) eject()", "filesLeft(1)", 229);
        for (int size = 2; size <= 40; size++) {
            edge.answers(Edge.closedWithRoom(7 + size), "filesLeft(" + size + ")", 1);
            edge.answers(Edge.closedWithRoom(7 + size - 1), "filesLeft(" + size + ")", 0);
            edge.answers(Edge.closedWithRoom(7 + 2 * size), "filesLeft(" + size + ")", 2);
            edge.answers(Edge.closedWithRoom(7 + 2 * size - 1), "filesLeft(" + size + ")", 1);
        }
        edge.answers(Edge.closedWithRoom(7), "filesLeft(1)", 0);
        edge.answers(Edge.closedWithRoom(8), "filesLeft(1)", 1);
    }

    private static void filesLeftOfNothing() {
        edge.sentence("32: no room, or no session, is left");
        edge.answers(Edge.closedWithRoom(6), "filesLeft(1)", 0);
        edge.answers(Edge.closedWithRoom(0), "filesLeft(40)", 0);
        edge.answers(ALL_SESSIONS, "filesLeft(1)", 0);
        edge.answers("begin(0) eject() ".repeat(12), "filesLeft(1)", 0);
    }

    // ---- 33: filesEach

    private static void filesEachSizes() {
        edge.sentence("33: BAD_VALUE if size is out of range");
        edge.takesOnly("", "filesEach(%d)", 1, 40, BAD_VALUE);
        edge.takesOnly("begin(0)", "filesEach(%d)", 1, 40, BAD_VALUE);
        edge.takesOnly(Edge.closedWithRoom(0), "filesEach(%d)", 1, 40, BAD_VALUE);
        edge.takesOnly(ALL_SESSIONS, "filesEach(%d)", 1, 40, BAD_VALUE);
    }

    private static void filesEachInNewSessions() {
        edge.sentence("33: each in a session of its own");
        edge.answers("", "filesEach(40)", 5);
        edge.answers("", "filesEach(17)", 10);
        edge.answers("", "filesEach(16)", 10);
        edge.answers("", "filesEach(13)", 12);
        for (int size = 1; size <= 40; size++) {
            edge.answers(Edge.closedWithRoom(7 + size), "filesEach(" + size + ")", 1);
            edge.answers(Edge.closedWithRoom(7 + size - 1), "filesEach(" + size + ")", 0);
            edge.answers(Edge.closedWithRoom(14 + 2 * size), "filesEach(" + size + ")", 2);
            edge.answers(Edge.closedWithRoom(14 + 2 * size - 1), "filesEach(" + size + ")", 1);
        }
    }

    private static void filesEachInTheOpenSession() {
        edge.sentence("33: if a session is open, the first one in this session");
        edge.answers("begin(0)", "filesEach(40)", 5);
        edge.answers("begin(0) write(0, 5)", "filesEach(40)", 5);
        edge.answers("begin(0) write(0, 6)", "filesEach(40)", 4);
        for (int size = 1; size <= 40; size++) {
            edge.answers(Edge.openWithRoom(size), "filesEach(" + size + ")", 1);
            edge.answers(Edge.openWithRoom(size - 1), "filesEach(" + size + ")", 0);
            edge.answers(Edge.openWithRoom(7 + 2 * size), "filesEach(" + size + ")", 2);
            edge.answers(Edge.openWithRoom(7 + 2 * size - 1), "filesEach(" + size + ")", 1);
        }
    }

    private static void filesEachThatEjectingWouldLetFit() {
        edge.sentence("33: the first one in this session, even where an ejected disc would have room for one");
        String before = "set(1, 9) begin(0)" + Edge.fill(188) + LEAST;
        edge.answers(before, "largest()", 39);
        edge.answers(before, "filesEach(39)", 1);
        edge.answers(before, "filesEach(40)", 0);
        edge.answers(before, "filesLeft(40)", 0);
        edge.answers(before + "eject()", "filesEach(40)", 1);
    }

    private static void filesEachWithTheSettingsOfNow() {
        edge.sentence("33: with the settings of now for new sessions");
        edge.answers(LEAST, "filesEach(40)", 5);
        edge.answers(LEAST, "filesEach(17)", 12);
        edge.answers(LEAST, "filesEach(18)", 11);
        edge.answers(GREATEST, "filesEach(40)", 4);
        edge.answers(GREATEST, "filesEach(1)", 12);
        edge.answers(GREATEST, "filesEach(2)", 12);
        edge.answers(GREATEST, "filesEach(3)", 11);
        edge.answers(Edge.openWithRoom(1 + 19) + GREATEST, "filesEach(1)", 2);
        edge.answers(Edge.openWithRoom(1 + 18) + GREATEST, "filesEach(1)", 1);
        edge.answers(Edge.openWithRoom(1 + 4) + LEAST, "filesEach(1)", 2);
        edge.answers(Edge.openWithRoom(1 + 3) + LEAST, "filesEach(1)", 1);
        edge.answers(Edge.closedWithRoom(19) + GREATEST, "filesEach(1)", 1);
        edge.answers(Edge.closedWithRoom(18) + GREATEST, "filesEach(1)", 0);
    }

    private static void filesEachWithFewSessions() {
        edge.sentence("33: at most as many sessions as are left");
        for (int sessions = 0; sessions <= 12; sessions++) {
            edge.answers("begin(0) close() ".repeat(sessions), "filesEach(1)", 12 - sessions);
            edge.answers("begin(0) eject() ".repeat(sessions), "filesEach(1)", 12 - sessions);
        }
        for (int sessions = 0; sessions <= 11; sessions++) {
            edge.answers("begin(0) close() ".repeat(sessions) + "begin(0)", "filesEach(1)", 12 - sessions);
        }
        edge.answers("begin(0) close() ".repeat(11) + "begin(0)" + Edge.fill(156), "filesEach(1)", 0);
        edge.answers("begin(0) close() ".repeat(11) + "begin(0)" + Edge.fill(155), "filesEach(1)", 1);
    }

    private static void filesEachOfNothing() {
        edge.sentence("33: no room is left");
        edge.answers(Edge.closedWithRoom(0), "filesEach(1)", 0);
        edge.answers(Edge.closedWithRoom(6), "filesEach(1)", 0);
        edge.answers(Edge.closedWithRoom(7), "filesEach(1)", 0);
        edge.answers(Edge.openWithRoom(0), "filesEach(1)", 0);
    }

    // ---- 34: validIf

    private static void validIfSectors() {
        edge.sentence("34: NO_SUCH if there is no such sector");
        edge.takesOnly("", "validIf(%d)", 0, 239, NO_SUCH);
        edge.takesOnly("begin(0) close()", "validIf(%d)", 0, 239, NO_SUCH);
    }

    private static void validIfAnswers() {
        edge.sentence("34: Returns the number of the session");
        String two = "begin(0) write(1, 1) close() begin(0) write(2, 1) close() ";
        for (int sector = 0; sector <= 239; sector++) {
            boolean isLeadIn = sector >= 8 && sector <= 11;
            edge.answers(two, "validIf(" + sector + ")", isLeadIn ? 0 : 1);
            edge.answers(two + "begin(0)", "validIf(" + sector + ")", isLeadIn ? 0 : 1);
            edge.answers(two + "damage(2)", "validIf(" + sector + ")", isLeadIn ? NONE : 1);
            edge.answers(two + "damage(8)", "validIf(" + sector + ")", sector <= 3 ? NONE : 0);
            edge.answers(two + "damage(100)", "validIf(" + sector + ")", isLeadIn ? 0 : 1);
        }
        edge.answers("begin(0) close() ".repeat(12), "validIf(0)", 11);
        edge.answers("begin(0) close() ".repeat(12), "validIf(77)", 10);
    }

    private static void validIfNone() {
        edge.sentence("34: NONE if there would be none");
        edge.answers("", "validIf(0)", NONE);
        edge.answers("begin(0)", "validIf(9)", NONE);
        edge.answers("begin(0) eject()", "validIf(9)", NONE);
        for (int sector = 0; sector <= 239; sector++) {
            edge.answers("begin(0) close()", "validIf(" + sector + ")", sector <= 3 ? NONE : 0);
            edge.answers("begin(0) close() damage(0)", "validIf(" + sector + ")", NONE);
        }
    }

    private static void validIfOfADamagedSector() {
        edge.sentence("34: a sector that is damaged already");
        edge.answers("begin(0) close() damage(0)", "validIf(0)", NONE);
        edge.answers("begin(0) close() begin(0) close() damage(7)", "validIf(7)", 0);
        edge.answers("begin(0) close() damage(9)", "validIf(9)", 0);
    }

    // ---- 35: worstSector

    private static void worstSectorWithoutFiles() {
        edge.sentence("35: of several, the lowest one: where no file is intact, sector 0");
        edge.answers("", "worstSector()", 0);
        edge.answers("damage(0)", "worstSector()", 0);
        edge.answers("begin(0) write(1, 1)", "worstSector()", 0);
        edge.answers("begin(0) write(1, 1) eject()", "worstSector()", 0);
        edge.answers("begin(0) close()", "worstSector()", 0);
        edge.answers("begin(0) close() begin(0) close()", "worstSector()", 0);
        edge.answers("begin(0) close() begin(0) write(1, 1) close() damage(11)", "worstSector()", 0);
        edge.answers("begin(0) close() begin(0) write(1, 1) close() damage(7)", "worstSector()", 0);
    }

    private static void worstSectorIsALeadIns() {
        edge.sentence("35: the sector whose damage would leave the fewest files: the lead-in of a table");
        edge.answers("begin(0) write(1, 1) close()", "worstSector()", 0);
        edge.answers("begin(0) write(1, 1) write(2, 1) close()", "worstSector()", 0);
        edge.answers("begin(0) close() begin(0) write(1, 1) write(2, 1) close()", "worstSector()", 7);
        edge.answers("begin(0) write(9, 2) close() begin(0) write(1, 1) write(2, 1) write(3, 1) close()",
            "worstSector()", 9);
        edge.answers(Edge.openWithRoom(9) + "eject() begin(0) write(1, 1) write(2, 1) close()", "worstSector()", 228);
    }

    private static void worstSectorIsAFiles() {
        edge.sentence("35: the sector whose damage would leave the fewest files: a file's sector");
        edge.answers("begin(0) write(1, 1) close() begin(1) write(2, 1) close()", "worstSector()", 4);
        edge.answers("begin(0) write(1, 1) close() begin(0) write(2, 1) write(3, 5) close() begin(1) close()",
            "worstSector()", 12);
        edge.answers("begin(0) write(1, 1) write(2, 3) close() begin(1) write(1, 2) close()", "worstSector()", 5);
        edge.answers("begin(0) write(1, 1) write(2, 1) close() begin(0) write(3, 1) write(4, 1) close()",
            "worstSector()", 13);
    }

    private static void worstSectorOfEachName() {
        edge.sentence("35: a file's sector, whatever its name is");
        for (int name = 0; name <= 19; name++) {
            int other = (name + 7) % 20;
            String before = "begin(0) write(" + name + ", 1) close() begin(1) write(" + other + ", 1) close() ";
            edge.answers(before, "worstSector()", 4);
            edge.answers(before + "damage(4)", "worstSector()", 8);
            edge.answers(before + "begin(0) keep(" + name + ", 0) close() damage(12)", "worstSector()", 4);
        }
    }

    private static void worstSectorPassesDamagedFiles() {
        edge.sentence("35: files that can be found and are intact");
        String two = "begin(0) write(1, 2) write(2, 2) close() begin(1) write(3, 1) close() ";
        edge.answers(two, "worstSector()", 4);
        edge.answers(two + "damage(5)", "worstSector()", 6);
        edge.answers(two + "damage(4)", "worstSector()", 6);
        edge.answers(two + "damage(4) damage(7)", "worstSector()", 11);
        edge.answers(two + "damage(4) damage(7) damage(15)", "worstSector()", 0);
        edge.answers(two + "damage(11)", "worstSector()", 0);
    }

    private static void worstSectorThatLeavesMore() {
        edge.sentence("35: a lead-in whose damage would leave more files than there are");
        edge.answers("begin(0) write(1, 1) write(2, 1) close() begin(0) write(3, 1) close()", "worstSector()", 13);
        edge.answers("begin(0) write(1, 1) write(2, 1) close() begin(0) close()", "worstSector()", 0);
        edge.answers("begin(0) write(1, 1) close() begin(0) write(2, 1) close()", "worstSector()", 12);
    }

    private static void worstSectorAtTheEnd() {
        edge.sentence("35: a file's sector at the end of the disc");
        String before = "begin(0)" + Edge.fill(220) + "remove(0) write(1, 1) write(2, 1) close() ";
        edge.answers(before + "set(0, 2) set(1, 1) begin(0) keep(2, 0) write(3, 1) close()", "worstSector()", 225);
        edge.answers(before + "set(0, 2) set(1, 1) begin(0) write(3, 1) close() damage(50)", "worstSector()", 231);
    }

    public static void main(String[] args) {
        largestInTheOpenSession();
        largestInANewSession();
        largestIsAtMost40();
        largestOfNothing();
        filesLeftSizes();
        filesLeftInTheOpenSession();
        filesLeftInANewSession();
        filesLeftOfNothing();
        filesEachSizes();
        filesEachInNewSessions();
        filesEachInTheOpenSession();
        filesEachThatEjectingWouldLetFit();
        filesEachWithTheSettingsOfNow();
        filesEachWithFewSessions();
        filesEachOfNothing();
        validIfSectors();
        validIfAnswers();
        validIfNone();
        validIfOfADamagedSector();
        worstSectorWithoutFiles();
        worstSectorIsALeadIns();
        worstSectorIsAFiles();
        worstSectorOfEachName();
        worstSectorPassesDamagedFiles();
        worstSectorThatLeavesMore();
        worstSectorAtTheEnd();
        edge.end();
    }
}
