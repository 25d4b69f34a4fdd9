/** The edges that promises 1 to 10 name, a test for each sentence or part of one. */
public final class EdgesOfActionsTest {
    private static final Edge edge = new Edge();

    private static final int NO_SUCH = -1;
    private static final int BAD_VALUE = -2;
    private static final int BAD_TEXT = -3;
    private static final int TOO_MANY = -4;
    private static final int NOT_POSSIBLE = -5;
    private static final int NONE = -6;

    private static final int CLOSED = 1;
    private static final int BROKEN = 2;

    /** No session is open: there is none, one is closed, one is broken. */
    private static final String[] NOTHING_OPEN = {
        "", "begin(0) write(1, 2) close() ", "begin(0) write(1, 2) eject() "};

    /** An open session whose table has all names. */
    private static String fullTable() {
        StringBuilder calls = new StringBuilder("begin(0)");
        for (int name = 0; name <= 19; name++) {
            calls.append(" write(").append(name).append(", 1)");
        }
        return calls.append(' ').toString();
    }

    // ---- 1: a new object

    private static void newObjectHasNoSessions() {
        edge.sentence("1: Creates a disc without sessions");
        edge.answers("", "sessions()", 0);
        edge.answers("", "next()", 0);
        edge.answers("", "valid()", NONE);
        edge.answers("", "session(0, 0)", NO_SUCH);
    }

    private static void newObjectHasAnEmptyText() {
        edge.sentence("1: with an empty text");
        edge.answers("", "clearText()", 0);
        edge.answers("", "fault()", 0);
        edge.answers("", "append(32)", 1);
        edge.answers("", "run()", BAD_TEXT);
    }

    private static void newObjectHasAnEmptyHistory() {
        edge.sentence("1: with an empty history");
        edge.holds("", 0);
    }

    private static void newObjectHasNothingOfOthers() {
        edge.sentence("1: another object changes nothing in a new one");
        new Player().play("set(0, 9) text(b0) damage(3) begin(0) write(1, 1) close()");
        newObjectHasNoSessions();
        newObjectHasAnEmptyText();
        newObjectHasAnEmptyHistory();
        edge.answers("", "setting(0)", 4);
        edge.answers("", "damaged(3)", 0);
        edge.answers("", "versions(1)", 0);
    }

    // ---- 2: begin

    private static void beginModes() {
        edge.sentence("2: BAD_VALUE if mode is neither 0 nor 1");
        edge.takesOnly("", "begin(%d)", 0, 1, BAD_VALUE);
    }

    private static void beginWithAnEmptyTable() {
        edge.sentence("2: mode 0: its table is empty");
        edge.answers("begin(0)", "session(0, 5)", 0);
        edge.answers(fullTable() + "close() begin(0)", "session(1, 5)", 0);
        edge.answers(fullTable() + "close() begin(0)", "entry(1, 19, 0)", NONE);
    }

    private static void beginWithACopy() {
        edge.sentence("2: mode 1: its table is a copy of the table of the valid session");
        String before = fullTable() + "close() begin(1) ";
        edge.answers(before, "session(1, 5)", 20);
        for (int name = 0; name <= 19; name++) {
            edge.answers(before, "entry(1, " + name + ", 0)", 4 + name);
            edge.answers(before, "entry(1, " + name + ", 2)", 0);
        }
        edge.answers(before + "write(0, 2)", "entry(0, 0, 0)", 4);
        edge.answers(before + "remove(19)", "entry(0, 19, 0)", 23);
        edge.answers(before, "session(1, 7)", 0);
    }

    private static void beginCopiesTheValidTable() {
        edge.sentence("2: the valid session's table, not the last one's");
        String before = "begin(0) write(1, 1) close() begin(0) write(2, 1) write(3, 1) ";
        edge.answers(before + "close() begin(1)", "session(2, 5)", 2);
        edge.answers(before + "close() begin(1)", "entry(2, 1, 0)", NONE);
        edge.answers(before + "eject() begin(1)", "session(2, 5)", 1);
        edge.answers(before + "eject() begin(1)", "entry(2, 1, 0)", 4);
        edge.answers(before + "close() damage(11) begin(1)", "entry(2, 1, 0)", 4);
        edge.answers(before + "close() damage(11) begin(1)", "entry(2, 2, 0)", NONE);
    }

    private static void beginCopiesNothing() {
        edge.sentence("2: mode 1: empty if there is none");
        edge.answers("begin(1)", "session(0, 5)", 0);
        edge.answers("begin(0) write(1, 1) eject() begin(1)", "session(1, 5)", 0);
        edge.answers("begin(0) write(1, 1) close() damage(0) begin(1)", "session(1, 5)", 0);
        edge.answers("begin(0) close() begin(1)", "session(1, 5)", 0);
    }

    private static void beginAnswersTheNumber() {
        edge.sentence("2: Returns the number of the session");
        for (int number = 0; number <= 11; number++) {
            edge.answers("begin(0) close() ".repeat(number), "begin(1)", number);
            edge.answers("begin(0) eject() ".repeat(number), "begin(0)", number);
        }
    }

    private static void beginWhileOpen() {
        edge.sentence("2: NOT_POSSIBLE if a session is open");
        edge.refuses("begin(0)", "begin(0)", NOT_POSSIBLE);
        edge.refuses("begin(0) write(1, 1)", "begin(1)", NOT_POSSIBLE);
        edge.refuses("begin(0) close() begin(0)", "begin(0)", NOT_POSSIBLE);
    }

    private static void beginOfTooManySessions() {
        edge.sentence("2: TOO_MANY if there are 12 sessions");
        edge.answers("begin(0) eject() ".repeat(11), "begin(0)", 11);
        edge.refuses("begin(0) close() ".repeat(12), "begin(0)", TOO_MANY);
        edge.refuses("begin(0) close() ".repeat(12), "begin(1)", TOO_MANY);
        edge.refuses("begin(0) eject() ".repeat(12), "begin(0)", TOO_MANY);
    }

    private static void beginWithoutRoom() {
        edge.sentence("2: TOO_MANY if the lead-in and the lead-out of the new session do not fit");
        edge.answers(Edge.closedWithRoom(7), "begin(0)", 1);
        edge.refuses(Edge.closedWithRoom(6), "begin(0)", TOO_MANY);
        edge.refuses(Edge.closedWithRoom(6), "begin(1)", TOO_MANY);
        edge.answers(Edge.closedWithRoom(3) + "set(0, 2) set(1, 1)", "begin(0)", 1);
        edge.refuses(Edge.closedWithRoom(2) + "set(0, 2) set(1, 1)", "begin(0)", TOO_MANY);
        edge.answers(Edge.closedWithRoom(18) + "set(0, 9) set(1, 9)", "begin(0)", 1);
        edge.refuses(Edge.closedWithRoom(17) + "set(0, 9) set(1, 9)", "begin(0)", TOO_MANY);
        edge.refuses(Edge.closedWithRoom(0) + "set(0, 2) set(1, 1)", "begin(0)", TOO_MANY);
    }

    private static void beginAtTheEnd() {
        edge.sentence("2: a session that just fits");
        edge.answers(Edge.closedWithRoom(7) + "begin(0)", "close()", 240);
        edge.answers(Edge.closedWithRoom(7) + "begin(0) close()", "valid()", 1);
        edge.answers(Edge.closedWithRoom(7) + "begin(0) close()", "use(239)", 2);
        edge.refuses(Edge.closedWithRoom(7) + "begin(0)", "write(1, 1)", TOO_MANY);
    }

    private static void beginOrderOfCodes() {
        edge.sentence("2: BAD_VALUE, then NOT_POSSIBLE, then TOO_MANY");
        edge.refuses("begin(0)", "begin(2)", BAD_VALUE);
        edge.refuses("begin(0) close() ".repeat(12), "begin(2)", BAD_VALUE);
        edge.refuses(Edge.closedWithRoom(6), "begin(-1)", BAD_VALUE);
        edge.refuses("begin(0) close() ".repeat(11) + "begin(0)", "begin(0)", NOT_POSSIBLE);
        edge.refuses(Edge.openWithRoom(0), "begin(0)", NOT_POSSIBLE);
    }

    // ---- 3: write

    private static void writeNames() {
        edge.sentence("3: NO_SUCH if there is no such name");
        edge.takesOnly("begin(0)", "write(%d, 1)", 0, 19, NO_SUCH);
        edge.takesOnly(fullTable(), "write(%d, 1)", 0, 19, NO_SUCH);
    }

    private static void writeSizes() {
        edge.sentence("3: BAD_VALUE if size is out of range");
        edge.takesOnly("begin(0)", "write(0, %d)", 1, 40, BAD_VALUE);
        edge.answers("begin(0) write(0, 1)", "entry(0, 0, 1)", 1);
        edge.answers("begin(0) write(0, 40)", "entry(0, 0, 1)", 40);
    }

    private static void writeWithoutAnOpenSession() {
        edge.sentence("3: NOT_POSSIBLE if no session is open");
        for (String before : NOTHING_OPEN) {
            edge.refuses(before, "write(1, 1)", NOT_POSSIBLE);
        }
    }

    private static void writeWithoutRoom() {
        edge.sentence("3: TOO_MANY if the file and, behind it, the lead-out do not fit");
        edge.answers(Edge.openWithRoom(40), "write(1, 40)", 197);
        edge.refuses(Edge.openWithRoom(39), "write(1, 40)", TOO_MANY);
        edge.answers(Edge.openWithRoom(39), "write(1, 39)", 198);
        edge.answers(Edge.openWithRoom(1), "write(1, 1)", 236);
        edge.refuses(Edge.openWithRoom(1), "write(1, 2)", TOO_MANY);
        edge.refuses(Edge.openWithRoom(0), "write(1, 1)", TOO_MANY);
        edge.answers(Edge.openWithRoom(1) + "write(1, 1)", "close()", 240);
    }

    private static void writeKeepsRoomForItsLeadOut() {
        edge.sentence("3: the lead-out of the session, not of the settings of now");
        edge.answers(Edge.openWithRoom(1) + "set(1, 9)", "write(1, 1)", 236);
        edge.refuses(Edge.openWithRoom(1) + "set(1, 1)", "write(1, 2)", TOO_MANY);
        String least = "set(1, 1) begin(0)" + Edge.fill(234);
        edge.refuses(least, "write(1, 2)", TOO_MANY);
        edge.answers(least, "write(1, 1)", 238);
        String greatest = "set(1, 9) begin(0)" + Edge.fill(226);
        edge.refuses(greatest, "write(1, 2)", TOO_MANY);
        edge.answers(greatest, "write(1, 1)", 230);
    }

    private static void writeIntoAFullTable() {
        edge.sentence("3: a table with all names");
        edge.answers(fullTable(), "session(0, 5)", 20);
        edge.answers(fullTable() + "write(19, 2)", "session(0, 5)", 20);
        edge.answers(fullTable() + "write(19, 2)", "entry(0, 19, 0)", 24);
        edge.answers(fullTable() + "write(19, 2)", "session(0, 7)", 21);
    }

    private static void writeOrderOfCodes() {
        edge.sentence("3: NO_SUCH, then BAD_VALUE, then NOT_POSSIBLE, then TOO_MANY");
        edge.refuses("begin(0)", "write(20, 0)", NO_SUCH);
        edge.refuses("", "write(-1, 41)", NO_SUCH);
        edge.refuses("", "write(20, 1)", NO_SUCH);
        edge.refuses(Edge.openWithRoom(0), "write(20, 1)", NO_SUCH);
        edge.refuses("", "write(0, 0)", BAD_VALUE);
        edge.refuses(Edge.openWithRoom(0), "write(0, 41)", BAD_VALUE);
        edge.refuses(Edge.closedWithRoom(0), "write(0, 1)", NOT_POSSIBLE);
        edge.refuses("begin(0)" + Edge.fill(233) + "eject()", "write(0, 40)", NOT_POSSIBLE);
    }

    // ---- 4: remove

    private static void removeNames() {
        edge.sentence("4: NO_SUCH if there is no such name");
        edge.takesOnly(fullTable(), "remove(%d)", 0, 19, NO_SUCH);
        edge.refuses("", "remove(20)", NO_SUCH);
        edge.refuses("begin(0)", "remove(-1)", NO_SUCH);
    }

    private static void removeAnswersWhatIsLeft() {
        edge.sentence("4: Returns the number of entries that are left in this table");
        edge.answers(fullTable(), "remove(0)", 19);
        edge.answers(fullTable() + "remove(0)", "remove(19)", 18);
        edge.answers("begin(0) write(5, 1)", "remove(5)", 0);
        edge.answers("begin(0) write(5, 1) write(5, 1)", "remove(5)", 0);
        edge.answers("begin(0) write(5, 1) remove(5)", "entry(0, 5, 0)", NONE);
        edge.answers("begin(0) write(5, 1) close() begin(1)", "remove(5)", 0);
        edge.answers("begin(0) write(5, 1) close() begin(1) remove(5)", "session(0, 5)", 1);
    }

    private static void removeWithoutAnOpenSession() {
        edge.sentence("4: NOT_POSSIBLE if no session is open");
        for (String before : NOTHING_OPEN) {
            edge.refuses(before, "remove(1)", NOT_POSSIBLE);
        }
    }

    private static void removeWithoutAnEntry() {
        edge.sentence("4: NOT_POSSIBLE if its table has no entry for this name");
        edge.refuses("begin(0)", "remove(0)", NOT_POSSIBLE);
        edge.refuses("begin(0) write(0, 1)", "remove(1)", NOT_POSSIBLE);
        edge.refuses("begin(0) write(0, 1) remove(0)", "remove(0)", NOT_POSSIBLE);
        edge.refuses("begin(0) write(0, 1) close() begin(0)", "remove(0)", NOT_POSSIBLE);
    }

    // ---- 5: keep

    private static void keepNames() {
        edge.sentence("5: NO_SUCH if there is no such name");
        edge.takesOnly(fullTable() + "close() begin(0)", "keep(%d, 0)", 0, 19, NO_SUCH);
        edge.refuses("begin(0) close()", "keep(20, 0)", NO_SUCH);
    }

    private static void keepSessions() {
        edge.sentence("5: NO_SUCH if there is no such session");
        edge.refuses("", "keep(0, 0)", NO_SUCH);
        String two = "begin(0) write(1, 1) close() begin(1) ";
        edge.answers(two, "keep(1, 0)", 4);
        edge.refuses(two, "keep(1, -1)", NO_SUCH);
        edge.refuses(two, "keep(1, 2)", NO_SUCH);
        edge.refuses(two, "keep(1, 256)", NO_SUCH);
        edge.refuses(two, "keep(1, -2147483648)", NO_SUCH);
        edge.refuses(two, "keep(1, 2147483647)", NO_SUCH);
        String eleven = "begin(0) write(1, 1) close() " + "begin(1) close() ".repeat(10);
        edge.answers(eleven + "begin(0)", "keep(1, 10)", 4);
        edge.refuses(eleven + "begin(0)", "keep(1, 11)", NOT_POSSIBLE);
        edge.refuses(eleven + "begin(0)", "keep(1, 12)", NO_SUCH);
        edge.refuses(eleven, "keep(1, 11)", NO_SUCH);
    }

    private static void keepPutsTheEntry() {
        edge.sentence("5: Puts the entry that another session has into the table of the open session");
        String before = "begin(0) write(0, 2) write(19, 3) close() begin(0) ";
        edge.answers(before, "keep(0, 0)", 4);
        edge.answers(before, "keep(19, 0)", 6);
        edge.answers(before + "keep(19, 0)", "session(1, 5)", 1);
        edge.answers(before + "keep(19, 0)", "entry(1, 19, 1)", 3);
        edge.answers(before + "keep(19, 0)", "entry(1, 19, 2)", 0);
        edge.answers(before + "keep(19, 0)", "session(1, 7)", 0);
        edge.answers(before + "keep(19, 0)", "next()", 16);
        edge.answers(before + "keep(19, 0)", "session(0, 5)", 2);
        edge.answers(before + "keep(0, 0) close() begin(0)", "keep(0, 1)", 4);
        edge.answers(before + "keep(0, 0) close() begin(0) keep(0, 1)", "entry(2, 0, 2)", 0);
    }

    private static void keepReplacesAnEntry() {
        edge.sentence("5: an entry that the table has for this name is replaced");
        String before = "begin(0) write(1, 2) close() begin(0) write(1, 3) ";
        edge.answers(before + "keep(1, 0)", "entry(1, 1, 0)", 4);
        edge.answers(before + "keep(1, 0)", "session(1, 5)", 1);
        edge.answers(before + "keep(1, 0) remove(1)", "session(1, 5)", 0);
        edge.answers(before + "keep(1, 0)", "keep(1, 0)", 4);
        edge.answers(fullTable() + "close() begin(1) keep(19, 0)", "session(1, 5)", 20);
        edge.answers(fullTable() + "close() begin(1) write(19, 2) keep(19, 0)", "entry(1, 19, 0)", 23);
    }

    private static void keepTakesNoRoom() {
        edge.sentence("5: an entry is only a reference, so a disc without room takes it too");
        String before = Edge.closedWithRoom(7) + "begin(0) ";
        edge.answers(before, "keep(0, 0)", 204);
        edge.answers(before + "keep(0, 0)", "next()", 237);
        edge.answers(before + "keep(0, 0)", "remove(0)", 0);
        edge.answers(before + "keep(0, 0)", "close()", 240);
        edge.answers(before + "keep(0, 0) close()", "find(0)", 204);
    }

    private static void keepWithoutAnOpenSession() {
        edge.sentence("5: NOT_POSSIBLE if no session is open");
        edge.refuses("begin(0) write(1, 2) close()", "keep(1, 0)", NOT_POSSIBLE);
        edge.refuses("begin(0) write(1, 2) close() begin(0) eject()", "keep(1, 0)", NOT_POSSIBLE);
    }

    private static void keepFromAnUnreadableSession() {
        edge.sentence("5: NOT_POSSIBLE if the other session is not readable");
        edge.refuses("begin(0) write(1, 2)", "keep(1, 0)", NOT_POSSIBLE);
        edge.refuses("begin(0) write(1, 2) eject() begin(0)", "keep(1, 0)", NOT_POSSIBLE);
        edge.refuses("begin(0) write(1, 2) close() damage(0) begin(0)", "keep(1, 0)", NOT_POSSIBLE);
        edge.refuses("begin(0) write(1, 2) close() begin(0) damage(3)", "keep(1, 0)", NOT_POSSIBLE);
        edge.answers("begin(0) write(1, 2) close() begin(0) damage(4) damage(8)", "keep(1, 0)", 4);
    }

    private static void keepWithoutAnEntry() {
        edge.sentence("5: NOT_POSSIBLE if its table has no entry for this name");
        edge.refuses("begin(0) close() begin(0)", "keep(1, 0)", NOT_POSSIBLE);
        edge.refuses("begin(0) write(1, 2) close() begin(0)", "keep(2, 0)", NOT_POSSIBLE);
        edge.refuses("begin(0) write(1, 2) remove(1) close() begin(0)", "keep(1, 0)", NOT_POSSIBLE);
        edge.refuses("begin(0) close() begin(0) write(1, 2)", "keep(1, 0)", NOT_POSSIBLE);
    }

    private static void keepOrderOfCodes() {
        edge.sentence("5: NO_SUCH, then NOT_POSSIBLE");
        edge.refuses("", "keep(20, 0)", NO_SUCH);
        edge.refuses("", "keep(0, -1)", NO_SUCH);
        edge.refuses("begin(0) eject()", "keep(0, 1)", NO_SUCH);
        edge.refuses("begin(0) eject()", "keep(20, 0)", NO_SUCH);
    }

    // ---- 6 and 7: close, eject

    private static void closeAnswersTheNextSector() {
        edge.sentence("6: Returns the next sector afterwards");
        edge.answers("set(0, 2) set(1, 1) begin(0)", "close()", 3);
        edge.answers("set(0, 9) set(1, 9) begin(0)", "close()", 18);
        edge.answers(Edge.openWithRoom(0), "close()", 240);
        edge.answers("begin(0) write(1, 1) close()", "session(0, 0)", CLOSED);
    }

    private static void closeWithoutAnOpenSession() {
        edge.sentence("6: NOT_POSSIBLE if no session is open");
        for (String before : NOTHING_OPEN) {
            edge.refuses(before, "close()", NOT_POSSIBLE);
        }
        edge.refuses(Edge.closedWithRoom(0), "close()", NOT_POSSIBLE);
    }

    private static void ejectOfAnOpenSession() {
        edge.sentence("7: Returns 1 if a session was open, which is broken now");
        edge.answers("begin(0)", "eject()", 1);
        edge.answers("begin(0) eject()", "session(0, 0)", BROKEN);
        edge.answers("begin(0) close() begin(0) eject()", "session(0, 0)", CLOSED);
        edge.answers("begin(0) close() begin(0) eject()", "session(1, 0)", BROKEN);
    }

    private static void ejectOfNothingOpen() {
        edge.sentence("7: otherwise 0");
        for (String before : NOTHING_OPEN) {
            edge.answers(before, "eject()", 0);
            edge.sameState(before, before + "eject()");
        }
        edge.answers(Edge.closedWithRoom(0), "eject()", 0);
        edge.answers("begin(0) close() ".repeat(12), "eject()", 0);
    }

    // ---- 8: repair

    private static void repairSessions() {
        edge.sentence("8: NO_SUCH if there is no such session");
        edge.refuses("", "repair(0)", NO_SUCH);
        edge.takesOnly("begin(0) eject()", "repair(%d)", 0, 0, NO_SUCH);
        edge.answers("begin(0) eject() ".repeat(12), "repair(11)", 51);
        edge.refuses("begin(0) eject() ".repeat(12), "repair(12)", NO_SUCH);
    }

    private static void repairClosesTheSession() {
        edge.sentence("8: its lead-out takes the next sectors, and it is closed");
        edge.answers("begin(0) write(1, 2) eject()", "repair(0)", 9);
        edge.answers("begin(0) write(1, 2) eject() repair(0)", "session(0, 0)", CLOSED);
        edge.answers("begin(0) write(1, 2) eject() repair(0)", "session(0, 2)", 9);
        edge.answers("begin(0) write(1, 2) eject() repair(0)", "use(6)", 2);
        edge.answers("begin(0) write(1, 2) eject() repair(0)", "use(9)", 0);
        edge.answers("begin(0) write(1, 2) eject() repair(0)", "find(1)", 4);
        edge.answers("set(1, 1) begin(0) eject()", "repair(0)", 5);
        edge.answers("set(1, 9) begin(0) eject()", "repair(0)", 13);
        edge.answers(Edge.openWithRoom(0) + "eject() set(1, 9)", "repair(0)", 240);
    }

    private static void repairOfOthers() {
        edge.sentence("8: NOT_POSSIBLE if it is not broken");
        edge.refuses("begin(0)", "repair(0)", NOT_POSSIBLE);
        edge.refuses("begin(0) close()", "repair(0)", NOT_POSSIBLE);
        edge.refuses("begin(0) eject() repair(0)", "repair(0)", NOT_POSSIBLE);
    }

    private static void repairOfEarlierOnes() {
        edge.sentence("8: NOT_POSSIBLE if it is not the last session");
        edge.refuses("begin(0) eject() begin(0)", "repair(0)", NOT_POSSIBLE);
        edge.refuses("begin(0) eject() begin(0) close()", "repair(0)", NOT_POSSIBLE);
        edge.refuses("begin(0) eject() begin(0) eject()", "repair(0)", NOT_POSSIBLE);
        edge.answers("begin(0) eject() begin(0) eject()", "repair(1)", 11);
    }

    private static void repairOfADamagedLeadIn() {
        edge.sentence("8: NOT_POSSIBLE if a sector of its lead-in is damaged");
        String before = "begin(0) close() begin(0) write(1, 1) eject() ";
        for (int sector = 7; sector <= 10; sector++) {
            edge.refuses(before + "damage(" + sector + ")", "repair(1)", NOT_POSSIBLE);
        }
        edge.answers(before + "damage(6) damage(11) damage(12)", "repair(1)", 15);
        edge.refuses("damage(1) set(0, 2) begin(0) eject()", "repair(0)", NOT_POSSIBLE);
        edge.answers("damage(2) set(0, 2) begin(0) eject()", "repair(0)", 5);
        edge.refuses("damage(8) set(0, 9) begin(0) eject()", "repair(0)", NOT_POSSIBLE);
        edge.answers("damage(9) set(0, 9) begin(0) eject()", "repair(0)", 12);
    }

    // ---- 9: damage

    private static void damageSectors() {
        edge.sentence("9: NO_SUCH if there is no such sector");
        edge.takesOnly("", "damage(%d)", 0, 239, NO_SUCH);
        edge.refuses(Edge.closedWithRoom(0), "damage(240)", NO_SUCH);
    }

    private static void damageOfAllSectors() {
        edge.sentence("9: Returns the number of damaged sectors afterwards");
        Player player = new Player();
        for (int sector = 0; sector < 240; sector++) {
            double answer = player.play("damage(" + (239 - sector) + ")");
            edge.same("damage of sector " + (239 - sector), answer, sector + 1);
        }
        edge.same("damage(0) once more", player.play("damage(0)"), 240);
        edge.same("damage(239) once more", player.play("damage(239)"), 240);
    }

    private static void damageAgain() {
        edge.sentence("9: a sector that is damaged already");
        edge.answers("damage(7)", "damage(7)", 1);
        edge.answers("damage(7) damage(8)", "damage(7)", 2);
        edge.sameState("damage(7)", "damage(7) damage(7)");
    }

    private static void damageOfUnusedSectors() {
        edge.sentence("9: whether it is used or not");
        edge.answers("", "damage(0)", 1);
        edge.answers("damage(239)", "damaged(239)", 1);
        edge.answers("begin(0)", "damage(0)", 1);
        edge.answers("begin(0)", "damage(4)", 1);
        edge.answers("damage(2) begin(0) close()", "valid()", NONE);
        edge.answers("damage(5) begin(0) write(1, 2) close()", "intact(1)", 0);
    }

    // ---- 10: set

    private static void setSettings() {
        edge.sentence("10: NO_SUCH if there is no such setting");
        edge.takesOnly("", "set(%d, 5)", 0, 1, NO_SUCH);
    }

    private static void setValues() {
        edge.sentence("10: BAD_VALUE if value is out of the range of the setting");
        edge.takesOnly("", "set(0, %d)", 2, 9, BAD_VALUE);
        edge.takesOnly("", "set(1, %d)", 1, 9, BAD_VALUE);
        edge.refuses("set(0, 9) set(1, 9)", "set(0, 1)", BAD_VALUE);
        edge.refuses("set(0, 9) set(1, 9)", "set(1, 0)", BAD_VALUE);
    }

    private static void setAnswersThePreviousValue() {
        edge.sentence("10: Returns the previous value");
        edge.answers("", "set(0, 2)", 4);
        edge.answers("", "set(1, 1)", 3);
        edge.answers("set(0, 2)", "set(0, 9)", 2);
        edge.answers("set(0, 9)", "set(0, 9)", 9);
        edge.answers("set(1, 9)", "set(0, 2)", 4);
        edge.answers("set(0, 9)", "set(1, 1)", 3);
    }

    private static void setForLaterSessions() {
        edge.sentence("10: for the sessions that are begun from now on");
        edge.answers("begin(0) set(0, 9) set(1, 9)", "session(0, 3)", 4);
        edge.answers("begin(0) set(0, 9) set(1, 9)", "session(0, 4)", 3);
        edge.answers("begin(0) set(0, 9) set(1, 9) close() begin(0)", "session(1, 3)", 9);
        edge.answers("begin(0) set(0, 9) set(1, 9) close() begin(0)", "session(1, 4)", 9);
    }

    private static void setOrderOfCodes() {
        edge.sentence("10: NO_SUCH, then BAD_VALUE");
        edge.refuses("", "set(2, 0)", NO_SUCH);
        edge.refuses("", "set(-1, 10)", NO_SUCH);
    }

    public static void main(String[] args) {
        newObjectHasNoSessions();
        newObjectHasAnEmptyText();
        newObjectHasAnEmptyHistory();
        newObjectHasNothingOfOthers();
        beginModes();
        beginWithAnEmptyTable();
        beginWithACopy();
        beginCopiesTheValidTable();
        beginCopiesNothing();
        beginAnswersTheNumber();
        beginWhileOpen();
        beginOfTooManySessions();
        beginWithoutRoom();
        beginAtTheEnd();
        beginOrderOfCodes();
        writeNames();
        writeSizes();
        writeWithoutAnOpenSession();
        writeWithoutRoom();
        writeKeepsRoomForItsLeadOut();
        writeIntoAFullTable();
        writeOrderOfCodes();
        removeNames();
        removeAnswersWhatIsLeft();
        removeWithoutAnOpenSession();
        removeWithoutAnEntry();
        keepNames();
        keepSessions();
        keepPutsTheEntry();
        keepReplacesAnEntry();
        keepTakesNoRoom();
        keepWithoutAnOpenSession();
        keepFromAnUnreadableSession();
        keepWithoutAnEntry();
        keepOrderOfCodes();
        closeAnswersTheNextSector();
        closeWithoutAnOpenSession();
        ejectOfAnOpenSession();
        ejectOfNothingOpen();
        repairSessions();
        repairClosesTheSession();
        repairOfOthers();
        repairOfEarlierOnes();
        repairOfADamagedLeadIn();
        damageSectors();
        damageOfAllSectors();
        damageAgain();
        damageOfUnusedSectors();
        setSettings();
        setValues();
        setAnswersThePreviousValue();
        setForLaterSessions();
        setOrderOfCodes();
        edge.end();
    }
}
