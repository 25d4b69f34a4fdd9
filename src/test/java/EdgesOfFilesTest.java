/** The edges that promises 24 to 30 name, a test for each sentence or part of one. */
public final class EdgesOfFilesTest {
    private static final Edge edge = new Edge();

    private static final int NO_SUCH = -1;
    private static final int NONE = -6;

    private static final String[] QUESTIONS = {"find(%d)", "intact(%d)", "versions(%d)", "latestIntact(%d)"};

    /** Nothing can be found: no session, an open one, a broken one, one with a damaged lead-in. */
    private static final String[] NO_VALID_SESSION = {
        "", "begin(0) write(1, 2) ", "begin(0) write(1, 2) eject() ", "begin(0) write(1, 2) close() damage(3) "};

    /** Session 0 has file 0 at 4 (2) and 19 at 6 (3), session 1 file 19 at 16 (1) and the copied file 0. */
    private static final String TWO =
        "begin(0) write(0, 2) write(19, 3) close() begin(1) write(19, 1) close() ";

    private static String allNames() {
        StringBuilder calls = new StringBuilder("begin(0)");
        for (int name = 0; name <= 19; name++) {
            calls.append(" write(").append(name).append(", 2)");
        }
        return calls.append(" close() ").toString();
    }

    private static void names() {
        edge.sentence("24, 25, 27, 28: NO_SUCH if there is no such name");
        for (String question : QUESTIONS) {
            edge.takesOnly("", question, 0, 19, NO_SUCH);
            edge.takesOnly(TWO, question, 0, 19, NO_SUCH);
        }
    }

    private static void orderOfCodes() {
        edge.sentence("24, 25, 28: NO_SUCH, then NONE");
        for (String before : NO_VALID_SESSION) {
            for (String question : QUESTIONS) {
                edge.answers(before, question.formatted(20), NO_SUCH);
                edge.answers(before, question.formatted(-1), NO_SUCH);
            }
        }
    }

    // ---- 24: find

    private static void find() {
        edge.sentence("24: Returns its first sector by the table of the valid session");
        edge.answers(TWO, "find(0)", 4);
        edge.answers(TWO, "find(19)", 16);
        edge.answers(TWO + "damage(12)", "find(19)", 6);
        edge.answers(TWO + "damage(16)", "find(19)", 16);
        edge.answers(TWO + "begin(0) keep(19, 0)", "find(19)", 16);
        edge.answers(TWO + "begin(0) keep(19, 0) close()", "find(19)", 6);
        edge.answers(TWO + "begin(1) write(19, 5) eject()", "find(19)", 16);
        edge.answers(TWO + "begin(1) write(19, 5) eject() repair(2)", "find(19)", 24);
        edge.answers("set(0, 2) set(1, 1) begin(0)" + Edge.fill(236) + "write(5, 1) close()", "find(5)", 238);
    }

    private static void findNothing() {
        edge.sentence("24: NONE if it cannot be found");
        for (String before : NO_VALID_SESSION) {
            edge.answers(before, "find(1)", NONE);
        }
        edge.answers(TWO, "find(1)", NONE);
        edge.answers(TWO + "begin(0) close()", "find(0)", NONE);
        edge.answers(TWO + "begin(1) remove(0) close()", "find(0)", NONE);
    }

    // ---- 25, 26: intact, intactFiles

    private static void intact() {
        edge.sentence("25: Returns 1 if it can be found and is intact, 0 if it can be found and is not intact");
        edge.answers(TWO, "intact(0)", 1);
        edge.answers(TWO + "damage(3)", "intact(0)", 1);
        edge.answers(TWO + "damage(4)", "intact(0)", 0);
        edge.answers(TWO + "damage(5)", "intact(0)", 0);
        edge.answers(TWO + "damage(6)", "intact(0)", 1);
        edge.answers(TWO + "damage(6)", "intact(19)", 1);
        edge.answers(TWO + "damage(15)", "intact(19)", 1);
        edge.answers(TWO + "damage(16)", "intact(19)", 0);
        edge.answers(TWO + "damage(17)", "intact(19)", 1);
        edge.answers(TWO + "damage(15) damage(8)", "intact(19)", 0);
        String large = "begin(0) write(1, 1) write(2, 40) write(3, 1) close() ";
        edge.answers(large + "damage(4)", "intact(2)", 1);
        edge.answers(large + "damage(5)", "intact(2)", 0);
        edge.answers(large + "damage(44)", "intact(2)", 0);
        edge.answers(large + "damage(45)", "intact(2)", 1);
    }

    private static void intactOfNothing() {
        edge.sentence("25: NONE if it cannot be found");
        for (String before : NO_VALID_SESSION) {
            edge.answers(before, "intact(1)", NONE);
            edge.answers(before + "damage(4)", "intact(1)", NONE);
        }
        edge.answers(TWO, "intact(1)", NONE);
        edge.answers(TWO + "begin(0) close() damage(4)", "intact(0)", NONE);
    }

    private static void intactFiles() {
        edge.sentence("26: Counts the files that can be found and are intact");
        for (String before : NO_VALID_SESSION) {
            edge.answers(before, "intactFiles()", 0);
        }
        edge.answers("begin(0) close()", "intactFiles()", 0);
        edge.answers(TWO, "intactFiles()", 2);
        edge.answers(TWO + "damage(4)", "intactFiles()", 1);
        edge.answers(TWO + "damage(4) damage(5)", "intactFiles()", 1);
        edge.answers(TWO + "damage(4) damage(16)", "intactFiles()", 0);
        edge.answers(TWO + "begin(0) close()", "intactFiles()", 0);
    }

    private static void intactFilesOfAFullTable() {
        edge.sentence("26: all names, and none of them");
        edge.answers(allNames(), "intactFiles()", 20);
        StringBuilder calls = new StringBuilder(allNames());
        for (int name = 0; name <= 19; name++) {
            calls.append(" damage(").append(5 + 2 * name).append(")");
            edge.answers(calls.toString(), "intactFiles()", 19 - name);
        }
    }

    // ---- 27: versions

    private static void versions() {
        edge.sentence("27: Returns how often a file with this name was written");
        edge.answers("", "versions(0)", 0);
        edge.answers("begin(0) write(0, 1)", "versions(0)", 1);
        edge.answers("begin(0) write(0, 1)", "versions(1)", 0);
        edge.answers("begin(0) write(19, 1) write(19, 40)", "versions(19)", 2);
        edge.answers("begin(0) write(0, 1) remove(0)", "versions(0)", 1);
        edge.answers("begin(0) write(0, 1) eject()", "versions(0)", 1);
        edge.answers("begin(0) write(0, 1) close() damage(0) damage(4)", "versions(0)", 1);
        edge.answers("begin(0) write(0, 1) close() begin(1) keep(0, 0)", "versions(0)", 1);
        edge.answers("begin(0) write(0, 1) close() begin(1) write(0, 1)", "versions(0)", 2);
        edge.answers("begin(0) write(0, 1) write(0, 41)", "versions(0)", 1);
        edge.answers("begin(0) write(0, 1) undo()", "versions(0)", 0);
        edge.answers("text(b0;w0=1;w0=2) run()", "versions(0)", 2);
        edge.answers("set(0, 2) set(1, 1) begin(0) " + "write(0, 1) ".repeat(237), "versions(0)", 237);
    }

    // ---- 28: latestIntact

    private static void latestIntact() {
        edge.sentence("28: Finds the latest readable session whose entry for a name refers to an intact file");
        edge.answers(TWO, "latestIntact(0)", 1);
        edge.answers(TWO, "latestIntact(19)", 1);
        edge.answers(TWO + "damage(16)", "latestIntact(19)", 0);
        edge.answers(TWO + "damage(15)", "latestIntact(19)", 0);
        edge.answers(TWO + "damage(6)", "latestIntact(19)", 1);
        edge.answers(TWO + "begin(0) close()", "latestIntact(19)", 1);
        edge.answers(TWO + "begin(1)", "latestIntact(19)", 1);
        edge.answers(TWO + "begin(1) eject()", "latestIntact(19)", 1);
        edge.answers(TWO + "begin(1) eject() repair(2)", "latestIntact(19)", 2);
        edge.answers(TWO + "begin(1) close() damage(16)", "latestIntact(19)", 0);
        edge.answers("begin(0) write(0, 1) close() " + "begin(1) close() ".repeat(11), "latestIntact(0)", 11);
    }

    private static void latestIntactOfNothing() {
        edge.sentence("28: NONE if there is none");
        for (String before : NO_VALID_SESSION) {
            edge.answers(before, "latestIntact(1)", NONE);
        }
        edge.answers(TWO, "latestIntact(1)", NONE);
        edge.answers(TWO + "damage(5)", "latestIntact(0)", NONE);
        edge.answers(TWO + "damage(3) damage(12)", "latestIntact(0)", NONE);
        edge.answers(TWO + "damage(16) damage(8)", "latestIntact(19)", NONE);
        edge.answers(TWO + "damage(16) damage(0)", "latestIntact(19)", NONE);
    }

    // ---- 29, 30: lost, usedWell

    private static void lost() {
        edge.sentence("29: the number of used sectors that belong to no file that can be found");
        edge.answers("", "lost()", 0);
        edge.answers("damage(0)", "lost()", 0);
        edge.answers("begin(0)", "lost()", 4);
        edge.answers("begin(0) write(1, 2)", "lost()", 6);
        edge.answers("begin(0) write(1, 2) eject()", "lost()", 6);
        edge.answers("begin(0) write(1, 2) close()", "lost()", 7);
        edge.answers("begin(0) write(1, 2) close() damage(4)", "lost()", 7);
        edge.answers("begin(0) write(1, 2) close() damage(0)", "lost()", 9);
        edge.answers("begin(0) write(1, 2) write(1, 2) close()", "lost()", 9);
        edge.answers("begin(0) write(1, 2) remove(1) close()", "lost()", 9);
        edge.answers(TWO, "lost()", 20 - 3);
        edge.answers(TWO + "damage(12)", "lost()", 20 - 5);
        edge.answers(Edge.closedWithRoom(0), "lost()", 240 - 33);
        edge.answers(Edge.closedWithRoom(0) + "damage(0)", "lost()", 240);
    }

    private static void lostCountsASectorOnce() {
        edge.sentence("29: a sector counts once");
        String before = "begin(0) write(1, 2) close() ";
        edge.answers(before + "begin(1) close()", "lost()", 14);
        edge.answers(before + "begin(1) keep(1, 0) close()", "lost()", 14);
        edge.answers(before + "begin(1) close() begin(1) close()", "lost()", 21);
        edge.answers(before + "begin(1) close() begin(0) close()", "lost()", 23);
    }

    private static void usedWell() {
        edge.sentence("30: used sectors that belong to files that can be found, divided by the used sectors");
        edge.answers("begin(0) write(1, 2) close()", "usedWell()", 2.0f / 9.0f);
        edge.answers("begin(0) write(1, 2) close() damage(4)", "usedWell()", 2.0f / 9.0f);
        edge.answers("begin(0) write(1, 2) close() begin(1) write(2, 1)", "usedWell()", 2.0f / 14.0f);
        edge.answers(TWO, "usedWell()", 3.0f / 20.0f);
        edge.answers(Edge.closedWithRoom(0), "usedWell()", 33.0f / 240.0f);
        String most = "set(0, 2) set(1, 1) begin(0) write(1, 40) write(2, 40) write(3, 40) write(4, 40) "
            + "write(5, 40) write(6, 37) close() ";
        edge.answers(most, "usedWell()", 237.0f / 240.0f);
        edge.answers(most, "next()", 240);
    }

    private static void usedWellOfNothingFound() {
        edge.sentence("30: no used sector belongs to a file that can be found");
        edge.answers("begin(0)", "usedWell()", 0.0f);
        edge.answers("begin(0) write(1, 2)", "usedWell()", 0.0f);
        edge.answers("begin(0) write(1, 2) eject()", "usedWell()", 0.0f);
        edge.answers("begin(0) write(1, 2) close() damage(0)", "usedWell()", 0.0f);
        edge.answers("begin(0) close()", "usedWell()", 0.0f);
    }

    private static void usedWellOfAnEmptyDisc() {
        edge.sentence("30: 1.0f if no sector is used");
        edge.answers("", "usedWell()", 1.0f);
        edge.answers("damage(0) set(0, 9)", "usedWell()", 1.0f);
        edge.answers("begin(0) undo()", "usedWell()", 1.0f);
    }

    public static void main(String[] args) {
        names();
        orderOfCodes();
        find();
        findNothing();
        intact();
        intactOfNothing();
        intactFiles();
        intactFilesOfAFullTable();
        versions();
        latestIntact();
        latestIntactOfNothing();
        lost();
        lostCountsASectorOnce();
        usedWell();
        usedWellOfNothingFound();
        usedWellOfAnEmptyDisc();
        edge.end();
    }
}
