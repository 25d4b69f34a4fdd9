/** The edges that the document names of the history, undo (promise 15) and the calls of an object. */
public final class EdgesOfHistoryTest {
    private static final Edge edge = new Edge();

    private static final int NONE = -6;

    /** Two sessions with damage and other settings, made by so many actions that the history is full. */
    private static final String MUCH =
        "text(c;b1;k1.0) begin(0) write(1, 3) write(2, 2) close() damage(3) undo() damage(9) set(0, 5) begin(1) ";

    private static void recordsBoth(String before, String action) {
        edge.records(before, action, 0);
        edge.records("damage(230) " + before, action, 1);
    }

    // ---- what is recorded

    private static void eachAction() {
        edge.sentence("Each action that returns no error code records the state before it in the history");
        edge.records("", "begin(0)", 0);
        edge.records("", "begin(1)", 0);
        edge.records("begin(0)", "write(1, 5)", 1);
        edge.records("begin(0) write(1, 5)", "write(1, 6)", 2);
        edge.records("begin(0) write(1, 5)", "remove(1)", 2);
        edge.records("begin(0) write(1, 5) close() begin(0)", "keep(1, 0)", 3);
        edge.records("begin(0) write(1, 5)", "close()", 2);
        edge.records("begin(0) write(1, 5)", "eject()", 2);
        edge.records("begin(0) write(1, 5) eject()", "repair(0)", 3);
        edge.records("begin(0)", "damage(0)", 1);
        edge.records("", "set(0, 9)", 0);
        edge.records("", "set(1, 9)", 0);
        edge.records("text(b0;w1=5;c)", "run()", 0);
    }

    private static void actionsThatChangeNothing() {
        edge.sentence("even if the action changes nothing");
        recordsBoth("", "eject()");
        edge.records("begin(0) close()", "eject()", 2);
        edge.records("begin(0) eject()", "eject()", 2);
        edge.records("damage(5)", "damage(5)", 1);
        recordsBoth("", "set(0, 4)");
        recordsBoth("", "set(1, 3)");
        edge.records("begin(0) write(1, 5) close() begin(1)", "keep(1, 0)", 3);
        recordsBoth("text(c)", "run()");
        recordsBoth("text(e)", "run()");
    }

    private static void actionsWithAnErrorCode() {
        edge.sentence("an action that returns an error code records nothing");
        String[] refused = {
            "begin(2)", "write(0, 0)", "remove(0)", "keep(0, 0)", "close()", "repair(0)", "damage(240)", "set(2, 2)",
            "run()"};
        for (String action : refused) {
            edge.holds(action, 0);
            edge.holds("eject() " + action, 1);
            edge.holds("eject() ".repeat(4) + action, 4);
        }
        edge.holds("begin(0) begin(0)", 1);
        edge.holds("begin(0) write(1, 41)", 1);
    }

    private static void othersRecordNothing() {
        edge.sentence("The actions are begin, write, remove, keep, close, eject, repair, damage, set and run");
        edge.holds("text(b0) fault() clearText() clearText()", 0);
        edge.holds("damage(1) text(b0) fault() clearText() clearText()", 1);
        edge.holds("undo() undo()", 0);
        edge.holds("damage(1) undo()", 0);
        edge.holds("damage(1) damage(2) undo()", 1);
    }

    private static void questionsChangeNothing() {
        edge.sentence("these methods change nothing");
        String[] questions = {
            "sessions()", "session(0, 0)", "session(1, 7)", "session(2, 0)", "session(0, 8)", "entry(0, 1, 0)",
            "entry(1, 2, 2)", "entry(0, 3, 0)", "entry(0, 20, 0)", "entry(0, 1, 3)", "valid()", "next()", "damaged(3)",
            "damaged(240)", "use(0)", "use(240)", "setting(0)", "setting(2)", "find(1)", "find(3)", "find(20)",
            "intact(1)", "intact(20)", "intactFiles()", "versions(1)", "versions(20)", "latestIntact(1)",
            "latestIntact(20)", "lost()", "usedWell()", "largest()", "filesLeft(1)", "filesLeft(40)", "filesLeft(0)",
            "filesEach(1)", "filesEach(40)", "filesEach(41)", "validIf(0)", "validIf(9)", "validIf(239)",
            "validIf(240)", "worstSector()", "fault()"};
        for (String question : questions) {
            edge.changesNothing("", question);
            edge.changesNothing(MUCH, question);
            edge.changesNothing(MUCH + "close()", question);
        }
    }

    private static void runRecordsOnce() {
        edge.sentence("The commands of run record no states by themselves");
        edge.holds("text(b0;w1=1;w2=1;c;b1;c) run()", 1);
        edge.holds("damage(1) text(b0;w1=1;w2=1;c;b1;c) run()", 2);
        edge.answers("text(b0;w1=1;w2=1;c;b1;c) run()", "undo()", 0);
        edge.sameState("damage(1)", "damage(1) text(b0;w1=1;w2=1;c;b1;c) run() undo()");
        edge.sameState("damage(1)", "damage(1) text(b0;w1=1;b0;c) run() undo()");
        edge.holds("text(d1;d2;c) run() run()", 2);
    }

    // ---- how much is held

    private static void atMostFourStates() {
        edge.sentence("The history holds at most 4 states");
        for (int actions = 0; actions <= 14; actions++) {
            edge.holds(damages(actions), Math.min(actions, 4));
        }
    }

    private static String damages(int count) {
        StringBuilder calls = new StringBuilder();
        for (int sector = 0; sector < count; sector++) {
            calls.append(" damage(").append(sector).append(")");
        }
        return calls.toString();
    }

    private static void theOldestIsDropped() {
        edge.sentence("when a fifth state is recorded, the oldest one is dropped");
        for (int actions = 4; actions <= 14; actions++) {
            for (int undone = 0; undone <= 4; undone++) {
                edge.sameState(damages(actions - undone), damages(actions) + " undo()".repeat(undone));
            }
            edge.sameState(damages(actions - 4), damages(actions) + " undo()".repeat(5));
        }
    }

    private static void roomInTheHistoryAgain() {
        edge.sentence("undo makes room for other states, wherever the history stands");
        for (int actions = 1; actions <= 7; actions++) {
            for (int undone = 0; undone <= Math.min(actions, 4); undone++) {
                int held = Math.min(actions, 4) - undone;
                String before = damages(actions) + " undo()".repeat(undone);
                edge.holds(before + " set(0, 6) set(0, 7)", Math.min(held + 2, 4));
                edge.sameState(before, before + " set(0, 6) set(0, 7) undo() undo()");
                edge.sameState(before + " set(0, 6)", before + " set(0, 6) set(0, 7) set(1, 5) undo() undo()");
            }
        }
    }

    // ---- 15: undo

    private static void undoOfAnEmptyHistory() {
        edge.sentence("15: NONE if the history is empty");
        edge.answers("", "undo()", NONE);
        edge.answers("damage(1) undo()", "undo()", NONE);
        edge.answers(damages(9) + " undo() undo() undo() undo()", "undo()", NONE);
        edge.changesNothing("", "undo()");
        edge.changesNothing("text(b0;c)", "undo()");
        edge.changesNothing(damages(6) + " text(c) undo() undo() undo() undo()", "undo()");
    }

    private static void undoAnswersWhatIsLeft() {
        edge.sentence("15: Returns the number of states that are left in the history");
        edge.answers("damage(1)", "undo()", 0);
        edge.answers("damage(1) damage(2)", "undo()", 1);
        edge.answers("damage(1) damage(2) damage(3)", "undo()", 2);
        edge.answers("damage(1) damage(2) damage(3) damage(4)", "undo()", 3);
        edge.answers("damage(1) damage(2) damage(3) damage(4) damage(5)", "undo()", 3);
        edge.answers("damage(1) damage(2) undo() damage(3)", "undo()", 1);
    }

    private static void undoRestoresTheLatest() {
        edge.sentence("15: Restores the latest state of the history and removes it from the history");
        edge.sameState("damage(1)", "damage(1) damage(2) undo()");
        edge.sameState("", "damage(1) damage(2) undo() undo()");
        edge.leavesAlike("damage(1)", "damage(1) damage(2) undo()");
        edge.leavesAlike("damage(1) damage(3)", "damage(1) damage(2) undo() damage(3)");
    }

    private static void undoRestoresAllOfTheState() {
        edge.sentence("The state consists of the next sector, the sessions, the damaged sectors and the settings");
        edge.answers("begin(0) undo()", "next()", 0);
        edge.answers("begin(0) undo()", "sessions()", 0);
        edge.answers("begin(0) write(1, 5) undo()", "next()", 4);
        edge.answers("begin(0) write(1, 5) undo()", "session(0, 5)", 0);
        edge.answers("begin(0) write(1, 5) undo()", "session(0, 7)", 0);
        edge.answers("begin(0) write(1, 5) undo()", "session(0, 2)", 4);
        edge.answers("begin(0) write(1, 5) undo()", "versions(1)", 0);
        edge.answers("begin(0) write(1, 5) write(1, 6) undo()", "entry(0, 1, 1)", 5);
        edge.answers("begin(0) write(1, 5) remove(1) undo()", "entry(0, 1, 0)", 4);
        edge.answers("begin(0) close() undo()", "session(0, 0)", 0);
        edge.answers("begin(0) eject() undo()", "session(0, 0)", 0);
        edge.answers("begin(0) eject() repair(0) undo()", "session(0, 0)", 2);
        edge.answers("damage(9) undo()", "damaged(9)", 0);
        edge.answers("damage(9) undo()", "damage(8)", 1);
        edge.answers("damage(9) damage(9) undo()", "damaged(9)", 1);
        edge.answers("set(0, 9) undo()", "setting(0)", 4);
        edge.answers("set(1, 9) undo()", "setting(1)", 3);
    }

    private static void undoOfAFullDisc() {
        edge.sentence("15: undo on a full disc, and with all sessions");
        edge.answers(Edge.closedWithRoom(0) + "undo()", "next()", 237);
        edge.answers(Edge.openWithRoom(1) + "write(1, 1) undo()", "write(1, 1)", 236);
        edge.answers("begin(0) close() ".repeat(11) + "begin(0) undo()", "begin(0)", 11);
        edge.answers("begin(0) close() ".repeat(12) + "undo() undo()", "sessions()", 11);
    }

    private static void undoKeepsTheText() {
        edge.sentence("15: The text does not change; the text is not part of the state");
        edge.answers("text(c) begin(0) clearText() undo()", "clearText()", 0);
        edge.answers("begin(0) text(c;e) undo()", "clearText()", 3);
        edge.answers("begin(0) text(c;e) undo()", "fault()", NONE);
        edge.answers("text(e) run() clearText() text(d7;d8) undo()", "run()", 2);
        edge.answers("text(e) run() undo()", "clearText()", 1);
    }

    private static void undoKeepsTheHistory() {
        edge.sentence("the history is not part of the state");
        edge.holds(damages(5) + " undo()", 3);
        edge.holds(damages(5) + " undo() undo()", 2);
        edge.holds("damage(1) damage(2) undo() damage(3)", 2);
    }

    private static void undoneSessionsLeaveNothing() {
        edge.sentence("15: what was undone leaves nothing behind");
        edge.leavesAlike("begin(0)", "begin(0) write(1, 5) undo()");
        edge.sameState("begin(0) write(2, 1) close()", "begin(0) write(1, 5) undo() write(2, 1) close()");
        edge.sameState("begin(0) close() begin(0)",
            "begin(0) close() begin(1) write(3, 2) undo() undo() begin(0)");
        edge.sameState("set(0, 9) begin(0)", "begin(0) undo() set(0, 9) begin(0)");
        edge.sameState("begin(0)", "text(b0;w0=5;w19=1) run() undo() begin(0)");
        edge.sameState("begin(1)", "text(b0;w0=5;w19=1) run() undo() begin(1)");
        String two = "begin(0) write(0, 5) write(19, 5) close() ";
        edge.sameState(two + "begin(0)", two + "begin(1) undo() begin(0)");
        edge.sameState(two + "begin(0)", two + "text(b1;w1=1;c;b1) run() undo() begin(0)");
        edge.sameState(two + "set(1, 9) begin(0) close()", two + "text(b1;c) run() undo() set(1, 9) begin(0) close()");
    }

    // ---- calls

    private static void all512Calls() {
        edge.sentence("An object is used for at most 512 calls after it has been made");
        edge.answers("damage(5) ".repeat(509) + "set(0, 9) begin(0)", "close()", 12);
        edge.answers("damage(5) ".repeat(511), "undo()", 3);
        edge.answers("damage(5) ".repeat(507) + "undo() ".repeat(4), "undo()", NONE);
        edge.answers("text(c) clearText() ".repeat(255) + "append(98)", "append(49)", 2);
        edge.answers("begin(0) " + "write(1, 1) undo() ".repeat(255), "write(1, 40)", 4);
        edge.answers("append(101) " + "run() ".repeat(510), "run()", 1);
        edge.answers("begin(0) " + "write(1, 1) ".repeat(233), "close()", 240);
        edge.answers("begin(0) " + "write(1, 1) remove(1) ".repeat(233), "close()", 240);
    }

    public static void main(String[] args) {
        eachAction();
        actionsThatChangeNothing();
        actionsWithAnErrorCode();
        othersRecordNothing();
        questionsChangeNothing();
        runRecordsOnce();
        atMostFourStates();
        theOldestIsDropped();
        roomInTheHistoryAgain();
        undoOfAnEmptyHistory();
        undoAnswersWhatIsLeft();
        undoRestoresTheLatest();
        undoRestoresAllOfTheState();
        undoOfAFullDisc();
        undoKeepsTheText();
        undoKeepsTheHistory();
        undoneSessionsLeaveNothing();
        all512Calls();
        edge.end();
    }
}
