import java.util.ArrayList;
import java.util.List;

/**
 * Checks the cases that one sentence of the document names. Each check makes fresh objects, makes the
 * calls on them that are told as "before", and then the call that is looked at.
 */
final class Edge {
    private static final int QUESTIONS_AT_ONCE = 250;
    private static final int HISTORY = 4;
    private static final int NONE = -6;
    /** A text, a damaged sector and a full history, with the first settings again. */
    private static final String OTHER_CALLS =
        "text(d9;w1=1;b0) damage(238) set(0, 5) set(1, 2) set(0, 4) set(1, 3) ";

    private final Due due = new Due();
    private String sentence = "";

    /** The sentence, or the part of one, that the next checks stand for. */
    void sentence(String words) {
        sentence = words;
    }

    void end() {
        due.end();
    }

    private static boolean isError(double answer) {
        return answer <= -1 && answer >= -5;
    }

    void same(String call, double got, double want) {
        due.sameNumber("\"" + sentence + "\": " + call, got, want);
    }

    // ---- one answer

    void answers(String before, String call, double want) {
        same(before + " " + call, answer(before, call), want);
    }

    private double answer(String before, String call) {
        Player player = new Player();
        player.play(before);
        return player.play(call);
    }

    /** The call answers the error code, and changes nothing: neither a new object nor one with a history. */
    void refuses(String before, String call, int code) {
        refusesAsTold(before, call, code);
        refusesAsTold(OTHER_CALLS + before, call, code);
    }

    void refusesAsTold(String before, String call, int code) {
        answers(before, call, code);
        changesNothing(before, call);
    }

    /** The call, with %d for the argument, is taken from the least to the greatest value, and refused beyond. */
    void takesOnly(String before, String call, int least, int greatest, int code) {
        for (int value = least; value <= greatest; value++) {
            String told = call.formatted(value);
            same(before + " " + told + " is taken", isError(answer(before, told)) ? 0 : 1, 1);
        }
        int[] beyond = {
            least - 1, greatest + 1, -greatest - 1, least + 256, greatest - 256, least + 65536, greatest - 65536,
            Integer.MIN_VALUE, Integer.MIN_VALUE + least, Integer.MAX_VALUE, Integer.MAX_VALUE - greatest};
        for (int value : beyond) {
            refuses(before, call.formatted(value), code);
        }
    }

    // ---- what stays

    /** The call leaves the state, the history and the text as they are. */
    void changesNothing(String before, String call) {
        leavesAlike(before, before + " " + call);
    }

    /** Both rows of calls leave the same state, the same history and the same text. */
    void leavesAlike(String one, String other) {
        sameState(one, other);
        sameHistory(one, other);
        sameText(one, other);
    }

    /** All that the document calls the state can be told from these answers. */
    void sameState(String one, String other) {
        int sessions = (int) answer(one, "sessions()");
        List<String> questions = questions(sessions);
        for (int from = 0; from < questions.size(); from += QUESTIONS_AT_ONCE) {
            List<String> some = questions.subList(from, Math.min(from + QUESTIONS_AT_ONCE, questions.size()));
            sameAnswers(one, other, some);
        }
    }

    private void sameAnswers(String one, String other, List<String> questions) {
        Player first = new Player();
        Player second = new Player();
        first.play(one);
        second.play(other);
        for (String question : questions) {
            same(other + " " + question, second.play(question), first.play(question));
        }
    }

    private static List<String> questions(int sessions) {
        List<String> questions = new ArrayList<>(List.of("sessions()", "next()", "setting(0)", "setting(1)"));
        for (int session = 0; session < sessions; session++) {
            for (int what = 0; what <= 7; what++) {
                questions.add("session(" + session + ", " + what + ")");
            }
            for (int name = 0; name <= 19; name++) {
                questions.add("entry(" + session + ", " + name + ", 0)");
                questions.add("entry(" + session + ", " + name + ", 1)");
                questions.add("entry(" + session + ", " + name + ", 2)");
            }
        }
        for (int name = 0; name <= 19; name++) {
            questions.add("versions(" + name + ")");
        }
        for (int sector = 0; sector <= 239; sector++) {
            questions.add("damaged(" + sector + ")");
        }
        return questions;
    }

    void sameHistory(String one, String other) {
        String undone = "";
        for (int turn = 0; turn <= HISTORY; turn++) {
            same(other + undone + " undo()", answer(other + undone, "undo()"), answer(one + undone, "undo()"));
            undone += " undo()";
            sameState(one + undone, other + undone);
        }
    }

    void sameText(String one, String other) {
        same(other + " fault()", answer(other, "fault()"), answer(one, "fault()"));
        same(other + " run()", answer(other, "run()"), answer(one, "run()"));
        sameState(one + " run()", other + " run()");
        same(other + " clearText()", answer(other, "clearText()"), answer(one, "clearText()"));
    }

    // ---- what is recorded

    /** How many states the history holds. */
    void holds(String before, int states) {
        Player player = new Player();
        player.play(before);
        for (int left = states - 1; left >= 0; left--) {
            same(before + " undo() with " + left + " left", player.play("undo()"), left);
        }
        same(before + " undo() of no more", player.play("undo()"), NONE);
    }

    /** The action records the state before it; undo answers "left" and restores this state, but not the text. */
    void records(String before, String action, int left) {
        String done = before + " " + action;
        same(done + " is taken", isError(answer(before, action)) ? 0 : 1, 1);
        answers(done, "undo()", left);
        sameState(before, done + " undo()");
        sameText(before, done + " undo()");
    }

    // ---- discs

    /** Writes of the name 0 that take so many sectors. */
    static String fill(int sectors) {
        StringBuilder calls = new StringBuilder();
        int left = sectors;
        while (left > 0) {
            int size = Math.min(left, 40);
            calls.append(" write(0, ").append(size).append(")");
            left -= size;
        }
        return calls.append(' ').toString();
    }

    /** An open session, by the first settings, with room for so many sectors of files. */
    static String openWithRoom(int sectors) {
        return "begin(0)" + fill(240 - 4 - 3 - sectors);
    }

    /** A closed session, with so many sectors behind it. */
    static String closedWithRoom(int sectors) {
        return openWithRoom(sectors) + "close() ";
    }
}
