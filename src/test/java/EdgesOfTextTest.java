import java.util.Collections;
import java.util.HashSet;
import java.util.Set;
import java.util.TreeSet;

/** The edges of the text: its length, its grammar, its fault, and run (promises 11 to 14). */
public final class EdgesOfTextTest {
    private static final Edge edge = new Edge();

    private static final int BAD_VALUE = -2;
    private static final int BAD_TEXT = -3;
    private static final int TOO_MANY = -4;
    private static final int NONE = -6;

    /** 78 characters, so that two more fill the text. */
    private static final String LONG = "c;".repeat(39);

    private static final Set<String> COMMANDS = commands();

    /** Every command that the grammar has, written out. */
    private static Set<String> commands() {
        Set<String> commands = new TreeSet<>();
        Collections.addAll(commands, "b0", "b1", "c", "e");
        for (int name = 0; name <= 19; name++) {
            commands.add("r" + name);
            for (int size = 1; size <= 40; size++) {
                commands.add("w" + name + "=" + size);
            }
            for (int session = 0; session <= 11; session++) {
                commands.add("k" + name + "." + session);
            }
        }
        for (int sector = 0; sector <= 239; sector++) {
            commands.add("d" + sector);
        }
        return commands;
    }

    private static void fault(String text, int want) {
        edge.answers("text(" + text + ")", "fault()", want);
    }

    // ---- the text, 11 and 12: append, clearText

    private static void emptyAtFirst() {
        edge.sentence("There is a text (empty at first)");
        edge.answers("", "clearText()", 0);
        edge.answers("", "append(99)", 1);
    }

    private static void atMost80Characters() {
        edge.sentence("a text of at most 80 characters");
        edge.answers("text(" + LONG + "c)", "append(59)", 80);
        edge.refusesAsTold("text(" + LONG + "c;)", "append(99)", TOO_MANY);
        edge.refusesAsTold("text(" + LONG + "r1)", "append(48)", TOO_MANY);
        edge.refusesAsTold("begin(0) text(" + LONG + "xx)", "append(126)", TOO_MANY);
        edge.answers("text(" + LONG + "c;) append(99)", "clearText()", 80);
        edge.answers("text(" + LONG + "c;) clearText()", "append(99)", 1);
    }

    private static void appendCharacters() {
        edge.sentence("11: BAD_VALUE if character is out of range");
        edge.takesOnly("", "append(%d)", 32, 126, BAD_VALUE);
        edge.refusesAsTold("text(" + LONG + "c)", "append(31)", BAD_VALUE);
        edge.refusesAsTold("text(" + LONG + "c)", "append(127)", BAD_VALUE);
    }

    private static void appendKeepsTheCharacter() {
        edge.sentence("11: Appends a character: each one is the one that was appended");
        for (int character = 32; character <= 126; character++) {
            boolean begins = "bwrkced".indexOf(character) >= 0;
            edge.answers("append(" + character + ") append(33)", "fault()", begins ? 1 : 0);
        }
    }

    private static void appendAnswersTheLength() {
        edge.sentence("11: Returns the length of the text");
        Player player = new Player();
        for (int length = 1; length <= 80; length++) {
            edge.same("append of character " + length, player.play("append(126)"), length);
        }
        edge.same("append of character 81", player.play("append(126)"), TOO_MANY);
    }

    private static void appendOrderOfCodes() {
        edge.sentence("11: BAD_VALUE, then TOO_MANY");
        edge.refusesAsTold("text(" + LONG + "c;)", "append(31)", BAD_VALUE);
        edge.refusesAsTold("text(" + LONG + "c;)", "append(127)", BAD_VALUE);
    }

    private static void clearTextAnswersTheLength() {
        edge.sentence("12: Returns the length that the text had");
        edge.answers("", "clearText()", 0);
        edge.answers("text(b)", "clearText()", 1);
        edge.answers("text(" + LONG + "c)", "clearText()", 79);
        edge.answers("text(" + LONG + "c;)", "clearText()", 80);
    }

    private static void clearTextEmptiesTheText() {
        edge.sentence("12: Empties the text");
        edge.answers("text(b0) clearText()", "clearText()", 0);
        edge.answers("text(b0) clearText()", "fault()", 0);
        edge.answers("text(b0) clearText()", "run()", BAD_TEXT);
        edge.answers("text(b0) clearText() text(c)", "fault()", NONE);
        edge.leavesAlike("begin(0)", "begin(0) text(b0;c) clearText()");
    }

    // ---- the grammar, and 13: fault

    private static void oneOrMoreCommands() {
        edge.sentence("text = command { \";\" command }");
        fault("c", NONE);
        fault("c;e", NONE);
        fault(";", 0);
        fault(";c", 0);
        fault("c;", 2);
        fault("c;;", 2);
        fault("c;;c", 2);
        fault("ce", 1);
        fault("c e", 1);
        fault("c,e", 1);
    }

    private static void letters() {
        edge.sentence("b, w, r, k, c, e, d");
        for (char sign = 32; sign <= 126; sign++) {
            boolean alone = sign == 'c' || sign == 'e';
            boolean begins = alone || "bwrkd".indexOf(sign) >= 0;
            edge.answers("append(" + (int) sign + ")", "fault()", alone ? NONE : begins ? 1 : 0);
        }
    }

    private static void modes() {
        edge.sentence("A mode is the digit 0 or 1");
        fault("b", 1);
        fault("b0", NONE);
        fault("b1", NONE);
        fault("b2", 1);
        fault("b-1", 1);
        fault("b00", 2);
        fault("b01", 2);
        fault("b10", 2);
    }

    private static void names() {
        edge.sentence("a name a number from 0 to 19");
        for (String before : new String[] {"r", "w", "k"}) {
            boolean isWhole = before.equals("r");
            fault(before, 1);
            fault(before + "0", isWhole ? NONE : 2);
            fault(before + "2", isWhole ? NONE : 2);
            fault(before + "19", isWhole ? NONE : 3);
            fault(before + "20", 2);
            fault(before + "99", 2);
            fault(before + "190", 3);
            fault(before + "100", 3);
            fault(before + "-1", 1);
        }
        fault("w0=1", NONE);
        fault("w19=1", NONE);
        fault("w20=1", 2);
        fault("k0.0", NONE);
        fault("k19.0", NONE);
        fault("k20.0", 2);
    }

    private static void sizes() {
        edge.sentence("a size a number from 1 to 40");
        fault("w7", 2);
        fault("w7=", 3);
        fault("w7=0", 3);
        fault("w7=1", NONE);
        fault("w7=4", NONE);
        fault("w7=39", NONE);
        fault("w7=40", NONE);
        fault("w7=41", 4);
        fault("w7=50", 4);
        fault("w7=100", 5);
        fault("w7=400", 5);
        fault("w7=-1", 3);
        fault("w7.1", 2);
    }

    private static void sessions() {
        edge.sentence("a session a number from 0 to 11");
        fault("k7", 2);
        fault("k7.", 3);
        fault("k7.0", NONE);
        fault("k7.1", NONE);
        fault("k7.9", NONE);
        fault("k7.10", NONE);
        fault("k7.11", NONE);
        fault("k7.12", 4);
        fault("k7.20", 4);
        fault("k7.110", 5);
        fault("k7=1", 2);
    }

    private static void sectors() {
        edge.sentence("a sector a number from 0 to 239");
        fault("d", 1);
        fault("d0", NONE);
        fault("d9", NONE);
        fault("d23", NONE);
        fault("d239", NONE);
        fault("d240", 3);
        fault("d24", NONE);
        fault("d99", NONE);
        fault("d300", 3);
        fault("d999", 3);
        fault("d2390", 4);
        fault("d1000", 4);
        fault("d-1", 1);
    }

    private static void leadingZeros() {
        edge.sentence("numbers have no leading zeros");
        fault("r00", 2);
        fault("r01", 2);
        fault("r019", 2);
        fault("w00=1", 2);
        fault("w1=01", 3);
        fault("w1=040", 3);
        fault("k01.1", 2);
        fault("k1.00", 4);
        fault("k1.01", 4);
        fault("d00", 2);
        fault("d01", 2);
        fault("d0239", 2);
    }

    private static void nothingBehindACommand() {
        edge.sentence("a command that is complete goes on with a \";\" alone");
        for (String command : new String[] {"b0", "b1", "w1=1", "w19=40", "r19", "k19.11", "c", "e", "d239"}) {
            fault(command, NONE);
            fault(command + ";", command.length() + 1);
            fault(command + " ", command.length());
            fault(command + ".", command.length());
            fault(command + "c", command.length());
        }
    }

    private static void faultIsTheFirstOne() {
        edge.sentence("13: the index of the first character such that no text begins with it");
        fault("x", 0);
        fault("xx", 0);
        fault("c;x;y", 2);
        fault("b0;w1=5;r20;x", 10);
        fault("c;e;c;e;b3", 9);
        fault(LONG + "cx", 79);
        fault(LONG + "xc", 78);
        fault("x" + LONG + "c", 0);
    }

    private static void faultOfEveryNextCharacter() {
        edge.sentence("13: every character behind every beginning of a command");
        Set<String> beginnings = new HashSet<>();
        for (String command : COMMANDS) {
            for (int end = 0; end <= command.length(); end++) {
                beginnings.add(command.substring(0, end));
            }
        }
        for (String before : new String[] {"", "c;", "d239;"}) {
            for (String beginning : beginnings) {
                for (char sign = 32; sign <= 126; sign++) {
                    boolean parts = sign == ';' && COMMANDS.contains(beginning);
                    boolean goesOn = parts || beginnings.contains(beginning + sign);
                    int length = before.length() + beginning.length() + 1;
                    int want = !goesOn ? length - 1 : COMMANDS.contains(beginning + sign) ? NONE : length;
                    faultOf(before + beginning + sign, want);
                }
            }
        }
    }

    private static void faultOf(String text, int want) {
        WriteOnceDisc disc = new WriteOnceDisc();
        for (int i = 0; i < text.length(); i++) {
            disc.append(text.charAt(i));
        }
        edge.same("fault of " + text, disc.fault(), want);
    }

    private static void faultOfAnIncompleteText() {
        edge.sentence("13: if the text is not complete (as the empty text), the fault is its length");
        fault("", 0);
        fault("b", 1);
        fault("w1", 2);
        fault("w1=", 3);
        fault("c;", 2);
        fault("c;e;k1.", 7);
    }

    private static void faultOfAFullText() {
        edge.sentence("13: however long such a text is");
        fault(LONG + "c;", 80);
        fault(LONG + "w1", 80);
        fault(LONG + "k1", 80);
        fault(LONG + "cd", 79);
        fault(LONG + "c", NONE);
        fault(LONG + "r1", NONE);
        fault(LONG + "d2", NONE);
        fault(LONG + "b", 79);
        fault("c;".repeat(37) + "c;w1=2", NONE);
        fault("c;".repeat(37) + "w19=40", NONE);
        fault("c;".repeat(37) + "w19=41", 79);
        fault("c;".repeat(37) + "d;", 75);
    }

    private static void faultIsNone() {
        edge.sentence("13: NONE if the text has no fault");
        for (String command : COMMANDS) {
            faultOf(command, NONE);
        }
        edge.changesNothing("begin(0) text(c;e)", "fault()");
        edge.changesNothing("begin(0) text(c;)", "fault()");
        edge.changesNothing("begin(0)", "fault()");
    }

    // ---- 14: run

    private static void runOfAFault() {
        edge.sentence("14: BAD_TEXT if the text has a fault");
        edge.refusesAsTold("", "run()", BAD_TEXT);
        edge.refusesAsTold("begin(0)", "run()", BAD_TEXT);
        edge.refusesAsTold("begin(0) text(c;)", "run()", BAD_TEXT);
        edge.refusesAsTold("begin(0) text(w1=5;c;x)", "run()", BAD_TEXT);
        edge.refusesAsTold("text(b0;w1=41)", "run()", BAD_TEXT);
        edge.refusesAsTold("text(b2)", "run()", BAD_TEXT);
        edge.refusesAsTold("text(" + LONG + "c;)", "run()", BAD_TEXT);
    }

    private static void runOfAll() {
        edge.sentence("14: Returns the number of commands that were executed");
        edge.answers("text(e)", "run()", 1);
        edge.answers("text(b0;w1=1;r1;e)", "run()", 4);
        edge.answers("text(" + "e;".repeat(39) + "e)", "run()", 40);
        edge.answers("text(" + "e;".repeat(39) + "d1)", "run()", 40);
        edge.answers("text(" + "d239;".repeat(15) + "d239)", "run()", 16);
    }

    private static void runInTheirOrder() {
        edge.sentence("14: Executes the commands of the text, in their order");
        edge.sameState("begin(0) write(1, 3) write(2, 4) close() begin(1) remove(1) keep(1, 0) eject() damage(9)",
            "text(b0;w1=3;w2=4;c;b1;r1;k1.0;e;d9) run()");
        edge.sameState("begin(0) close() begin(1)", "text(b0;c;b1) run()");
    }

    private static void runOfTheEdges() {
        edge.sentence("14: the least and the greatest numbers of the commands");
        String before = "begin(0) write(0, 1) write(19, 1) close() ";
        edge.sameState(before + "begin(0) keep(0, 0) keep(19, 0)", before + "text(b0;k0.0;k19.0) run()");
        edge.sameState(before + "begin(1) remove(0) remove(19)", before + "text(b1;r0;r19) run()");
        edge.sameState("begin(0) write(0, 1) write(19, 40)", "text(b0;w0=1;w19=40) run()");
        edge.sameState("damage(0) damage(239)", "text(d0;d239) run()");
        String eleven = "begin(0) close() ".repeat(10) + "begin(0) write(1, 2) close() ";
        edge.sameState(eleven + "begin(0) keep(1, 10)", eleven + "text(b0;k1.10) run()");
        edge.answers(eleven + "begin(0) close() text(b0)", "run()", 0);
        edge.answers(eleven + "text(b0;k1.11)", "run()", 1);
    }

    private static void runUpToAnError() {
        edge.sentence("14: up to the first one whose method would return an error code");
        String[] refused = {"w1=1", "r1", "k1.0", "c"};
        for (String command : refused) {
            edge.answers("text(d8;" + command + ";d9)", "run()", 1);
            edge.sameState("damage(8)", "text(d8;" + command + ";d9) run()");
            edge.answers("text(" + command + ")", "run()", 0);
        }
        edge.answers("begin(0) text(d8;b0;d9)", "run()", 1);
        edge.sameState("begin(0) damage(8)", "begin(0) text(d8;b0;d9) run()");
        edge.answers("begin(0) text(r1;d9)", "run()", 0);
        edge.answers("begin(0) text(k1.0;d9)", "run()", 0);
        edge.answers(Edge.openWithRoom(2) + "text(w1=1;w1=2;w1=1)", "run()", 1);
        edge.answers(Edge.closedWithRoom(6) + "text(e;b0;e)", "run()", 1);
        edge.answers("text(b0;c;c)", "run()", 2);
    }

    private static void runWithoutTheRefusedOne() {
        edge.sentence("14: without the one that would return an error code: none was executed");
        edge.answers("text(c)", "run()", 0);
        edge.answers("text(c;b0;c)", "run()", 0);
        edge.sameState("", "text(c;b0;c) run()");
        edge.answers("begin(0) close() ".repeat(12) + "text(b0)", "run()", 0);
    }

    private static void runOfAnswersThatAreNoErrors() {
        edge.sentence("14: an answer of 0 is no error code");
        edge.answers("text(e;b0;w1=1;r1;e;e)", "run()", 6);
        edge.sameState("begin(0) write(1, 1) remove(1) eject()", "text(e;b0;w1=1;r1;e;e) run()");
    }

    private static void runKeepsTheText() {
        edge.sentence("14: The text does not change");
        edge.answers("text(b0;c) run()", "run()", 2);
        edge.answers("text(b0;c) run()", "clearText()", 4);
        edge.answers("text(c) run()", "clearText()", 1);
        edge.answers("text(b0;c;c;e) run()", "clearText()", 8);
        edge.answers("text(b0;c) run() text(;b0)", "run()", 3);
        edge.answers("text(b0;x) run()", "clearText()", 4);
    }

    public static void main(String[] args) {
        emptyAtFirst();
        atMost80Characters();
        appendCharacters();
        appendKeepsTheCharacter();
        appendAnswersTheLength();
        appendOrderOfCodes();
        clearTextAnswersTheLength();
        clearTextEmptiesTheText();
        oneOrMoreCommands();
        letters();
        modes();
        names();
        sizes();
        sessions();
        sectors();
        leadingZeros();
        nothingBehindACommand();
        faultIsTheFirstOne();
        faultOfEveryNextCharacter();
        faultOfAnIncompleteText();
        faultOfAFullText();
        faultIsNone();
        runOfAFault();
        runOfAll();
        runInTheirOrder();
        runOfTheEdges();
        runUpToAnError();
        runWithoutTheRefusedOne();
        runOfAnswersThatAreNoErrors();
        runKeepsTheText();
        edge.end();
    }
}
