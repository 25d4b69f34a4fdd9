/** Promises 11 to 15: the text, its fault, run, and undo. */
public final class TextTest {
    private static final Due due = new Due();

    private static final int BAD_VALUE = -2;
    private static final int BAD_TEXT = -3;
    private static final int TOO_MANY = -4;
    private static final int NOT_POSSIBLE = -5;
    private static final int NONE = -6;

    private static void put(WriteOnceDisc disc, String text) {
        disc.clearText();
        for (int i = 0; i < text.length(); i++) {
            disc.append(text.charAt(i));
        }
    }

    private static void append() {
        WriteOnceDisc disc = new WriteOnceDisc();
        due.same("11 append(31)", disc.append(31), BAD_VALUE);
        due.same("11 append(127)", disc.append(127), BAD_VALUE);
        due.same("11 append(-1)", disc.append(-1), BAD_VALUE);
        due.same("11 append(65536 + 99)", disc.append(65536 + 99), BAD_VALUE);
        due.same("11 append(32)", disc.append(32), 1);
        due.same("11 append(126)", disc.append(126), 2);
        for (int length = 3; length <= 80; length++) {
            due.same("11 append('c')", disc.append('c'), length);
        }
        due.same("11 append('c') of an 81st", disc.append('c'), TOO_MANY);
        due.same("11 append(31) of an 81st", disc.append(31), BAD_VALUE);
        due.same("12 clearText()", disc.clearText(), 80);
        due.same("12 clearText() again", disc.clearText(), 0);
        due.same("12 append('c')", disc.append('c'), 1);
        due.same("15 no state for the text", disc.undo(), NONE);
    }

    private static void fault(String text, int want) {
        WriteOnceDisc disc = new WriteOnceDisc();
        put(disc, text);
        due.same("13 fault of '" + text + "'", disc.fault(), want);
        due.same("14 run of '" + text + "' has a fault", disc.run() == BAD_TEXT ? 1 : 0, want == NONE ? 0 : 1);
    }

    private static void faults() {
        fault("", 0);
        fault(" ", 0);
        fault("x", 0);
        fault(";", 0);
        fault("C", 0);
        fault("c", NONE);
        fault("e", NONE);
        fault("c;", 2);
        fault("c;;", 2);
        fault("cc", 1);
        fault("c1", 1);
        fault("c ", 1);
        fault("c;e;c", NONE);
        fault("b", 1);
        fault("b0", NONE);
        fault("b1", NONE);
        fault("b2", 1);
        fault("b00", 2);
        fault("b10", 2);
        fault("b1;b0", NONE);
        fault("bx", 1);
    }

    private static void faultsInNumbers() {
        fault("r", 1);
        fault("r0", NONE);
        fault("r00", 2);
        fault("r1", NONE);
        fault("r19", NONE);
        fault("r190", 3);
        fault("r2", NONE);
        fault("r20", 2);
        fault("r-", 1);
        fault("w", 1);
        fault("w1", 2);
        fault("w1.", 2);
        fault("w1;", 2);
        fault("w1=", 3);
        fault("w1=0", 3);
        fault("w1=1", NONE);
        fault("w01", 2);
        fault("w1=40", NONE);
        fault("w1=41", 4);
        fault("w1=5", NONE);
        fault("w1=50", 4);
        fault("w1=400", 5);
        fault("w19=39;w20=3", 9);
        fault("k", 1);
        fault("k1", 2);
        fault("k01", 2);
        fault("k19.0", NONE);
        fault("k20", 2);
        fault("k20.0", 2);
        fault("k1=", 2);
        fault("k1.", 3);
        fault("k1.0", NONE);
        fault("k1.00", 4);
        fault("k1.11", NONE);
        fault("k1.12", 4);
        fault("k1.2", NONE);
        fault("k1.20", 4);
        fault("d", 1);
        fault("d0", NONE);
        fault("d01", 2);
        fault("d239", NONE);
        fault("d240", 3);
        fault("d24", NONE);
        fault("d25;d250", 7);
        fault("d2390", 4);
    }

    private static void faultOfLongTexts() {
        String half = "c;e;c;e;c;e;c;e;c;e;c;e;c;e;c;e;c;e;c;e;";
        fault(half + half, 80);
        fault(half + half.substring(0, 38) + "w1", 80);
        fault(half + half.substring(0, 38) + "r1", NONE);
        fault(half + half.substring(0, 37) + "x", 77);
    }

    private static void run() {
        WriteOnceDisc disc = new WriteOnceDisc();
        due.same("14 run() of nothing", disc.run(), BAD_TEXT);
        due.same("15 no state for a fault", disc.undo(), NONE);
        put(disc, "b0;w7=12;w8=3;r8;d200;c;b0;k7.0;e");
        due.same("14 run()", disc.run(), 9);
        due.same("14 sessions()", disc.sessions(), 2);
        due.same("14 find(7)", disc.find(7), 4);
        due.same("14 find(8)", disc.find(8), NONE);
        due.same("14 entry(1, 7, 1)", disc.entry(1, 7, 1), 12);
        due.same("14 damaged(200)", disc.damaged(200), 1);
        due.same("14 session(1, 0)", disc.session(1, 0), WriteOnceDisc.BROKEN);
        due.same("14 the text stays", disc.fault(), NONE);
        put(disc, "d5;w0=1;d6");
        due.same("14 run() up to an error", disc.run(), 1);
        due.same("14 damaged(5)", disc.damaged(5), 1);
        due.same("14 damaged(6)", disc.damaged(6), 0);
        put(disc, "c");
        due.same("14 run() of nothing that works", disc.run(), 0);
        put(disc, "e");
        due.same("14 eject() of nothing is no error", disc.run(), 1);
        due.same("15 undo() of run", disc.undo(), 3);
        due.same("15 undo() of run", disc.undo(), 2);
        due.same("15 undo() of run", disc.undo(), 1);
        due.same("15 damaged(5)", disc.damaged(5), 0);
        due.same("15 undo() of run", disc.undo(), 0);
        due.same("15 sessions()", disc.sessions(), 0);
        due.same("15 damaged(200)", disc.damaged(200), 0);
        due.same("15 the text stays", disc.clearText(), 1);
    }

    private static void undo() {
        WriteOnceDisc disc = new WriteOnceDisc();
        due.same("15 undo()", disc.undo(), NONE);
        disc.set(0, 9);
        disc.begin(0);
        disc.write(1, 5);
        disc.close();
        due.same("15 an error is not recorded", disc.close(), NOT_POSSIBLE);
        disc.eject();
        due.same("15 undo() of eject", disc.undo(), 3);
        due.same("15 undo() of close", disc.undo(), 2);
        due.same("15 session(0, 0)", disc.session(0, 0), WriteOnceDisc.OPEN);
        due.same("15 next()", disc.next(), 14);
        due.same("15 undo() of write", disc.undo(), 1);
        due.same("15 versions(1)", disc.versions(1), 0);
        due.same("15 session(0, 7)", disc.session(0, 7), 0);
        due.same("15 undo() of begin", disc.undo(), 0);
        due.same("15 sessions()", disc.sessions(), 0);
        due.same("15 the fifth was dropped", disc.undo(), NONE);
        due.same("15 setting(0)", disc.setting(0), 9);
        disc.set(0, 3);
        disc.set(0, 3);
        due.same("15 no change is recorded too", disc.undo(), 1);
        due.same("15 setting(0)", disc.setting(0), 3);
        due.same("15 undo()", disc.undo(), 0);
        due.same("15 setting(0)", disc.setting(0), 9);
    }

    private static void manyUndos() {
        WriteOnceDisc disc = new WriteOnceDisc();
        for (int sector = 0; sector < 23; sector++) {
            disc.damage(sector);
        }
        for (int left = 3; left >= 0; left--) {
            due.same("15 undo()", disc.undo(), left);
        }
        due.same("15 undo()", disc.undo(), NONE);
        due.same("15 damage(100)", disc.damage(100), 20);
        due.same("15 undo()", disc.undo(), 0);
        due.same("15 damaged(100)", disc.damaged(100), 0);
    }

    private static void sessionRow(WriteOnceDisc disc, int session, int[] want) {
        for (int what = 0; what < want.length; what++) {
            due.same("15 session(" + session + ", " + what + ")", disc.session(session, what), want[what]);
        }
    }

    /** A state that was taken back leaves nothing behind in the ones that are recorded in its place. */
    private static void undoAndGoOn() {
        WriteOnceDisc disc = new WriteOnceDisc();
        put(disc, "w0=2;c;b1;w1=1;w2=1");
        disc.begin(0);
        disc.run();
        disc.damage(5);
        disc.damage(6);
        sessionRow(disc, 1, new int[] {0, 9, 6, 4, 3, 3, 0, 2});
        disc.undo();
        disc.undo();
        due.same("15 undo()", disc.undo(), 1);
        due.same("15 sessions()", disc.sessions(), 1);
        due.same("15 versions(2)", disc.versions(2), 0);
        disc.undo();
        disc.set(0, 7);
        disc.set(1, 5);
        put(disc, "b0;w3=5;c;b0");
        disc.run();
        disc.damage(7);
        sessionRow(disc, 0, new int[] {1, 0, 17, 7, 5, 1, 1, 1});
        sessionRow(disc, 1, new int[] {0, 17, 7, 7, 5, 0, 0, 0});
        disc.write(4, 2);
        due.same("15 undo()", disc.undo(), 3);
        due.same("15 entry(1, 4, 0)", disc.entry(1, 4, 0), NONE);
        sessionRow(disc, 0, new int[] {1, 0, 17, 7, 5, 1, 1, 1});
        sessionRow(disc, 1, new int[] {0, 17, 7, 7, 5, 0, 0, 0});
        due.same("15 undo()", disc.undo(), 2);
        sessionRow(disc, 1, new int[] {0, 17, 7, 7, 5, 0, 0, 0});
        due.same("15 entry(0, 3, 1)", disc.entry(0, 3, 1), 5);
    }

    public static void main(String[] args) {
        append();
        faults();
        faultsInNumbers();
        faultOfLongTexts();
        run();
        undo();
        manyUndos();
        undoAndGoOn();
        due.end();
    }
}
