/** The calls that README.md shows, in its order, with the answers that it tells. */
public final class ReadmeTest {
    private static final Due due = new Due();
    private static final int NONE = -6;

    private final Player disc = new Player();

    private void answers(String call, double want) {
        due.sameNumber(call, disc.play(call), want);
    }

    private void writesAndFinds() {
        answers("begin(0)", 0);
        answers("write(7, 10)", 4);
        answers("find(7)", NONE);
        answers("close()", 17);
        answers("find(7)", 4);
        answers("undo()", 2);
        answers("session(0, 0)", 0);
        answers("close()", 17);
    }

    private void shadowsAndIsDamaged() {
        answers("begin(1)", 1);
        answers("write(7, 2)", 21);
        answers("close()", 26);
        answers("find(7)", 21);
        answers("damage(21)", 1);
        answers("intact(7)", 0);
        answers("latestIntact(7)", 0);
        answers("validIf(17)", 0);
    }

    private void runsAText() {
        answers("text(b1;k7.0;c;w1=5)", 14);
        answers("fault()", NONE);
        answers("run()", 3);
        answers("find(7)", 4);
        answers("undo()", 3);
        answers("sessions()", 2);
    }

    public static void main(String[] args) {
        ReadmeTest readme = new ReadmeTest();
        readme.writesAndFinds();
        readme.shadowsAndIsDamaged();
        readme.runsAText();
        due.end();
    }
}
