/** Promises 24 to 30: finding files, their versions, and lost room. */
public final class FilesTest {
    private static final Due due = new Due();

    private static final int NO_SUCH = -1;
    private static final int NONE = -6;

    /** Session 0 has 1 at 4 (5), 2 at 9 (2); session 1 has 1 at 18 (4), 2 as before, 3 at 22 (1). */
    private static WriteOnceDisc twoSessions() {
        WriteOnceDisc disc = new WriteOnceDisc();
        disc.begin(0);
        disc.write(1, 5);
        disc.write(2, 2);
        disc.close();
        disc.begin(1);
        disc.write(1, 4);
        disc.write(3, 1);
        disc.close();
        return disc;
    }

    private static void wrongNames() {
        WriteOnceDisc disc = twoSessions();
        for (int name = -1; name <= 20; name += 21) {
            due.same("24 find(" + name + ")", disc.find(name), NO_SUCH);
            due.same("25 intact(" + name + ")", disc.intact(name), NO_SUCH);
            due.same("27 versions(" + name + ")", disc.versions(name), NO_SUCH);
            due.same("28 latestIntact(" + name + ")", disc.latestIntact(name), NO_SUCH);
        }
    }

    private static void find() {
        WriteOnceDisc disc = twoSessions();
        due.same("24 find(1)", disc.find(1), 18);
        due.same("24 find(2)", disc.find(2), 9);
        due.same("24 find(4)", disc.find(4), NONE);
        disc.begin(0);
        disc.write(4, 1);
        due.same("24 find(4) while open", disc.find(4), NONE);
        disc.close();
        due.same("24 find(4)", disc.find(4), 30);
        due.same("24 find(1) is shadowed", disc.find(1), NONE);
        disc.damage(26);
        due.same("24 find(1) by session 1", disc.find(1), 18);
        disc.damage(15);
        due.same("24 find(1) by session 0", disc.find(1), 4);
        disc.damage(3);
        due.same("24 find(1) without a valid session", disc.find(1), NONE);
    }

    private static void intact() {
        WriteOnceDisc disc = twoSessions();
        due.same("25 intact(1)", disc.intact(1), 1);
        due.same("25 intact(5)", disc.intact(5), NONE);
        due.same("26 intactFiles()", disc.intactFiles(), 3);
        disc.damage(17);
        disc.undo();
        disc.damage(21);
        due.same("25 intact(1) with its last sector damaged", disc.intact(1), 0);
        due.same("25 intact(3)", disc.intact(3), 1);
        due.same("26 intactFiles()", disc.intactFiles(), 2);
        disc.damage(9);
        due.same("25 intact(2) with its first sector damaged", disc.intact(2), 0);
        due.same("26 intactFiles()", disc.intactFiles(), 1);
        disc.damage(14);
        due.same("25 intact(3) by session 0", disc.intact(3), NONE);
        due.same("25 intact(1) by session 0", disc.intact(1), 1);
        due.same("26 intactFiles()", disc.intactFiles(), 1);
        disc.damage(0);
        due.same("26 intactFiles()", disc.intactFiles(), 0);
    }

    private static void versions() {
        WriteOnceDisc disc = twoSessions();
        due.same("27 versions(1)", disc.versions(1), 2);
        due.same("27 versions(2)", disc.versions(2), 1);
        due.same("27 versions(4)", disc.versions(4), 0);
        disc.begin(1);
        disc.keep(1, 0);
        due.same("27 versions(1) when kept", disc.versions(1), 2);
        disc.write(1, 1);
        disc.write(1, 1);
        disc.remove(1);
        disc.eject();
        due.same("27 versions(1) in a broken session", disc.versions(1), 4);
    }

    private static void latestIntact() {
        WriteOnceDisc disc = twoSessions();
        due.same("28 latestIntact(1)", disc.latestIntact(1), 1);
        due.same("28 latestIntact(2)", disc.latestIntact(2), 1);
        due.same("28 latestIntact(4)", disc.latestIntact(4), NONE);
        disc.damage(19);
        due.same("28 latestIntact(1) when its file is damaged", disc.latestIntact(1), 0);
        disc.damage(17);
        due.same("28 latestIntact(2) when its table is damaged", disc.latestIntact(2), 0);
        due.same("28 latestIntact(3)", disc.latestIntact(3), NONE);
        disc.begin(1);
        disc.write(1, 3);
        disc.eject();
        due.same("28 latestIntact(1) passes a broken session", disc.latestIntact(1), 0);
        disc.repair(2);
        due.same("28 latestIntact(1)", disc.latestIntact(1), 2);
    }

    private static void lost() {
        WriteOnceDisc disc = new WriteOnceDisc();
        due.same("29 lost() of a new disc", disc.lost(), 0);
        due.sameFloat("30 usedWell() of a new disc", disc.usedWell(), 1.0f);
        disc.begin(0);
        due.same("29 lost() without a valid session", disc.lost(), 4);
        due.sameFloat("30 usedWell() without a valid session", disc.usedWell(), 0.0f);
        disc = twoSessions();
        due.same("29 lost()", disc.lost(), 26 - 7);
        due.sameFloat("30 usedWell()", disc.usedWell(), 7.0f / 26.0f);
        disc.damage(18);
        due.same("29 lost() of damaged files", disc.lost(), 26 - 7);
        disc.damage(14);
        due.same("29 lost() by session 0", disc.lost(), 26 - 7);
        disc.damage(0);
        due.same("29 lost() of all", disc.lost(), 26);
        due.sameFloat("30 usedWell() of all", disc.usedWell(), 0.0f);
    }

    public static void main(String[] args) {
        wrongNames();
        find();
        intact();
        versions();
        latestIntact();
        lost();
        due.end();
    }
}
