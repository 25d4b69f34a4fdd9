/** Promises 31 to 35: what would still fit, and what damage would do. */
public final class WhatIfTest {
    private static final Due due = new Due();

    private static final int NO_SUCH = -1;
    private static final int BAD_VALUE = -2;
    private static final int TOO_MANY = -4;
    private static final int NONE = -6;

    private static void fill(WriteOnceDisc disc, int sectors) {
        int left = sectors;
        while (left > 0) {
            int size = Math.min(left, 40);
            disc.write(0, size);
            left -= size;
        }
    }

    private static void roomInAnOpenSession() {
        WriteOnceDisc disc = new WriteOnceDisc();
        disc.begin(0);
        disc.set(0, 9);
        disc.set(1, 9);
        due.same("31 largest()", disc.largest(), 40);
        due.same("32 filesLeft(1)", disc.filesLeft(1), 233);
        due.same("32 filesLeft(40)", disc.filesLeft(40), 5);
        due.same("32 filesLeft(0)", disc.filesLeft(0), BAD_VALUE);
        due.same("32 filesLeft(41)", disc.filesLeft(41), BAD_VALUE);
        fill(disc, 193);
        due.same("31 largest()", disc.largest(), 40);
        disc.write(1, 1);
        due.same("31 largest()", disc.largest(), 39);
        due.same("32 filesLeft(40)", disc.filesLeft(40), 0);
        due.same("32 filesLeft(13)", disc.filesLeft(13), 3);
        due.same("32 filesLeft(14)", disc.filesLeft(14), 2);
        due.same("31 it can be written", disc.write(2, 39), 198);
        due.same("31 largest()", disc.largest(), 0);
        due.same("32 filesLeft(1)", disc.filesLeft(1), 0);
        due.same("31 close()", disc.close(), 240);
    }

    private static void roomInANewSession() {
        WriteOnceDisc disc = new WriteOnceDisc();
        due.same("31 largest()", disc.largest(), 40);
        due.same("32 filesLeft(1)", disc.filesLeft(1), 233);
        disc.begin(0);
        fill(disc, 213);
        disc.close();
        due.same("31 largest()", disc.largest(), 13);
        due.same("32 filesLeft(6)", disc.filesLeft(6), 2);
        disc.set(0, 9);
        disc.set(1, 9);
        due.same("31 largest()", disc.largest(), 2);
        disc.begin(0);
        disc.write(1, 2);
        disc.close();
        due.same("31 largest() of a full disc", disc.largest(), 0);
        due.same("32 filesLeft(1) of a full disc", disc.filesLeft(1), 0);
        due.same("33 filesEach(1) of a full disc", disc.filesEach(1), 0);
    }

    private static void roomWithoutSessions() {
        WriteOnceDisc disc = new WriteOnceDisc();
        for (int number = 0; number < 12; number++) {
            due.same("33 filesEach(1)", disc.filesEach(1), 12 - number);
            disc.begin(0);
            due.same("33 filesEach(1) while open", disc.filesEach(1), 12 - number);
            if (number < 11) {
                disc.close();
            }
        }
        due.same("31 largest() in the last session", disc.largest(), 40);
        disc.close();
        due.same("31 largest() behind it", disc.largest(), 0);
        due.same("32 filesLeft(1) behind it", disc.filesLeft(1), 0);
        due.same("33 filesEach(1) behind it", disc.filesEach(1), 0);
    }

    private static void filesEach() {
        WriteOnceDisc disc = new WriteOnceDisc();
        due.same("33 filesEach(0)", disc.filesEach(0), BAD_VALUE);
        due.same("33 filesEach(41)", disc.filesEach(41), BAD_VALUE);
        due.same("33 filesEach(40)", disc.filesEach(40), 5);
        due.same("33 filesEach(17)", disc.filesEach(17), 10);
        due.same("33 filesEach(13)", disc.filesEach(13), 12);
        disc.begin(0);
        disc.set(0, 9);
        disc.set(1, 9);
        due.same("33 filesEach(40) with other settings", disc.filesEach(40), 4);
        fill(disc, 193);
        due.same("33 filesEach(40) that just fits", disc.filesEach(40), 1);
        disc.write(1, 1);
        due.same("33 filesEach(40) that does not fit", disc.filesEach(40), 0);
        due.same("33 filesEach(20) with the last sectors", disc.filesEach(20), 1);
        disc.set(0, 2);
        disc.set(1, 1);
        due.same("33 filesEach(18) with the last sectors", disc.filesEach(18), 2);
        due.same("33 filesEach(19)", disc.filesEach(19), 1);
        due.same("33 nothing changes", disc.next(), 198);
        due.same("33 write(2, 40)", disc.write(2, 40), TOO_MANY);
    }

    private static WriteOnceDisc twoSessions() {
        WriteOnceDisc disc = new WriteOnceDisc();
        disc.begin(0);
        disc.write(1, 5);
        disc.write(2, 2);
        disc.close();
        disc.begin(1);
        disc.write(3, 3);
        disc.close();
        return disc;
    }

    private static void validIf() {
        WriteOnceDisc disc = twoSessions();
        due.same("34 validIf(-1)", disc.validIf(-1), NO_SUCH);
        due.same("34 validIf(240)", disc.validIf(240), NO_SUCH);
        due.same("34 validIf(13)", disc.validIf(13), 1);
        due.same("34 validIf(14)", disc.validIf(14), 0);
        due.same("34 validIf(17)", disc.validIf(17), 0);
        due.same("34 validIf(18)", disc.validIf(18), 1);
        due.same("34 validIf(0)", disc.validIf(0), 1);
        disc.damage(15);
        due.same("34 validIf(3)", disc.validIf(3), NONE);
        due.same("34 validIf(4)", disc.validIf(4), 0);
        due.same("34 validIf(15)", disc.validIf(15), 0);
        due.same("34 nothing changes", disc.damaged(3), 0);
    }

    private static void worstSector() {
        WriteOnceDisc disc = new WriteOnceDisc();
        due.same("35 worstSector() of a new disc", disc.worstSector(), 0);
        disc = twoSessions();
        due.same("35 worstSector() is a file's, lower than a table's", disc.worstSector(), 4);
        disc.damage(5);
        due.same("35 worstSector() passes a damaged file", disc.worstSector(), 9);
        disc.damage(9);
        due.same("35 worstSector() is a table's", disc.worstSector(), 14);
        disc.damage(19);
        due.same("35 worstSector() without intact files", disc.worstSector(), 0);
        disc = twoSessions();
        disc.damage(16);
        due.same("35 worstSector() by session 0", disc.worstSector(), 0);
        disc = new WriteOnceDisc();
        disc.begin(0);
        disc.close();
        disc.begin(0);
        disc.write(8, 1);
        disc.write(9, 1);
        disc.close();
        due.same("35 worstSector() is a table's of two files", disc.worstSector(), 7);
    }

    public static void main(String[] args) {
        roomInAnOpenSession();
        roomInANewSession();
        roomWithoutSessions();
        filesEach();
        validIf();
        worstSector();
        due.end();
    }
}
