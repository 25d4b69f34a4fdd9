/** A write-once disc with sessions, tables of contents, damage, commands as texts and undo. */
public final class WriteOnceDisc {
    public static final int NO_SUCH = -1;
    public static final int BAD_VALUE = -2;
    public static final int BAD_TEXT = -3;
    public static final int TOO_MANY = -4;
    public static final int NOT_POSSIBLE = -5;
    public static final int NONE = -6;
    public static final int LEAD_IN = 0, LEAD_OUT = 1;
    public static final int OPEN = 0, CLOSED = 1, BROKEN = 2;

    private static final int SECTORS = 240;
    private static final int SESSIONS = 12;
    private static final int NAMES = 20;
    private static final int LARGEST_FILE = 40;

    private static final int SETTINGS = 2;
    private static final int FIRST_LEAD_IN = 4;
    private static final int FIRST_LEAD_OUT = 3;
    private static final int SMALLEST_LEAD_IN = 2;
    private static final int SMALLEST_LEAD_OUT = 1;
    private static final int LARGEST_LEAD = 9;

    private static final int EMPTY_TABLE = 0;
    private static final int COPIED_TABLE = 1;

    private static final int UNUSED = 0;
    private static final int USED_FOR_LEAD_IN = 1;
    private static final int USED_FOR_LEAD_OUT = 2;
    private static final int USED_FOR_FILE = 3;

    private static final int TEXT_ROOM = 80;
    private static final int FIRST_CHARACTER = 32;
    private static final int LAST_CHARACTER = 126;

    private static final int HISTORY_ROOM = 4;
    private static final int HISTORY_SLOTS = HISTORY_ROOM + 1;

    /** No sector at all, where a question is asked about the disc as it is. */
    private static final int NO_SECTOR = -1;

    private final Disc disc = new Disc();
    private final History history = new History();
    private final CommandText text = new CommandText();

    public WriteOnceDisc() {
    }

    // ---- sessions

    public int begin(int mode) {
        history.sketch(disc);
        return recorded(disc.beginSession(mode));
    }

    public int write(int name, int size) {
        history.sketch(disc);
        return recorded(disc.writeFile(name, size));
    }

    public int remove(int name) {
        history.sketch(disc);
        return recorded(disc.removeEntry(name));
    }

    public int keep(int name, int session) {
        history.sketch(disc);
        return recorded(disc.keepEntry(name, session));
    }

    public int close() {
        history.sketch(disc);
        return recorded(disc.closeSession());
    }

    public int eject() {
        history.sketch(disc);
        return recorded(disc.breakSession());
    }

    public int repair(int session) {
        history.sketch(disc);
        return recorded(disc.repairSession(session));
    }

    public int damage(int sector) {
        history.sketch(disc);
        return recorded(disc.damageSector(sector));
    }

    public int set(int setting, int value) {
        history.sketch(disc);
        return recorded(disc.changeSetting(setting, value));
    }

    // ---- text and history

    public int append(int character) {
        if (character < FIRST_CHARACTER || character > LAST_CHARACTER) {
            return BAD_VALUE;
        }
        return text.addSign((char) character) ? text.length : TOO_MANY;
    }

    public int clearText() {
        int length = text.length;
        text.length = 0;
        return length;
    }

    public int fault() {
        return text.firstFault();
    }

    public int run() {
        if (text.firstFault() != NONE) {
            return BAD_TEXT;
        }
        history.sketch(disc);
        int done = 0;
        text.at = 0;
        for (int turn = 0; turn < TEXT_ROOM && text.readCommand(); turn++) {
            if (isError(executeCommand())) {
                return recorded(done);
            }
            done++;
            text.readSign(';');
        }
        return recorded(done);
    }

    public int undo() {
        return history.takeBack(disc) ? history.held : NONE;
    }

    // ---- sessions and tables

    public int sessions() {
        return disc.begun;
    }

    public int session(int session, int what) {
        Session asked = disc.sessionAt(session);
        if (asked == null) {
            return NO_SUCH;
        }
        switch (what) {
            case 0: return asked.status;
            case 1: return asked.first;
            case 2: return asked.end - asked.first;
            case 3: return asked.leadIn;
            case 4: return asked.leadOut;
            case 5: return asked.countEntries();
            case 6: return disc.isReadableIf(asked, NO_SECTOR) ? 1 : 0;
            case 7: return asked.written;
            default: return BAD_VALUE;
        }
    }

    public int entry(int session, int name, int what) {
        Session asked = disc.sessionAt(session);
        if (asked == null || !isName(name)) {
            return NO_SUCH;
        }
        if (what < 0 || what > 2) {
            return BAD_VALUE;
        }
        StoredFile file = asked.fileOf(name);
        if (file == null) {
            return NONE;
        }
        switch (what) {
            case 0: return file.first;
            case 1: return file.size;
            default: return file.session;
        }
    }

    public int valid() {
        return disc.validNumberIf(NO_SECTOR);
    }

    public int next() {
        return disc.nextSector;
    }

    public int damaged(int sector) {
        if (!isSector(sector)) {
            return NO_SUCH;
        }
        return disc.damage[sector] ? 1 : 0;
    }

    public int use(int sector) {
        return isSector(sector) ? disc.useOf(sector) : NO_SUCH;
    }

    public int setting(int setting) {
        return isSetting(setting) ? disc.settings[setting] : NO_SUCH;
    }

    // ---- files

    public int find(int name) {
        if (!isName(name)) {
            return NO_SUCH;
        }
        StoredFile file = disc.foundFile(name);
        return file == null ? NONE : file.first;
    }

    public int intact(int name) {
        if (!isName(name)) {
            return NO_SUCH;
        }
        StoredFile file = disc.foundFile(name);
        if (file == null) {
            return NONE;
        }
        return disc.isIntactIf(file, NO_SECTOR) ? 1 : 0;
    }

    public int intactFiles() {
        return disc.countIntactIf(NO_SECTOR);
    }

    public int versions(int name) {
        return isName(name) ? disc.versionsWritten[name] : NO_SUCH;
    }

    public int latestIntact(int name) {
        return isName(name) ? disc.latestWithIntact(name) : NO_SUCH;
    }

    public int lost() {
        return disc.nextSector - disc.countFoundSectors();
    }

    public float usedWell() {
        if (disc.nextSector == 0) {
            return 1.0f;
        }
        return (float) disc.countFoundSectors() / (float) disc.nextSector;
    }

    // ---- what would be

    public int largest() {
        return Math.min(disc.roomForFiles(), LARGEST_FILE);
    }

    public int filesLeft(int size) {
        return isFileSize(size) ? disc.roomForFiles() / size : BAD_VALUE;
    }

    public int filesEach(int size) {
        return isFileSize(size) ? disc.sessionsOfOneFile(size) : BAD_VALUE;
    }

    public int validIf(int sector) {
        return isSector(sector) ? disc.validNumberIf(sector) : NO_SUCH;
    }

    public int worstSector() {
        return disc.mostHarmfulSector();
    }

    // ---- helpers

    /** Records the sketched state if the action behind the answer went well, and passes the answer on. */
    private int recorded(int answer) {
        if (!isError(answer)) {
            history.recordSketch();
        }
        return answer;
    }

    private int executeCommand() {
        switch (text.letter) {
            case 'b': return disc.beginSession(text.firstNumber);
            case 'w': return disc.writeFile(text.firstNumber, text.secondNumber);
            case 'r': return disc.removeEntry(text.firstNumber);
            case 'k': return disc.keepEntry(text.firstNumber, text.secondNumber);
            case 'c': return disc.closeSession();
            case 'e': return disc.breakSession();
            case 'd': return disc.damageSector(text.firstNumber);
            default: return BAD_VALUE;
        }
    }

    private static boolean isError(int answer) {
        return answer >= NOT_POSSIBLE && answer <= NO_SUCH;
    }

    private static boolean isName(int name) {
        return name >= 0 && name < NAMES;
    }

    private static boolean isSector(int sector) {
        return sector >= 0 && sector < SECTORS;
    }

    private static boolean isFileSize(int size) {
        return size >= 1 && size <= LARGEST_FILE;
    }

    private static boolean isSetting(int setting) {
        return setting == LEAD_IN || setting == LEAD_OUT;
    }

    /** A file as it was written once; it never changes, so tables and recorded states share it. */
    private static final class StoredFile {
        final int first;
        final int size;
        final int session;

        StoredFile(int first, int size, int session) {
            this.first = first;
            this.size = size;
            this.session = session;
        }
    }

    /** A session with its table of contents; a name without an entry has null there. */
    private static final class Session {
        final StoredFile[] table = new StoredFile[NAMES];
        int status;
        int first;
        int end;
        int leadIn;
        int leadOut;
        int written;

        void startAt(int sector, int leadInSize, int leadOutSize) {
            status = OPEN;
            first = sector;
            end = sector + leadInSize;
            leadIn = leadInSize;
            leadOut = leadOutSize;
            written = 0;
            for (int name = 0; name < NAMES; name++) {
                table[name] = null;
            }
        }

        void copyTable(Session other) {
            for (int name = 0; name < NAMES; name++) {
                table[name] = other.table[name];
            }
        }

        void copyAll(Session other) {
            status = other.status;
            first = other.first;
            end = other.end;
            leadIn = other.leadIn;
            leadOut = other.leadOut;
            written = other.written;
            copyTable(other);
        }

        StoredFile fileOf(int name) {
            return isName(name) ? table[name] : null;
        }

        void putFile(int name, StoredFile file) {
            if (isName(name)) {
                table[name] = file;
            }
        }

        int countEntries() {
            int entries = 0;
            for (int name = 0; name < NAMES; name++) {
                if (table[name] != null) {
                    entries++;
                }
            }
            return entries;
        }

        boolean hasTaken(int sector) {
            return sector >= first && sector < end;
        }

        int useOf(int sector) {
            if (sector < first + leadIn) {
                return USED_FOR_LEAD_IN;
            }
            if (status == CLOSED && sector >= end - leadOut) {
                return USED_FOR_LEAD_OUT;
            }
            return USED_FOR_FILE;
        }
    }

    /**
     * The state that undo restores: sectors, sessions, damage and settings.
     * Its actions change nothing if they answer an error code.
     */
    private static final class Disc {
        final Session[] sessions = new Session[SESSIONS];
        final boolean[] damage = new boolean[SECTORS];
        final int[] versionsWritten = new int[NAMES];
        final int[] settings = new int[SETTINGS];
        int begun;
        int nextSector;
        int damagedSectors;

        Disc() {
            settings[LEAD_IN] = FIRST_LEAD_IN;
            settings[LEAD_OUT] = FIRST_LEAD_OUT;
            for (int number = 0; number < SESSIONS; number++) {
                sessions[number] = new Session();
            }
        }

        void copyAll(Disc other) {
            begun = other.begun;
            nextSector = other.nextSector;
            damagedSectors = other.damagedSectors;
            for (int number = 0; number < SESSIONS && number < begun; number++) {
                sessions[number].copyAll(other.sessions[number]);
            }
            for (int sector = 0; sector < SECTORS; sector++) {
                damage[sector] = other.damage[sector];
            }
            for (int name = 0; name < NAMES; name++) {
                versionsWritten[name] = other.versionsWritten[name];
            }
            for (int setting = 0; setting < SETTINGS; setting++) {
                settings[setting] = other.settings[setting];
            }
        }

        // -- actions

        int beginSession(int mode) {
            if (mode != EMPTY_TABLE && mode != COPIED_TABLE) {
                return BAD_VALUE;
            }
            if (openSession() != null) {
                return NOT_POSSIBLE;
            }
            int leads = settings[LEAD_IN] + settings[LEAD_OUT];
            Session fresh = freshSession();
            if (fresh == null || nextSector + leads > SECTORS) {
                return TOO_MANY;
            }
            Session valid = sessionAt(validNumberIf(NO_SECTOR));
            fresh.startAt(nextSector, settings[LEAD_IN], settings[LEAD_OUT]);
            if (mode == COPIED_TABLE && valid != null) {
                fresh.copyTable(valid);
            }
            nextSector = fresh.end;
            begun++;
            return begun - 1;
        }

        int writeFile(int name, int size) {
            if (!isName(name)) {
                return NO_SUCH;
            }
            if (!isFileSize(size)) {
                return BAD_VALUE;
            }
            Session open = openSession();
            if (open == null) {
                return NOT_POSSIBLE;
            }
            if (size > roomForFiles()) {
                return TOO_MANY;
            }
            StoredFile file = new StoredFile(nextSector, size, begun - 1);
            open.putFile(name, file);
            open.written++;
            versionsWritten[name]++;
            nextSector += size;
            open.end = nextSector;
            return file.first;
        }

        int removeEntry(int name) {
            if (!isName(name)) {
                return NO_SUCH;
            }
            Session open = openSession();
            if (open == null || open.fileOf(name) == null) {
                return NOT_POSSIBLE;
            }
            open.putFile(name, null);
            return open.countEntries();
        }

        int keepEntry(int name, int session) {
            Session other = sessionAt(session);
            if (!isName(name) || other == null) {
                return NO_SUCH;
            }
            Session open = openSession();
            if (open == null || !isReadableIf(other, NO_SECTOR)) {
                return NOT_POSSIBLE;
            }
            StoredFile file = other.fileOf(name);
            if (file == null) {
                return NOT_POSSIBLE;
            }
            open.putFile(name, file);
            return file.first;
        }

        int closeSession() {
            Session open = openSession();
            return open == null ? NOT_POSSIBLE : leadOutOf(open);
        }

        int breakSession() {
            Session open = openSession();
            if (open == null) {
                return 0;
            }
            open.status = BROKEN;
            return 1;
        }

        int repairSession(int session) {
            Session asked = sessionAt(session);
            if (asked == null) {
                return NO_SUCH;
            }
            boolean isLast = session == begun - 1;
            if (asked.status != BROKEN || !isLast || !areWholeIf(asked.first, asked.leadIn, NO_SECTOR)) {
                return NOT_POSSIBLE;
            }
            return leadOutOf(asked);
        }

        int damageSector(int sector) {
            if (!isSector(sector)) {
                return NO_SUCH;
            }
            if (!damage[sector]) {
                damage[sector] = true;
                damagedSectors++;
            }
            return damagedSectors;
        }

        int changeSetting(int setting, int value) {
            if (!isSetting(setting)) {
                return NO_SUCH;
            }
            int smallest = setting == LEAD_IN ? SMALLEST_LEAD_IN : SMALLEST_LEAD_OUT;
            if (value < smallest || value > LARGEST_LEAD) {
                return BAD_VALUE;
            }
            int previous = settings[setting];
            settings[setting] = value;
            return previous;
        }

        /** Closes the last session; begin and write left room for its lead-out, and nothing stands behind. */
        private int leadOutOf(Session last) {
            nextSector += last.leadOut;
            last.end = nextSector;
            last.status = CLOSED;
            return nextSector;
        }

        // -- sessions

        Session sessionAt(int number) {
            return number >= 0 && number < begun && number < SESSIONS ? sessions[number] : null;
        }

        /** The session that begin takes next; null if all have been begun. */
        private Session freshSession() {
            return begun >= 0 && begun < SESSIONS ? sessions[begun] : null;
        }

        Session openSession() {
            Session last = sessionAt(begun - 1);
            return last != null && last.status == OPEN ? last : null;
        }

        /** The valid session, or NONE, if a sector were damaged besides those that are. */
        int validNumberIf(int sector) {
            for (int number = begun - 1; number >= 0; number--) {
                Session session = sessionAt(number);
                if (session != null && isReadableIf(session, sector)) {
                    return number;
                }
            }
            return NONE;
        }

        boolean isReadableIf(Session session, int sector) {
            return session.status == CLOSED && areWholeIf(session.first, session.leadIn, sector);
        }

        // -- sectors

        /** Whether none of count sectors from first on is damaged, nor the one that would be hurt. */
        private boolean areWholeIf(int first, int count, int hurt) {
            int end = Math.min(first + count, SECTORS);
            for (int sector = Math.max(first, 0); sector < end; sector++) {
                if (sector == hurt || damage[sector]) {
                    return false;
                }
            }
            return true;
        }

        int useOf(int sector) {
            for (int number = 0; number < begun; number++) {
                Session session = sessionAt(number);
                if (session != null && session.hasTaken(sector)) {
                    return session.useOf(sector);
                }
            }
            return UNUSED;
        }

        // -- files

        boolean isIntactIf(StoredFile file, int sector) {
            return areWholeIf(file.first, file.size, sector);
        }

        StoredFile foundFile(int name) {
            Session valid = sessionAt(validNumberIf(NO_SECTOR));
            return valid == null ? null : valid.fileOf(name);
        }

        /** The files that could be found and were intact if a sector were damaged. */
        int countIntactIf(int sector) {
            Session valid = sessionAt(validNumberIf(sector));
            if (valid == null) {
                return 0;
            }
            int files = 0;
            for (int name = 0; name < NAMES; name++) {
                StoredFile file = valid.fileOf(name);
                if (file != null && isIntactIf(file, sector)) {
                    files++;
                }
            }
            return files;
        }

        int latestWithIntact(int name) {
            for (int number = begun - 1; number >= 0; number--) {
                Session session = sessionAt(number);
                if (session != null && isReadableIf(session, NO_SECTOR)) {
                    StoredFile file = session.fileOf(name);
                    if (file != null && isIntactIf(file, NO_SECTOR)) {
                        return number;
                    }
                }
            }
            return NONE;
        }

        /** Sizes may be added: each name has files of its own, so no sector belongs to two found files. */
        int countFoundSectors() {
            Session valid = sessionAt(validNumberIf(NO_SECTOR));
            if (valid == null) {
                return 0;
            }
            int sectors = 0;
            for (int name = 0; name < NAMES; name++) {
                StoredFile file = valid.fileOf(name);
                sectors += file == null ? 0 : file.size;
            }
            return sectors;
        }

        // -- what would be

        /** The sectors for files in the open session or, if none is open, in a new one. */
        int roomForFiles() {
            Session open = openSession();
            if (open != null) {
                return Math.max(SECTORS - nextSector - open.leadOut, 0);
            }
            if (begun >= SESSIONS) {
                return 0;
            }
            return Math.max(SECTORS - nextSector - settings[LEAD_IN] - settings[LEAD_OUT], 0);
        }

        int sessionsOfOneFile(int size) {
            int files = 0;
            int end = nextSector;
            Session open = openSession();
            if (open != null) {
                end += size + open.leadOut;
                if (end > SECTORS) {
                    return 0;
                }
                files = 1;
            }
            int each = settings[LEAD_IN] + size + settings[LEAD_OUT];
            for (int number = begun; number < SESSIONS && end + each <= SECTORS; number++) {
                end += each;
                files++;
            }
            return files;
        }

        /**
         * Every sector of the valid lead-in harms as its first one does, and every sector of a found file
         * as the file's first one; all others harm nothing, and sector 0 never harms less than that.
         * So these few sectors are all that need to be tried.
         */
        int mostHarmfulSector() {
            Session valid = sessionAt(validNumberIf(NO_SECTOR));
            if (valid == null) {
                return 0;
            }
            int worst = moreHarmful(0, valid.first);
            for (int name = 0; name < NAMES; name++) {
                StoredFile file = valid.fileOf(name);
                if (file != null) {
                    worst = moreHarmful(worst, file.first);
                }
            }
            return worst;
        }

        /** The one whose damage would leave fewer intact files; the lower one if both leave as many. */
        private int moreHarmful(int one, int other) {
            int leftByOne = countIntactIf(one);
            int leftByOther = countIntactIf(other);
            if (leftByOne == leftByOther) {
                return Math.min(one, other);
            }
            return leftByOne < leftByOther ? one : other;
        }
    }

    /**
     * The states before the latest actions, in a ring. The slot behind the held ones takes a sketch,
     * which is recorded only when its action has gone well.
     */
    private static final class History {
        final Disc[] slots = new Disc[HISTORY_SLOTS];
        int oldest;
        int held;

        History() {
            for (int slot = 0; slot < HISTORY_SLOTS; slot++) {
                slots[slot] = new Disc();
            }
        }

        private Disc slotBehindHeld() {
            return slots[Math.floorMod(oldest + held, HISTORY_SLOTS)];
        }

        void sketch(Disc now) {
            slotBehindHeld().copyAll(now);
        }

        void recordSketch() {
            if (held < HISTORY_ROOM) {
                held++;
            } else {
                oldest = (oldest + 1) % HISTORY_SLOTS;
            }
        }

        boolean takeBack(Disc now) {
            if (held == 0) {
                return false;
            }
            held--;
            now.copyAll(slotBehindHeld());
            return true;
        }
    }

    /** The text, and a reader that stops at the first sign that no text could have there. */
    private static final class CommandText {
        final char[] signs = new char[TEXT_ROOM];
        int length;
        int at;
        int letter;
        int firstNumber;
        int secondNumber;

        boolean addSign(char sign) {
            if (length < 0 || length >= TEXT_ROOM) {
                return false;
            }
            signs[length] = sign;
            length++;
            return true;
        }

        int firstFault() {
            at = 0;
            for (int turn = 0; turn < TEXT_ROOM && readCommand(); turn++) {
                if (at >= length) {
                    return NONE;
                }
                if (!readSign(';')) {
                    return at;
                }
            }
            return at;
        }

        /** Reads a command into letter and numbers; answers false, at the fault, if none stands here. */
        boolean readCommand() {
            letter = signAt();
            switch (letter) {
                case 'b':
                    at++;
                    return readFirst(COPIED_TABLE);
                case 'w':
                    at++;
                    return readFirst(NAMES - 1) && readSign('=') && readSecond(1, LARGEST_FILE);
                case 'r':
                    at++;
                    return readFirst(NAMES - 1);
                case 'k':
                    at++;
                    return readFirst(NAMES - 1) && readSign('.') && readSecond(0, SESSIONS - 1);
                case 'd':
                    at++;
                    return readFirst(SECTORS - 1);
                case 'c':
                case 'e':
                    at++;
                    return true;
                default:
                    return false;
            }
        }

        boolean readSign(char sign) {
            if (signAt() != sign) {
                return false;
            }
            at++;
            return true;
        }

        private boolean readFirst(int most) {
            firstNumber = readNumber(0, most);
            return firstNumber != NONE;
        }

        private boolean readSecond(int least, int most) {
            secondNumber = readNumber(least, most);
            return secondNumber != NONE;
        }

        /** Takes digits while the number stays up to most; the next reading stops at a digit too many. */
        private int readNumber(int least, int most) {
            int number = digitAt();
            if (number < least || number > most) {
                return NONE;
            }
            at++;
            for (int turn = 0; turn < TEXT_ROOM && number > 0; turn++) {
                int digit = digitAt();
                if (digit < 0 || number * 10 + digit > most) {
                    return number;
                }
                number = number * 10 + digit;
                at++;
            }
            return number;
        }

        private int digitAt() {
            int sign = signAt();
            return sign >= '0' && sign <= '9' ? sign - '0' : NONE;
        }

        /** The sign at the place of reading; NONE behind the last one. */
        private int signAt() {
            return at >= 0 && at < length && at < TEXT_ROOM ? signs[at] : NONE;
        }
    }
}
