import java.util.ArrayList;
import java.util.HashSet;
import java.util.List;
import java.util.Map;
import java.util.Set;
import java.util.TreeMap;
import java.util.regex.Matcher;
import java.util.regex.Pattern;

/**
 * A second reading of the document, as plain as can be: each sector knows what took it, each action
 * works on a fresh copy of the state, and each question is answered by trying everything.
 */
final class Model {
    private static final int NO_SUCH = -1;
    private static final int BAD_VALUE = -2;
    private static final int BAD_TEXT = -3;
    private static final int TOO_MANY = -4;
    private static final int NOT_POSSIBLE = -5;
    private static final int NONE = -6;

    private static final String NAME = "(1[0-9]|[0-9])";
    private static final String SIZE = "(40|[123][0-9]|[1-9])";
    private static final String SESSION = "(1[01]|[0-9])";
    private static final String SECTOR = "(2[0-3][0-9]|1[0-9][0-9]|[1-9][0-9]|[0-9])";
    private static final String COMMAND = "(b[01]|w" + NAME + "=" + SIZE + "|r" + NAME
        + "|k" + NAME + "\\." + SESSION + "|c|e|d" + SECTOR + ")";
    private static final Pattern TEXT = Pattern.compile(COMMAND + "(;" + COMMAND + ")*");

    /** What one sector was taken for: 1 lead-in, 2 lead-out, 3 file. */
    private record Taken(int session, int kind, int file) { }

    private record Stored(int first, int size, int session, int name) { }

    private static final class Session {
        int status;
        int leadIn;
        int leadOut;
        Map<Integer, Stored> table = new TreeMap<>();

        Session copy() {
            Session copy = new Session();
            copy.status = status;
            copy.leadIn = leadIn;
            copy.leadOut = leadOut;
            copy.table = new TreeMap<>(table);
            return copy;
        }
    }

    private static final class State {
        final List<Taken> taken = new ArrayList<>();
        final List<Session> sessions = new ArrayList<>();
        final List<Stored> files = new ArrayList<>();
        final Set<Integer> damaged = new HashSet<>();
        final int[] settings = {4, 3};

        State copy() {
            State copy = new State();
            copy.taken.addAll(taken);
            for (Session session : sessions) {
                copy.sessions.add(session.copy());
            }
            copy.files.addAll(files);
            copy.damaged.addAll(damaged);
            copy.settings[0] = settings[0];
            copy.settings[1] = settings[1];
            return copy;
        }

        void take(int count, int kind) {
            for (int i = 0; i < count; i++) {
                taken.add(new Taken(sessions.size() - 1, kind, files.size() - 1));
            }
        }

        Session last() {
            return sessions.isEmpty() ? null : sessions.get(sessions.size() - 1);
        }

        Session open() {
            return last() != null && last().status == 0 ? last() : null;
        }

        boolean leadInWhole(int number) {
            for (int sector : damaged) {
                if (sector < taken.size() && taken.get(sector).session == number && taken.get(sector).kind == 1) {
                    return false;
                }
            }
            return true;
        }

        boolean readable(int number) {
            return sessions.get(number).status == 1 && leadInWhole(number);
        }

        int valid() {
            int valid = NONE;
            for (int number = 0; number < sessions.size(); number++) {
                if (readable(number)) {
                    valid = number;
                }
            }
            return valid;
        }

        Map<Integer, Stored> found() {
            return valid() == NONE ? Map.of() : sessions.get(valid()).table;
        }

        boolean whole(Stored file) {
            for (int sector : damaged) {
                if (sector < taken.size() && taken.get(sector).kind == 3 && files.get(taken.get(sector).file) == file) {
                    return false;
                }
            }
            return true;
        }

        int intactFiles() {
            int count = 0;
            for (Stored file : found().values()) {
                count += whole(file) ? 1 : 0;
            }
            return count;
        }

        State with(int sector) {
            State copy = copy();
            copy.damaged.add(sector);
            return copy;
        }
    }

    private State now = new State();
    private final List<State> history = new ArrayList<>();
    private String text = "";

    private static boolean name(int name) {
        return name >= 0 && name <= 19;
    }

    private boolean session(int session) {
        return session >= 0 && session < now.sessions.size();
    }

    // ---- actions

    /** Carries out an action by its name; records the state before it if it answers no error code. */
    int act(String action, int a, int b) {
        State before = now.copy();
        int answer = apply(action, a, b);
        if (answer >= 0) {
            history.add(before);
            if (history.size() > 4) {
                history.remove(0);
            }
        }
        return answer;
    }

    private int apply(String action, int a, int b) {
        switch (action) {
            case "begin": return begin(a);
            case "write": return write(a, b);
            case "remove": return remove(a);
            case "keep": return keep(a, b);
            case "close": return close();
            case "eject": return eject();
            case "repair": return repair(a);
            case "damage": return damage(a);
            case "set": return set(a, b);
            case "run": return run();
            default: throw new IllegalArgumentException(action);
        }
    }

    private int begin(int mode) {
        if (mode != 0 && mode != 1) {
            return BAD_VALUE;
        }
        if (now.open() != null) {
            return NOT_POSSIBLE;
        }
        if (now.sessions.size() == 12 || now.taken.size() + now.settings[0] + now.settings[1] > 240) {
            return TOO_MANY;
        }
        Session fresh = new Session();
        fresh.leadIn = now.settings[0];
        fresh.leadOut = now.settings[1];
        if (mode == 1) {
            fresh.table.putAll(now.found());
        }
        now.sessions.add(fresh);
        now.take(fresh.leadIn, 1);
        return now.sessions.size() - 1;
    }

    private int write(int name, int size) {
        if (!name(name)) {
            return NO_SUCH;
        }
        if (size < 1 || size > 40) {
            return BAD_VALUE;
        }
        Session open = now.open();
        if (open == null) {
            return NOT_POSSIBLE;
        }
        if (now.taken.size() + size + open.leadOut > 240) {
            return TOO_MANY;
        }
        Stored file = new Stored(now.taken.size(), size, now.sessions.size() - 1, name);
        now.files.add(file);
        open.table.put(name, file);
        now.take(size, 3);
        return file.first;
    }

    private int remove(int name) {
        if (!name(name)) {
            return NO_SUCH;
        }
        if (now.open() == null || now.open().table.remove(name) == null) {
            return NOT_POSSIBLE;
        }
        return now.open().table.size();
    }

    private int keep(int name, int session) {
        if (!name(name) || !session(session)) {
            return NO_SUCH;
        }
        if (now.open() == null || !now.readable(session) || !now.sessions.get(session).table.containsKey(name)) {
            return NOT_POSSIBLE;
        }
        now.open().table.put(name, now.sessions.get(session).table.get(name));
        return now.open().table.get(name).first;
    }

    private int close() {
        if (now.open() == null) {
            return NOT_POSSIBLE;
        }
        now.take(now.open().leadOut, 2);
        now.open().status = 1;
        return now.taken.size();
    }

    private int eject() {
        if (now.open() == null) {
            return 0;
        }
        now.open().status = 2;
        return 1;
    }

    private int repair(int session) {
        if (!session(session)) {
            return NO_SUCH;
        }
        boolean broken = now.sessions.get(session).status == 2;
        if (!broken || session != now.sessions.size() - 1 || !now.leadInWhole(session)) {
            return NOT_POSSIBLE;
        }
        now.take(now.last().leadOut, 2);
        now.last().status = 1;
        return now.taken.size();
    }

    private int damage(int sector) {
        if (sector < 0 || sector > 239) {
            return NO_SUCH;
        }
        now.damaged.add(sector);
        return now.damaged.size();
    }

    private int set(int setting, int value) {
        if (setting < 0 || setting > 1) {
            return NO_SUCH;
        }
        if (value < (setting == 0 ? 2 : 1) || value > 9) {
            return BAD_VALUE;
        }
        int previous = now.settings[setting];
        now.settings[setting] = value;
        return previous;
    }

    private int run() {
        if (fault() != NONE) {
            return BAD_TEXT;
        }
        int done = 0;
        for (String command : text.split(";")) {
            String[] parts = command.substring(1).split("[=.]");
            int a = parts[0].isEmpty() ? 0 : Integer.parseInt(parts[0]);
            int b = parts.length < 2 ? 0 : Integer.parseInt(parts[1]);
            String[] names = {"begin", "write", "remove", "keep", "close", "eject", "damage"};
            if (apply(names["bwrkced".indexOf(command.charAt(0))], a, b) < 0) {
                return done;
            }
            done++;
        }
        return done;
    }

    int undo() {
        if (history.isEmpty()) {
            return NONE;
        }
        now = history.remove(history.size() - 1);
        return history.size();
    }

    // ---- text

    int append(int character) {
        if (character < 32 || character > 126) {
            return BAD_VALUE;
        }
        if (text.length() == 80) {
            return TOO_MANY;
        }
        text += (char) character;
        return text.length();
    }

    int clearText() {
        int length = text.length();
        text = "";
        return length;
    }

    /** A text can begin with some characters if they match, or if the match fails only for want of more. */
    int fault() {
        for (int end = 1; end <= text.length(); end++) {
            Matcher matcher = TEXT.matcher(text.substring(0, end));
            if (!matcher.matches() && !matcher.hitEnd()) {
                return end - 1;
            }
        }
        return TEXT.matcher(text).matches() ? NONE : text.length();
    }

    // ---- sessions and tables

    int sessions() {
        return now.sessions.size();
    }

    int session(int session, int what) {
        if (!session(session)) {
            return NO_SUCH;
        }
        Session asked = now.sessions.get(session);
        int first = 0;
        int sectors = 0;
        for (Taken sector : now.taken) {
            first += sector.session < session ? 1 : 0;
            sectors += sector.session == session ? 1 : 0;
        }
        int written = 0;
        for (Stored file : now.files) {
            written += file.session == session ? 1 : 0;
        }
        int readable = now.readable(session) ? 1 : 0;
        int[] row = {asked.status, first, sectors, asked.leadIn, asked.leadOut, asked.table.size(), readable, written};
        return what < 0 || what > 7 ? BAD_VALUE : row[what];
    }

    int entry(int session, int name, int what) {
        if (!session(session) || !name(name)) {
            return NO_SUCH;
        }
        if (what < 0 || what > 2) {
            return BAD_VALUE;
        }
        Stored file = now.sessions.get(session).table.get(name);
        return file == null ? NONE : new int[] {file.first, file.size, file.session}[what];
    }

    int valid() {
        return now.valid();
    }

    int next() {
        return now.taken.size();
    }

    int damaged(int sector) {
        return sector < 0 || sector > 239 ? NO_SUCH : now.damaged.contains(sector) ? 1 : 0;
    }

    int use(int sector) {
        return sector < 0 || sector > 239 ? NO_SUCH : sector < now.taken.size() ? now.taken.get(sector).kind : 0;
    }

    int setting(int setting) {
        return setting < 0 || setting > 1 ? NO_SUCH : now.settings[setting];
    }

    // ---- files

    int find(int name) {
        Stored file = now.found().get(name);
        return !name(name) ? NO_SUCH : file == null ? NONE : file.first;
    }

    int intact(int name) {
        Stored file = now.found().get(name);
        return !name(name) ? NO_SUCH : file == null ? NONE : now.whole(file) ? 1 : 0;
    }

    int intactFiles() {
        return now.intactFiles();
    }

    int versions(int name) {
        int count = 0;
        for (Stored file : now.files) {
            count += file.name == name ? 1 : 0;
        }
        return name(name) ? count : NO_SUCH;
    }

    int latestIntact(int name) {
        int latest = NONE;
        for (int number = 0; number < now.sessions.size(); number++) {
            Stored file = now.sessions.get(number).table.get(name);
            if (now.readable(number) && file != null && now.whole(file)) {
                latest = number;
            }
        }
        return name(name) ? latest : NO_SUCH;
    }

    private int foundSectors() {
        int count = 0;
        for (Taken sector : now.taken) {
            count += sector.kind == 3 && now.found().containsValue(now.files.get(sector.file)) ? 1 : 0;
        }
        return count;
    }

    int lost() {
        return now.taken.size() - foundSectors();
    }

    float usedWell() {
        return now.taken.isEmpty() ? 1.0f : (float) foundSectors() / (float) now.taken.size();
    }

    // ---- what would be: tried out on a copy

    private Model trial() {
        Model trial = new Model();
        trial.now = now.copy();
        if (trial.now.open() == null) {
            trial.begin(0);
        }
        return trial;
    }

    int largest() {
        int largest = 0;
        for (int size = 1; size <= 40; size++) {
            largest = trial().write(0, size) >= 0 ? size : largest;
        }
        return largest;
    }

    int filesLeft(int size) {
        if (size < 1 || size > 40) {
            return BAD_VALUE;
        }
        Model trial = trial();
        int files = 0;
        while (trial.write(0, size) >= 0) {
            files++;
        }
        return files;
    }

    int filesEach(int size) {
        if (size < 1 || size > 40) {
            return BAD_VALUE;
        }
        Model trial = trial();
        int files = 0;
        while (trial.write(0, size) >= 0) {
            files++;
            trial.close();
            trial.begin(0);
        }
        return files;
    }

    int validIf(int sector) {
        return sector < 0 || sector > 239 ? NO_SUCH : now.with(sector).valid();
    }

    int worstSector() {
        int worst = 0;
        int least = Integer.MAX_VALUE;
        for (int sector = 0; sector < 240; sector++) {
            int left = now.with(sector).intactFiles();
            if (left < least) {
                least = left;
                worst = sector;
            }
        }
        return worst;
    }
}
