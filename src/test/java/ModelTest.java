/**
 * Long runs of calls on fresh objects, each answer compared with the model's. A run has as many calls as the
 * document promises, and is the same each time.
 */
public final class ModelTest {
    private static final Due due = new Due();
    private static final int RUNS = 1500;
    private static final int CALLS = 512;
    /** The calls that a new text takes: clearText, fault, and an append per character; and run behind it. */
    private static final int LONGEST_TEXT = 80 + 3;

    private static final String[] ACTIONS = {
        "begin", "write", "remove", "keep", "close", "eject", "repair", "damage", "set", "run"};
    /** How likely each action is, per kind of run: a bit of all, many small sessions, much damage. */
    private static final int[][] WEIGHTS = {
        {6, 14, 2, 4, 5, 2, 2, 3, 3, 3}, {10, 6, 1, 3, 9, 2, 2, 1, 3, 1}, {6, 10, 1, 3, 5, 2, 3, 9, 1, 3}};

    private final WriteOnceDisc disc = new WriteOnceDisc();
    private final Model model = new Model();
    private final int run;
    private long seed;
    private int calls;

    private ModelTest(int run) {
        this.run = run;
        this.seed = 77L + 1000003L * run;
    }

    /** A number from low to high, by a fixed rule: the same in every run of this test. */
    private int number(int low, int high) {
        seed = seed * 6364136223846793005L + 1442695040888963407L;
        return low + (int) ((seed >>> 33) % (high - low + 1));
    }

    private void countCall() {
        calls++;
        if (calls > CALLS) {
            throw new IllegalStateException("more calls than the document promises");
        }
    }

    private void same(String call, int got, int want) {
        countCall();
        if (got != want) {
            due.same("run " + run + ", call " + calls + ": " + call, got, want);
        }
    }

    private void sameOf(String method, int a, int b, int got, int want) {
        countCall();
        if (got != want) {
            due.same("run " + run + ", call " + calls + ": " + method + " of " + a + ", " + b, got, want);
        }
    }

    private String action() {
        int[] weights = WEIGHTS[run % WEIGHTS.length];
        int total = 0;
        for (int weight : weights) {
            total += weight;
        }
        int place = number(0, total - 1);
        for (int i = 0; i < weights.length; i++) {
            place -= weights[i];
            if (place < 0) {
                return ACTIONS[i];
            }
        }
        return ACTIONS[0];
    }

    private int callAction(String action, int a, int b) {
        switch (action) {
            case "begin": return disc.begin(a);
            case "write": return disc.write(a, b);
            case "remove": return disc.remove(a);
            case "keep": return disc.keep(a, b);
            case "close": return disc.close();
            case "eject": return disc.eject();
            case "repair": return disc.repair(a);
            case "damage": return disc.damage(a);
            case "set": return disc.set(a, b);
            default: return disc.run();
        }
    }

    private int firstArgument(String action) {
        if (number(0, 40) == 0) {
            return number(0, 1) == 0 ? Integer.MIN_VALUE : Integer.MAX_VALUE;
        }
        switch (action) {
            case "begin": return number(0, 20) == 0 ? number(-1, 3) : number(0, 1);
            case "repair": return number(0, 3) == 0 ? number(-1, 12) : model.sessions() - 1;
            case "damage": return damageArgument();
            case "set": return number(0, 12) == 0 ? number(-1, 2) : number(0, 1);
            default: return number(0, 15) == 0 ? number(-2, 21) : number(0, 5);
        }
    }

    private int damageArgument() {
        int used = model.next();
        return used == 0 || number(0, 5) == 0 ? number(-1, 240) : number(0, used - 1);
    }

    private int secondArgument(String action) {
        if (number(0, 40) == 0) {
            return number(0, 1) == 0 ? Integer.MIN_VALUE : Integer.MAX_VALUE;
        }
        switch (action) {
            case "write": return number(0, 6) == 0 ? number(-1, 42) : number(1, run % 2 == 0 ? 7 : 20);
            case "set": return number(0, 11);
            default: return number(-1, model.sessions());
        }
    }

    private String command() {
        String[] kinds = {
            "b" + number(0, 1), "w" + number(0, 6) + "=" + number(1, 12), "r" + number(0, 6),
            "k" + number(0, 6) + "." + number(0, 4), "c", "e", "d" + number(0, 239),
            "w" + number(0, 20) + "=" + number(0, 44), "k" + number(0, 19) + "." + number(0, 13)};
        return kinds[number(0, number(0, 9) == 0 ? 8 : 6)];
    }

    /** A new text: commands, at times with a sign that is changed or left out. */
    private void newText() {
        same("clearText()", disc.clearText(), model.clearText());
        StringBuilder text = new StringBuilder(command());
        for (int more = number(0, 7); more > 0; more--) {
            text.append(';').append(command());
        }
        if (number(0, 2) == 0) {
            String signs = "bwrkced0123456789=.; x";
            text.setCharAt(number(0, text.length() - 1), signs.charAt(number(0, signs.length() - 1)));
        }
        if (number(0, 6) == 0) {
            text.deleteCharAt(number(0, text.length() - 1));
        }
        for (int i = 0; i < text.length(); i++) {
            same("append", disc.append(text.charAt(i)), model.append(text.charAt(i)));
        }
        same("fault() of " + text, disc.fault(), model.fault());
    }

    /** An argument that is mostly in its range or next to it, at times far out. */
    private int argument(int least, int greatest) {
        if (number(0, 60) == 0) {
            return number(0, 1) == 0 ? Integer.MIN_VALUE : Integer.MAX_VALUE;
        }
        return number(0, 8) == 0 ? number(least - 2, greatest + 2) : number(least, greatest);
    }

    private int sectorArgument() {
        return number(0, 2) == 0 ? argument(0, 239) : number(0, Math.min(model.next(), 239));
    }

    private int sessionArgument() {
        return argument(0, Math.max(model.sessions() - 1, 0));
    }

    private void ask() {
        switch (number(0, 4)) {
            case 0: askAboutSessions(); break;
            case 1: askAboutSectors(); break;
            case 2: askAboutFiles(); break;
            case 3: askAboutRoom(); break;
            default: askAboutDamage(); break;
        }
    }

    private void askAboutSessions() {
        int session = sessionArgument();
        int name = argument(0, number(0, 1) == 0 ? 5 : 19);
        int what = argument(0, number(0, 1) == 0 ? 2 : 7);
        switch (number(0, 5)) {
            case 0: same("sessions()", disc.sessions(), model.sessions()); break;
            case 1: same("next()", disc.next(), model.next()); break;
            case 2:
            case 3: sameOf("session", session, what, disc.session(session, what), model.session(session, what)); break;
            default:
                String call = "entry(" + session + ", " + name + ", " + what + ")";
                same(call, disc.entry(session, name, what), model.entry(session, name, what));
                break;
        }
    }

    private void askAboutSectors() {
        int sector = sectorArgument();
        int setting = argument(0, 1);
        switch (number(0, 4)) {
            case 0: sameOf("setting", setting, 0, disc.setting(setting), model.setting(setting)); break;
            case 1: sameOf("damaged", sector, 0, disc.damaged(sector), model.damaged(sector)); break;
            default: sameOf("use", sector, 0, disc.use(sector), model.use(sector)); break;
        }
    }

    private void askAboutFiles() {
        int name = argument(0, number(0, 1) == 0 ? 5 : 19);
        switch (number(0, 6)) {
            case 0: sameOf("find", name, 0, disc.find(name), model.find(name)); break;
            case 1: sameOf("intact", name, 0, disc.intact(name), model.intact(name)); break;
            case 2: sameOf("versions", name, 0, disc.versions(name), model.versions(name)); break;
            case 3: sameOf("latestIntact", name, 0, disc.latestIntact(name), model.latestIntact(name)); break;
            case 4: same("intactFiles()", disc.intactFiles(), model.intactFiles()); break;
            case 5: same("lost()", disc.lost(), model.lost()); break;
            default:
                countCall();
                due.sameFloat("run " + run + ": usedWell()", disc.usedWell(), model.usedWell());
                break;
        }
    }

    private void askAboutRoom() {
        int size = argument(1, 40);
        switch (number(0, 2)) {
            case 0: same("largest()", disc.largest(), model.largest()); break;
            case 1: sameOf("filesLeft", size, 0, disc.filesLeft(size), model.filesLeft(size)); break;
            default: sameOf("filesEach", size, 0, disc.filesEach(size), model.filesEach(size)); break;
        }
    }

    private void askAboutDamage() {
        int sector = sectorArgument();
        switch (number(0, 3)) {
            case 0: same("valid()", disc.valid(), model.valid()); break;
            case 1: same("worstSector()", disc.worstSector(), model.worstSector()); break;
            default: sameOf("validIf", sector, 0, disc.validIf(sector), model.validIf(sector)); break;
        }
    }

    private void act() {
        if (number(0, 9) == 0) {
            same("undo()", disc.undo(), model.undo());
            return;
        }
        String action = action();
        if (action.equals("run") && calls + LONGEST_TEXT < CALLS && number(0, 2) > 0) {
            newText();
        }
        int a = firstArgument(action);
        int b = secondArgument(action);
        sameOf(action, a, b, callAction(action, a, b), model.act(action, a, b));
    }

    private void play() {
        int asked = run % 3 == 0 ? 3 : 8;
        while (calls < CALLS) {
            act();
            for (int turn = 0; turn < asked && calls < CALLS; turn++) {
                ask();
            }
        }
    }

    public static void main(String[] args) {
        for (int run = 0; run < RUNS; run++) {
            new ModelTest(run).play();
        }
        due.end();
    }
}
