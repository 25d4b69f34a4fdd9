/** Long runs of calls on fresh objects; after every call the answers are compared with those of the model. */
public final class ModelTest {
    private static final Due due = new Due();
    private static final int RUNS = 120;
    private static final int CALLS = 60;

    private static final String[] ACTIONS = {
        "begin", "write", "remove", "keep", "close", "eject", "repair", "damage", "set", "run"};
    /** How likely each action is, per kind of run: a bit of all, many small sessions, much damage. */
    private static final int[][] WEIGHTS = {
        {6, 14, 2, 4, 5, 2, 2, 3, 3, 3}, {10, 6, 1, 3, 9, 2, 2, 1, 3, 1}, {6, 10, 1, 3, 5, 2, 3, 9, 1, 3}};

    private WriteOnceDisc disc = new WriteOnceDisc();
    private Model model = new Model();
    private long seed;
    private final int run;

    private ModelTest(int run) {
        this.run = run;
        this.seed = 77L + 1000003L * run;
    }

    /** A number from low to high, by a fixed rule: the same in every run of this test. */
    private int number(int low, int high) {
        seed = seed * 6364136223846793005L + 1442695040888963407L;
        return low + (int) ((seed >>> 33) % (high - low + 1));
    }

    private void same(String call, int got, int want) {
        due.same("run " + run + ": " + call, got, want);
    }

    private String action() {
        int[] weights = WEIGHTS[run % WEIGHTS.length];
        int total = 0;
        for (int weight : weights) {
            total += weight;
        }
        int place = number(0, total - 1);
        for (int i = 0; i < weights.length; i++) {
            place -= weights[i];
            if (place < 0) {
                return ACTIONS[i];
            }
        }
        return ACTIONS[0];
    }

    private int callAction(String action, int a, int b) {
        switch (action) {
            case "begin": return disc.begin(a);
            case "write": return disc.write(a, b);
            case "remove": return disc.remove(a);
            case "keep": return disc.keep(a, b);
            case "close": return disc.close();
            case "eject": return disc.eject();
            case "repair": return disc.repair(a);
            case "damage": return disc.damage(a);
            case "set": return disc.set(a, b);
            default: return disc.run();
        }
    }

    private int firstArgument(String action) {
        if (number(0, 40) == 0) {
            return number(0, 1) == 0 ? Integer.MIN_VALUE : Integer.MAX_VALUE;
        }
        switch (action) {
            case "begin": return number(0, 20) == 0 ? number(-1, 3) : number(0, 1);
            case "repair": return number(0, 3) == 0 ? number(-1, 12) : model.sessions() - 1;
            case "damage": return damageArgument();
            case "set": return number(0, 12) == 0 ? number(-1, 2) : number(0, 1);
            default: return number(0, 15) == 0 ? number(-2, 21) : number(0, 5);
        }
    }

    private int damageArgument() {
        int used = model.next();
        return used == 0 || number(0, 5) == 0 ? number(-1, 240) : number(0, used - 1);
    }

    private int secondArgument(String action) {
        if (number(0, 40) == 0) {
            return number(0, 1) == 0 ? Integer.MIN_VALUE : Integer.MAX_VALUE;
        }
        switch (action) {
            case "write": return number(0, 6) == 0 ? number(-1, 42) : number(1, run % 2 == 0 ? 7 : 20);
            case "set": return number(0, 11);
            default: return number(-1, model.sessions());
        }
    }

    private String command() {
        String[] kinds = {
            "b" + number(0, 1), "w" + number(0, 6) + "=" + number(1, 12), "r" + number(0, 6),
            "k" + number(0, 6) + "." + number(0, 4), "c", "e", "d" + number(0, 239),
            "w" + number(0, 20) + "=" + number(0, 44), "k" + number(0, 19) + "." + number(0, 13)};
        return kinds[number(0, number(0, 9) == 0 ? 8 : 6)];
    }

    /** A new text: commands, at times with a sign that is changed or left out. */
    private void newText() {
        same("clearText()", disc.clearText(), model.clearText());
        StringBuilder text = new StringBuilder(command());
        for (int more = number(0, 7); more > 0; more--) {
            text.append(';').append(command());
        }
        if (number(0, 2) == 0) {
            String signs = "bwrkced0123456789=.; x";
            text.setCharAt(number(0, text.length() - 1), signs.charAt(number(0, signs.length() - 1)));
        }
        if (number(0, 6) == 0) {
            text.deleteCharAt(number(0, text.length() - 1));
        }
        for (int i = 0; i < text.length(); i++) {
            same("append", disc.append(text.charAt(i)), model.append(text.charAt(i)));
        }
        same("fault() of " + text, disc.fault(), model.fault());
    }

    private void compareSessions() {
        same("sessions()", disc.sessions(), model.sessions());
        same("valid()", disc.valid(), model.valid());
        same("next()", disc.next(), model.next());
        for (int session = -1; session <= model.sessions(); session++) {
            for (int what = -1; what <= 8; what++) {
                same("session(" + session + ", " + what + ")", disc.session(session, what), model.session(session, what));
            }
            for (int name = -1; name <= 20; name++) {
                int what = number(-1, 3);
                String call = "entry(" + session + ", " + name + ", " + what + ")";
                same(call, disc.entry(session, name, what), model.entry(session, name, what));
            }
        }
        same("setting(0)", disc.setting(0), model.setting(0));
        same("setting(1)", disc.setting(1), model.setting(1));
    }

    private void compareSectors() {
        for (int sector = -1; sector <= 240; sector++) {
            same("damaged(" + sector + ")", disc.damaged(sector), model.damaged(sector));
            same("use(" + sector + ")", disc.use(sector), model.use(sector));
        }
        for (int i = 0; i < 20; i++) {
            int sector = number(-1, 240);
            same("validIf(" + sector + ")", disc.validIf(sector), model.validIf(sector));
        }
        same("worstSector()", disc.worstSector(), model.worstSector());
    }

    private void compareFiles() {
        for (int name = -1; name <= 20; name++) {
            same("find(" + name + ")", disc.find(name), model.find(name));
            same("intact(" + name + ")", disc.intact(name), model.intact(name));
            same("versions(" + name + ")", disc.versions(name), model.versions(name));
            same("latestIntact(" + name + ")", disc.latestIntact(name), model.latestIntact(name));
        }
        same("intactFiles()", disc.intactFiles(), model.intactFiles());
        same("lost()", disc.lost(), model.lost());
        due.sameFloat("run " + run + ": usedWell()", disc.usedWell(), model.usedWell());
    }

    private void compareRoom() {
        same("largest()", disc.largest(), model.largest());
        for (int i = 0; i < 3; i++) {
            int size = number(0, 41);
            same("filesLeft(" + size + ")", disc.filesLeft(size), model.filesLeft(size));
            same("filesEach(" + size + ")", disc.filesEach(size), model.filesEach(size));
        }
    }

    /** The questions with arguments that are far out of every range. */
    private void compareFarOut() {
        for (int far = Integer.MIN_VALUE; far != 0; far = far < 0 ? Integer.MAX_VALUE : 0) {
            same("append(far)", disc.append(far), model.append(far));
            same("session(far, 0)", disc.session(far, 0), model.session(far, 0));
            same("session(0, far)", disc.session(0, far), model.session(0, far));
            same("entry(far, 0, 0)", disc.entry(far, 0, 0), model.entry(far, 0, 0));
            same("entry(0, far, 0)", disc.entry(0, far, 0), model.entry(0, far, 0));
            same("entry(0, 0, far)", disc.entry(0, 0, far), model.entry(0, 0, far));
            same("damaged(far)", disc.damaged(far), model.damaged(far));
            same("use(far)", disc.use(far), model.use(far));
            same("setting(far)", disc.setting(far), model.setting(far));
            same("find(far)", disc.find(far), model.find(far));
            same("intact(far)", disc.intact(far), model.intact(far));
            same("versions(far)", disc.versions(far), model.versions(far));
            same("latestIntact(far)", disc.latestIntact(far), model.latestIntact(far));
            same("filesLeft(far)", disc.filesLeft(far), model.filesLeft(far));
            same("filesEach(far)", disc.filesEach(far), model.filesEach(far));
            same("validIf(far)", disc.validIf(far), model.validIf(far));
        }
    }

    private void compareAll() {
        compareFarOut();
        compareSessions();
        compareSectors();
        compareFiles();
        compareRoom();
    }

    private void play() {
        for (int call = 0; call < CALLS; call++) {
            if (number(0, 11) == 0) {
                same("undo()", disc.undo(), model.undo());
            } else {
                String action = action();
                if (action.equals("run")) {
                    newText();
                }
                int a = firstArgument(action);
                int b = secondArgument(action);
                same(action + "(" + a + ", " + b + ")", callAction(action, a, b), model.act(action, a, b));
            }
            compareAll();
        }
        for (int left = 0; left < 5; left++) {
            same("undo()", disc.undo(), model.undo());
            compareAll();
        }
    }

    public static void main(String[] args) {
        for (int run = 0; run < RUNS; run++) {
            new ModelTest(run).play();
        }
        due.end();
    }
}
