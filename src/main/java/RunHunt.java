/**
 * Bands hunt for a box by riddles, each of which says where the next one lies.
 * The words in capitals are those of the document (../shared/DOC.md).
 */
public final class RunHunt {
    public static final int NONE = -1;

    private static final int LAST_TICK = 10;
    private static final int RIDDLES_MOST = 5;
    private static final int BANDS_MOST = 5;
    private static final int HARD_MOST = 9;
    private static final int SAID_MOST = 30;
    private static final int CLEVER_MOST = 9;
    private static final int QUICK_MOST = 9;
    private static final int STEPS_MOST = 6;
    private static final int DELAY_MOST = 4;
    private static final int THOUGHT_MOST = 5;
    private static final int THOUGHTS = 6;
    private static final int TAPE_ROOM = 220;
    private static final int FED = 20;
    private static final int LAW_ROOM = 200;
    private static final int ORDERS_MOST = 5;
    private static final int LOG_ROOM = 40;
    private static final int NOT_SO = -2;
    private static final int EIGHTHS = 3;
    private static final int SIXTY_FOURTHS = 6;

    private final Tape tape;
    private final Hill hill;
    private final Skill other;
    private final Pace paceX;
    private final Pace paceY;
    private final Chase chase;
    private final Duel duel;
    private final Orders orders;
    private final Log log;
    private final Hunt hunt;

    public RunHunt() {
        tape = new Tape();
        hill = new Hill();
        other = new Skill();
        paceX = new Pace();
        paceY = new Pace();
        chase = new Chase();
        duel = new Duel(hill);
        orders = new Orders();
        log = new Log();
        hunt = new Hunt(hill, log);
    }

    public int riddle(int hard, int x, int y) {
        if (!within(hard, 0, HARD_MOST) || !within(x, 0, SAID_MOST) || !within(y, 0, SAID_MOST)) {
            return NONE;
        }
        if (hill.riddles >= RIDDLES_MOST) {
            return NONE;
        }
        orders.fall();
        logFalls();
        return hill.addRiddle(hard, x, y);
    }

    public int band(int clever, int quick, int follows) {
        if (!within(clever, 0, CLEVER_MOST) || !within(quick, 1, QUICK_MOST) || !within(follows, 0, 1)) {
            return NONE;
        }
        if (hill.bands >= BANDS_MOST) {
            return NONE;
        }
        logFalls();
        return hill.addBand(clever, quick, follows);
    }

    public boolean weather(int delay, int fog) {
        if (!within(delay, 1, DELAY_MOST) || !within(fog, 0, 1)) {
            return false;
        }
        hill.setWeather(delay, fog);
        return true;
    }

    public int feed(int a, int b, int c, int d, int e) {
        if (tape.size > TAPE_ROOM - FED) {
            return NONE;
        }
        tape.put(a);
        tape.put(b);
        tape.put(c);
        tape.put(d);
        tape.put(e);
        return tape.size;
    }

    public int law(int n) {
        if (!within(n, 1, LAW_ROOM) || n > tape.size) {
            return NONE;
        }
        int answer = hill.law.replace(tape, n);
        hill.changes++;
        tape.drop();
        return answer;
    }

    public int chance(int band, int riddle, int t, int what) {
        if (!hill.hasBand(band) || !hill.hasRiddle(riddle)) {
            return NONE;
        }
        if (!within(t, 0, THOUGHT_MOST) || !within(what, 0, 1)) {
            return NONE;
        }
        Skill skill = hill.skill(band);
        return what == 0 ? skill.goodAt(riddle, t) : skill.badAt(riddle, t);
    }

    public int walk(int band, int riddle) {
        return hill.steps(band, riddle);
    }

    public long ways(int band, int tick, int what) {
        if (!hill.hasBand(band) || hill.riddles == 0 || !within(tick, 1, LAST_TICK) || !within(what, 0, 6)) {
            return NONE;
        }
        if (what < RIDDLES_MOST && !hill.hasRiddle(what)) {
            return NONE;
        }
        goAlone(paceX, hill.skill(band));
        if (what < RIDDLES_MOST) {
            return paceX.comeBy(what, tick);
        }
        return what == 5 ? paceX.comeBy(hill.riddles, tick) : paceX.comeAt(hill.riddles, tick);
    }

    public long ahead(int x, int y, int what) {
        if (!canHunt(x, y) || !within(what, 0, 3)) {
            return NONE;
        }
        goAlone(paceX, hill.skill(x));
        goAlone(paceY, hill.skill(y));
        long above = what < 2 ? paceX.aheadOf(paceY, hill.riddles) : paceX.likeAs(paceY, hill.riddles);
        return ofFraction(above, 1L << 2 * EIGHTHS * LAST_TICK, what % 2);
    }

    public long share(int x, int y, int tick) {
        if (!canHunt(x, y) || !within(tick, 1, LAST_TICK)) {
            return NONE;
        }
        other.join(hill.skill(x), hill.skill(y));
        paceX.reckon(other, SIXTY_FOURTHS, hill.riddles, hill.delay);
        return paceX.comeBy(hill.riddles, tick);
    }

    public long after(int x, int y, int tick, int what) {
        if (!canHunt(x, y) || !within(tick, 1, LAST_TICK) || !within(what, 0, 1)) {
            return NONE;
        }
        return followed(x, y, tick, what == 1);
    }

    public int edge(int x, int y) {
        if (!canHunt(x, y)) {
            return NONE;
        }
        long following = followed(x, y, LAST_TICK, false);
        for (int clever = 0; clever <= CLEVER_MOST; clever++) {
            hill.load(other, x, clever);
            goAlone(paceX, other);
            if (paceX.comeBy(hill.riddles, LAST_TICK) > following) {
                return clever;
            }
        }
        return CLEVER_MOST + 1;
    }

    public long best(int x, int y, int left, int stateX, int stateY, int began, int what) {
        if (!canHunt(x, y) || !within(left, 0, LAST_TICK) || !within(began, 0, 2) || !within(what, 0, 1)) {
            return NONE;
        }
        duel.begin(x, y, 0);
        int placeX = duel.stateOfX(stateX);
        int placeY = duel.stateOfY(stateY, began);
        if (placeX == NONE || placeY == NONE) {
            return NONE;
        }
        return what == 0 ? duel.worthOf(left, placeX, placeY) : duel.choice(left, placeX, placeY);
    }

    public long without(int x, int y, int never) {
        if (!canHunt(x, y) || !within(never, 1, 7)) {
            return 1;
        }
        duel.begin(x, y, 0);
        long free = duel.worthOf(LAST_TICK, 0, 0);
        duel.begin(x, y, never);
        return duel.worthOf(LAST_TICK, 0, 0) - free;
    }

    public int waits(int x, int y, int riddle, int left, int t) {
        if (!canHunt(x, y) || !hill.hasRiddle(riddle)) {
            return NONE;
        }
        if (!within(left, 1, LAST_TICK) || !within(t, 0, THOUGHT_MOST)) {
            return NONE;
        }
        duel.begin(x, y, 0);
        return duel.waitsFrom(riddle, left, t);
    }

    public int order() {
        if (hill.riddles == 0 || orders.size >= ORDERS_MOST || tape.size < hill.riddles) {
            return NONE;
        }
        int answer = orders.add(tape, hill.riddles);
        tape.drop();
        return answer;
    }

    public int given(int n, int what) {
        if (!within(n, 2, BANDS_MOST) || !within(what, NONE, n - 1) || orders.size == 0) {
            return NONE;
        }
        orders.giveTo(n);
        return what == NONE ? orders.meetings : orders.rowOf(what);
    }

    public long cleverest(int x, int y, int what) {
        if (!canHunt(x, y) || !within(what, 0, 2)) {
            return NONE;
        }
        goAlone(paceX, hill.skill(x));
        goAlone(paceY, hill.skill(y));
        int riddles = 1;
        long most = paceX.aheadOf(paceY, 1);
        for (int some = 2; some <= hill.riddles; some++) {
            long above = paceX.aheadOf(paceY, some);
            if (above > most) {
                most = above;
                riddles = some;
            }
        }
        return what == 0 ? riddles : ofFraction(most, 1L << 2 * EIGHTHS * LAST_TICK, what - 1);
    }

    public int went(int band, int riddle, int tick) {
        if (!hill.hasBand(band) || !hill.hasRiddle(riddle) || !within(tick, 1, LAST_TICK)) {
            return NONE;
        }
        if (log.size >= LOG_ROOM || tick < log.lastTick() || log.tells(band, riddle)) {
            return NONE;
        }
        log.add(band, riddle, tick);
        return log.size;
    }

    public int logged(int i, int what) {
        return log.entry(i, what);
    }

    public int knew(int i, int eighths, int what) {
        if (!log.has(i) || !within(eighths, 1, 8) || !within(what, 0, 1)) {
            return NONE;
        }
        Skill skill = hill.skill(log.entry(i, Log.BAND));
        int good = skill.goodAt(log.entry(i, Log.RIDDLE), thoughtBefore(i));
        boolean alone = good == 0 || !log.seesGoing(i);
        return (int) ofFraction(good, alone ? Math.max(1, good) : good + eighths, what);
    }

    public boolean seed(int x) {
        if (!within(x, 0, 65535)) {
            return false;
        }
        hunt.dice = x;
        return true;
    }

    public int draw() {
        if (hill.bands == 0 || hill.riddles == 0) {
            return NONE;
        }
        return hunt.play();
    }

    public int had(int band) {
        return hill.hasBand(band) && hunt.drawn ? hunt.boxTick(band) : NONE;
    }

    public int clear() {
        int fallen = log.size;
        logFalls();
        return fallen;
    }

    public int check(int n) {
        if (!within(n, 0, TAPE_ROOM) || 12 * n > tape.size) {
            return NOT_SO;
        }
        int answer = log.firstWrong(tape, n);
        tape.drop();
        return answer;
    }

    public int count(int what) {
        switch (what) {
            case 0:
                return hill.riddles;
            case 1:
                return hill.bands;
            case 2:
                return hill.law.clauses;
            case 3:
                return tape.size;
            case 4:
                return orders.size;
            case 5:
                return log.size;
            case 6:
                return hunt.dice;
            case 7:
                return hill.delay;
            case 8:
                return hill.fog;
            default:
                return NONE;
        }
    }

    private void logFalls() {
        log.fall();
        hunt.drawn = false;
    }

    private boolean canHunt(int x, int y) {
        return hill.hasBand(x) && hill.hasBand(y) && x != y && hill.riddles > 0;
    }

    private void goAlone(Pace pace, Skill skill) {
        pace.reckon(skill, EIGHTHS, hill.riddles, hill.delay);
    }

    private long followed(int x, int y, int tick, boolean aheadOnly) {
        goAlone(paceY, hill.skill(y));
        return chase.reckon(hill.skill(x), hill.skill(y), paceY, tick, aheadOnly);
    }

    /** For how long the BAND of a going had thought: it is taken to have come straight from where it went last. */
    private int thoughtBefore(int i) {
        int last = log.goingBefore(i);
        int came = last == NONE ? 0 : log.entry(last, Log.TICK) + hill.steps(log.entry(i, Log.BAND), log.entry(last, Log.RIDDLE));
        return Math.max(0, Math.min(THOUGHT_MOST, log.entry(i, Log.TICK) - 1 - came));
    }

    private static boolean within(int number, int least, int most) {
        return number >= least && number <= most;
    }

    /** A number of a fraction without a common divisor: 0 above, 1 below the line. */
    private static long ofFraction(long above, long below, int which) {
        long common = below;
        long rest = above;
        for (int k = 0; k < 100 && rest != 0; k++) {
            long left = common % rest;
            common = rest;
            rest = left;
        }
        if (common == 0) {
            return 0;
        }
        return which == 0 ? above / common : below / common;
    }

    /** The bytes that were fed. */
    private static final class Tape {
        private final int[] bytes = new int[TAPE_ROOM];
        int size;

        void put(int number) {
            for (int shift = 24; shift >= 0; shift -= 8) {
                if (size >= 0 && size < bytes.length) {
                    bytes[size] = number >>> shift & 255;
                    size++;
                }
            }
        }

        int byteAt(int i) {
            return i >= 0 && i < size && i < bytes.length ? bytes[i] : NONE;
        }

        int numberAt(int i) {
            int number = 0;
            for (int k = 0; k < 4; k++) {
                number = number << 8 | byteAt(4 * i + k) & 255;
            }
            return number;
        }

        void drop() {
            size = 0;
        }
    }

    /** THE LAW. The same reading finds FAULTS (nothing is asked then) and reckons: so both mean the same by a TEXT. */
    private static final class Law {
        private static final int CLAUSES_MOST = 14;
        private static final int OPEN_MOST = 6;
        private static final int DIGITS_MOST = 5;
        private static final int MISPLACED = 1;
        private static final int SIXTH_DIGIT = 2;
        private static final int TOO_MANY = 4;
        private static final int TOO_DEEP = 5;
        private static final char[] LETTERS = {'c', 'b', 'q', 'h', 'r', 't', 'n', 'f'};

        private final int[] meant = new int[LETTERS.length];
        private int[] text = new int[LAW_ROOM];
        private int[] draft = new int[LAW_ROOM];
        private int length;
        int clauses;
        private int[] read = text;
        private int end;
        private int place;
        /** What stands at the place; NONE behind the end, and as soon as there is a FAULT: so all reading ends. */
        private int sign;
        private int fault;
        private boolean refused;

        /** The first n bytes of a tape in place of the TEXT before: how many CLAUSES, or the FAULT. */
        int replace(Tape tape, int n) {
            int size = Math.max(0, Math.min(n, draft.length));
            for (int i = 0; i < size; i++) {
                draft[i] = tape.byteAt(i);
            }
            start(draft, size);
            int found = readAll();
            if (fault != 0) {
                return -1000 * fault - place;
            }
            int[] before = text;
            text = draft;
            draft = before;
            length = size;
            clauses = found;
            return found;
        }

        void tellBand(int clever, int band, int quick) {
            meant[0] = clever;
            meant[1] = band;
            meant[2] = quick;
        }

        void tellRiddle(int hard, int riddle, int t) {
            meant[3] = hard;
            meant[4] = riddle;
            meant[5] = t;
        }

        void tellHill(int riddles, int fog) {
            meant[6] = riddles;
            meant[7] = fog;
        }

        /** The E of the first CLAUSE of a letter whose C holds; of none: 0. */
        int eighths(int letter) {
            start(text, length);
            for (int k = 0; k < clauses; k++) {
                boolean mine = sign == letter;
                pass(true);
                if (mine) {
                    refused = false;
                    int value = sum(0, true);
                    value = refused ? 0 : value;
                    refused = false;
                    pass(true);
                    if (any(1, true) && !refused) {
                        return value;
                    }
                }
                for (int i = 0; i < LAW_ROOM && sign != ';' && sign != NONE; i++) {
                    pass(true);
                }
                pass(true);
            }
            return 0;
        }

        private void start(int[] signs, int size) {
            read = signs;
            end = Math.min(size, signs.length);
            place = 0;
            sign = end > 0 ? signs[0] : NONE;
            fault = 0;
            refused = false;
        }

        /** Goes on to the next sign if this one fits. */
        private void pass(boolean fits) {
            if (!fits && fault == 0) {
                fault = MISPLACED;
                sign = NONE;
            }
            if (fault == 0) {
                place++;
                sign = place >= 0 && place < end && place < read.length ? read[place] : NONE;
            }
        }

        private void blame(int number) {
            if (fault == 0) {
                fault = number;
                sign = NONE;
            }
        }

        private int readAll() {
            int found = 0;
            boolean more = true;
            while (more && found <= CLAUSES_MOST) {
                readClause(found);
                found++;
                more = sign == ';';
                if (more) {
                    pass(true);
                }
            }
            if (place < end) {
                blame(MISPLACED);
            }
            return found;
        }

        private void readClause(int before) {
            boolean fits = sign == 's' || sign == 'e';
            if (fits && before >= CLAUSES_MOST) {
                blame(TOO_MANY);
            }
            pass(fits);
            sum(0, false);
            pass(sign == '(');
            any(1, false);
            pass(sign == ')');
        }

        private boolean any(int open, boolean asked) {
            boolean holds = all(open, asked);
            for (int k = 0; k < LAW_ROOM && sign == '|'; k++) {
                pass(true);
                boolean next = all(open, asked && !holds);
                holds = holds || next;
            }
            return holds;
        }

        private boolean all(int open, boolean asked) {
            boolean holds = piece(open, asked);
            for (int k = 0; k < LAW_ROOM && sign == '&'; k++) {
                pass(true);
                boolean next = piece(open, asked && holds);
                holds = holds && next;
            }
            return holds;
        }

        private boolean piece(int open, boolean asked) {
            if ((sign == '!' || sign == '(') && open >= OPEN_MOST) {
                blame(TOO_DEEP);
                return false;
            }
            if (sign == '!') {
                pass(true);
                return !piece(open + 1, asked);
            }
            if (sign == '(') {
                pass(true);
                boolean holds = any(open + 1, asked);
                pass(sign == ')');
                return holds;
            }
            int left = sum(open, asked);
            int between = sign;
            pass(between == '<' || between == '>' || between == '=');
            int right = sum(open, asked);
            return between == '<' ? left < right : between == '>' ? left > right : left == right;
        }

        private int sum(int open, boolean asked) {
            int value = product(open, asked);
            for (int k = 0; k < LAW_ROOM && (sign == '+' || sign == '-'); k++) {
                boolean plus = sign == '+';
                pass(true);
                int next = product(open, asked);
                value = plus ? value + next : value - next;
            }
            return value;
        }

        private int product(int open, boolean asked) {
            int value = factor(open, asked);
            for (int k = 0; k < LAW_ROOM && (sign == '*' || sign == '/' || sign == '%'); k++) {
                int between = sign;
                pass(true);
                int next = factor(open, asked);
                if (between == '*') {
                    value = value * next;
                } else if (next == 0) {
                    refused = refused || asked;
                    value = 0;
                } else {
                    value = between == '/' ? value / next : value % next;
                }
            }
            return value;
        }

        private int factor(int open, boolean asked) {
            if (sign >= '0' && sign <= '9') {
                int number = 0;
                for (int k = 0; k < DIGITS_MOST && sign >= '0' && sign <= '9'; k++) {
                    number = 10 * number + sign - '0';
                    pass(true);
                }
                if (sign >= '0' && sign <= '9') {
                    blame(SIXTH_DIGIT);
                }
                return number;
            }
            if (sign == '[' && open >= OPEN_MOST) {
                blame(TOO_DEEP);
                return 0;
            }
            if (sign == '[') {
                pass(true);
                int value = sum(open + 1, asked);
                pass(sign == ']');
                return value;
            }
            int letter = NONE;
            for (int i = 0; i < LETTERS.length; i++) {
                letter = LETTERS[i] == sign ? i : letter;
            }
            pass(letter != NONE);
            return letter >= 0 && letter < meant.length ? meant[letter] : 0;
        }
    }

    /** The RIDDLES, the BANDS, the weather and THE LAW. */
    private static final class Hill {
        int riddles;
        int bands;
        int delay = 2;
        int fog;
        /** Grows with every change: who keeps what was reckoned sees by it that this is stale. */
        int changes;
        final Law law = new Law();
        private final Skill[] skills = new Skill[BANDS_MOST];
        private final int[] hard = new int[RIDDLES_MOST];
        private final int[] placeX = new int[RIDDLES_MOST + 1];
        private final int[] placeY = new int[RIDDLES_MOST + 1];
        private final int[] clever = new int[BANDS_MOST];
        private final int[] quick = new int[BANDS_MOST];
        private final int[] follows = new int[BANDS_MOST];

        Hill() {
            for (int band = 0; band < skills.length; band++) {
                skills[band] = new Skill();
            }
        }

        int addRiddle(int hardness, int x, int y) {
            if (riddles < 0 || riddles >= RIDDLES_MOST) {
                return NONE;
            }
            hard[riddles] = hardness;
            placeX[riddles + 1] = x;
            placeY[riddles + 1] = y;
            riddles++;
            changes++;
            return riddles - 1;
        }

        int addBand(int cleverness, int quickness, int following) {
            if (bands < 0 || bands >= BANDS_MOST) {
                return NONE;
            }
            clever[bands] = cleverness;
            quick[bands] = quickness;
            follows[bands] = following;
            bands++;
            changes++;
            return bands - 1;
        }

        void setWeather(int newDelay, int newFog) {
            delay = newDelay;
            fog = newFog;
            changes++;
        }

        boolean hasBand(int band) {
            return band >= 0 && band < bands && band < BANDS_MOST;
        }

        boolean hasRiddle(int riddle) {
            return riddle >= 0 && riddle < riddles && riddle < RIDDLES_MOST;
        }

        /** Whether a BAND goes where it sees another one go. */
        boolean followsSeen(int band) {
            return hasBand(band) && follows[band] == 1 && fog == 0;
        }

        int steps(int band, int riddle) {
            if (!hasBand(band) || !hasRiddle(riddle)) {
                return NONE;
            }
            int far = Math.abs(placeX[riddle + 1] - placeX[riddle]) + Math.abs(placeY[riddle + 1] - placeY[riddle]);
            int each = Math.max(1, quick[band]);
            return Math.max(1, Math.min(STEPS_MOST, (far + each - 1) / each));
        }

        /** What a BAND can do: reckoned anew only if something has changed. */
        Skill skill(int band) {
            int i = hasBand(band) ? band : 0;
            Skill skill = skills[i];
            if (skill.changes != changes) {
                load(skill, i, clever[i]);
                skill.changes = changes;
            }
            return skill;
        }

        /** By another CLEVER than its own, too: EDGE asks for that. */
        void load(Skill skill, int band, int cleverness) {
            if (!hasBand(band)) {
                return;
            }
            law.tellBand(cleverness, band, quick[band]);
            law.tellHill(riddles, fog);
            for (int riddle = 0; riddle < riddles && riddle < RIDDLES_MOST; riddle++) {
                skill.steps[riddle] = steps(band, riddle);
                for (int t = 0; t < THOUGHTS; t++) {
                    law.tellRiddle(hard[riddle], riddle, t);
                    int good = Math.max(0, Math.min(8, law.eighths('s')));
                    skill.good[riddle * THOUGHTS + t] = good;
                    skill.bad[riddle * THOUGHTS + t] = Math.max(0, Math.min(8 - good, law.eighths('e')));
                }
            }
        }
    }

    /** What a BAND (or two as one) can do at each RIDDLE with each t: how often it solves, is wrong; its WALKS. */
    private static final class Skill {
        final int[] good = new int[RIDDLES_MOST * THOUGHTS];
        final int[] bad = new int[RIDDLES_MOST * THOUGHTS];
        final int[] steps = new int[RIDDLES_MOST];
        /** The changes on the hill by which it was reckoned. */
        int changes = NONE;

        /** Two as one: of 64. */
        void join(Skill one, Skill two) {
            for (int i = 0; i < good.length; i++) {
                int neitherSolves = (8 - one.good[i]) * (8 - two.good[i]);
                good[i] = 64 - neitherSolves;
                bad[i] = neitherSolves - (8 - one.good[i] - one.bad[i]) * (8 - two.good[i] - two.bad[i]);
            }
            for (int riddle = 0; riddle < RIDDLES_MOST; riddle++) {
                steps[riddle] = Math.max(one.steps[riddle], two.steps[riddle]);
            }
        }

        int goodAt(int riddle, int t) {
            return good[slot(riddle, t)];
        }

        int badAt(int riddle, int t) {
            return bad[slot(riddle, t)];
        }

        int stepsFrom(int riddle) {
            return riddle >= 0 && riddle < RIDDLES_MOST ? Math.max(1, steps[riddle]) : 1;
        }

        private static int slot(int riddle, int t) {
            int row = Math.max(0, Math.min(RIDDLES_MOST - 1, riddle));
            return row * THOUGHTS + Math.max(0, Math.min(THOUGHT_MOST, t));
        }
    }

    /** How likely one ALONE has come how far by when: all in WAYS of 2 to the shift for each TICK. */
    private static final class Pace {
        private final long[] fresh = new long[LAST_TICK + 1];
        private final long[][] solved = new long[RIDDLES_MOST][LAST_TICK + 1];
        private final long[][] come = new long[RIDDLES_MOST + 1][LAST_TICK + 1];
        private int shift;
        int riddles;

        /** Behind the last RIDDLE lies THE BOX: it is the place with that number. */
        void reckon(Skill skill, int shiftOfTick, int places, int delay) {
            shift = shiftOfTick;
            riddles = Math.max(0, Math.min(RIDDLES_MOST, places));
            wipe(come[0]);
            come[0][0] = 1;
            for (int riddle = 0; riddle < riddles; riddle++) {
                think(skill, riddle, delay);
                goOn(riddle, skill.stepsFrom(riddle));
            }
        }

        /** WAYS of just so many TICKS that a RIDDLE is solved in the last of these. */
        long solvedIn(int riddle, int ticks) {
            boolean told = riddle >= 0 && riddle < RIDDLES_MOST && ticks >= 0 && ticks <= LAST_TICK;
            return told ? solved[riddle][ticks] : 0;
        }

        long comeAt(int place, int tick) {
            boolean told = place >= 0 && place <= RIDDLES_MOST && tick >= 0 && tick <= LAST_TICK;
            return told ? come[place][tick] : 0;
        }

        long comeBy(int place, int tick) {
            long ways = 0;
            for (int i = 0; i <= tick && i <= LAST_TICK; i++) {
                ways = (ways << shift) + comeAt(place, i);
            }
            return ways;
        }

        long aheadOf(Pace other, int place) {
            long all = 1L << shift * LAST_TICK;
            long above = 0;
            for (int tick = 1; tick <= LAST_TICK; tick++) {
                int rest = shift * (LAST_TICK - tick);
                above += (comeAt(place, tick) << rest) * (all - (other.comeBy(place, tick) << rest));
            }
            return above;
        }

        long likeAs(Pace other, int place) {
            long above = 0;
            for (int tick = 1; tick <= LAST_TICK; tick++) {
                int rest = shift * (LAST_TICK - tick);
                above += (comeAt(place, tick) << rest) * (other.comeAt(place, tick) << rest);
            }
            return above;
        }

        /** fresh: WAYS that it begins to think (t 0) behind so many TICKS: having come, or having been ASTRAY. */
        private void think(Skill skill, int riddle, int delay) {
            long[] row = solved[riddle];
            wipe(row);
            wipe(fresh);
            fresh[0] = 1;
            for (int from = 0; from < LAST_TICK; from++) {
                long still = fresh[from];
                for (int tick = from + 1; tick <= LAST_TICK && still != 0; tick++) {
                    int t = Math.min(THOUGHT_MOST, tick - 1 - from);
                    int good = skill.goodAt(riddle, t);
                    int bad = skill.badAt(riddle, t);
                    row[tick] += still * good;
                    if (delay >= 0 && tick + delay <= LAST_TICK) {
                        fresh[tick + delay] += still * bad << shift * delay;
                    }
                    still *= (1 << shift) - good - bad;
                }
            }
        }

        private void goOn(int riddle, int steps) {
            long[] here = come[riddle];
            long[] there = come[riddle + 1];
            wipe(there);
            for (int from = 0; from <= LAST_TICK; from++) {
                for (int ticks = 1; from + ticks + steps <= LAST_TICK; ticks++) {
                    there[from + ticks + steps] += here[from] * solvedIn(riddle, ticks) << shift * steps;
                }
            }
        }

        private static void wipe(long[] row) {
            for (int i = 0; i < row.length; i++) {
                row[i] = 0;
            }
        }
    }

    /** One that goes AFTER another one: all in WAYS of the one ahead. */
    private static final class Chase {
        /** WAYS by the TICKS at which the one ahead (first) and the one behind came to a PLACE. */
        private long[][] pairs = new long[LAST_TICK + 1][LAST_TICK + 1];
        private long[][] later = new long[LAST_TICK + 1][LAST_TICK + 1];

        long reckon(Skill behind, Skill front, Pace pace, int tick, boolean aheadOnly) {
            int last = Math.max(0, Math.min(LAST_TICK, tick));
            wipe(pairs);
            pairs[0][0] = 1;
            for (int riddle = 0; riddle + 1 < pace.riddles; riddle++) {
                goOn(riddle, behind, front, pace, last);
            }
            return toBox(behind, front, pace, last, aheadOnly);
        }

        /** Who comes to a PLACE later than the last TICK asked for has no part in what is asked. */
        private void goOn(int riddle, Skill behind, Skill front, Pace pace, int last) {
            wipe(later);
            int steps = front.stepsFrom(riddle);
            for (int came = 0; came <= last; came++) {
                for (int solved = came + 1; solved + steps <= last; solved++) {
                    long each = pace.solvedIn(riddle, solved - came) << EIGHTHS * steps;
                    for (int here = 0; here <= last && each != 0; here++) {
                        int there = Math.max(here, solved) + behind.stepsFrom(riddle);
                        if (there <= last) {
                            later[solved + steps][there] += pairs[came][here] * each;
                        }
                    }
                }
            }
            long[][] before = pairs;
            pairs = later;
            later = before;
        }

        private long toBox(Skill behind, Skill front, Pace pace, int last, boolean aheadOnly) {
            int riddle = pace.riddles - 1;
            long ways = 0;
            for (int came = 0; came <= last; came++) {
                for (int solved = came + 1; solved <= last; solved++) {
                    long each = pace.solvedIn(riddle, solved - came) << EIGHTHS * (last - solved);
                    for (int here = 0; here <= last && each != 0; here++) {
                        int box = Math.max(here, solved) + behind.stepsFrom(riddle);
                        boolean ahead = box < solved + front.stepsFrom(riddle);
                        if (box <= last && (ahead || !aheadOnly)) {
                            ways += pairs[came][here] * each;
                        }
                    }
                }
            }
            return ways;
        }

        private static void wipe(long[][] rows) {
            for (int i = 0; i < rows.length; i++) {
                for (int k = 0; k < rows[i].length; k++) {
                    rows[i][k] = 0;
                }
            }
        }
    }

    /** BEST of one against another one: a state of either is MODES times its RIDDLE and what it does. */
    private static final class Duel {
        private static final int KNOWS = 6;
        private static final int WALKS = 6;
        private static final int ASTRAY = 12;
        private static final int ASTRAY_KNOWING = 16;
        /** Of y alone: it THINKS, but does in this TICK what x began in the TICK before. */
        private static final int COPIES_WALK = 6;
        private static final int COPIES_LEAD = 17;
        private static final int MODES = 21;
        private static final int MODES_OF_Y = 18;
        private static final int BOX = RIDDLES_MOST * MODES;
        private static final int GO_ON = -1;
        private static final int THINK = 0;
        private static final int GO = 1;
        private static final int WAIT = 2;
        private static final int FOLLOW = 3;
        private static final int LEAD = 4;

        private final Hill hill;
        private Skill skillX;
        private Skill skillY;
        /** VALUES by TICKS left and both states; NONE: not yet reckoned. */
        private final long[] values = new long[LAST_TICK * BOX * RIDDLES_MOST * MODES_OF_Y];
        private int x = NONE;
        private int y = NONE;
        private int never;
        private int changes;
        private boolean copies;

        Duel(Hill hill) {
            this.hill = hill;
            skillX = new Skill();
            skillY = skillX;
        }

        /** What was reckoned for the same two is kept as long as nothing on the hill changes. */
        void begin(int newX, int newY, int newNever) {
            if (x == newX && y == newY && never == newNever && changes == hill.changes) {
                return;
            }
            x = newX;
            y = newY;
            never = newNever;
            changes = hill.changes;
            copies = hill.followsSeen(y);
            skillX = hill.skill(x);
            skillY = hill.skill(y);
            int used = LAST_TICK * hill.riddles * MODES * hill.riddles * MODES_OF_Y;
            for (int i = 0; i < used && i < values.length; i++) {
                values[i] = NONE;
            }
        }

        int stateOfX(int number) {
            int riddle = number < 0 ? NONE : number / 100;
            int mode = modeOf(number % 100);
            return hill.hasRiddle(riddle) && mode != NONE ? riddle * MODES + mode : NONE;
        }

        int stateOfY(int number, int began) {
            int state = stateOfX(number);
            int mode = state == NONE ? NONE : state % MODES;
            if (mode == KNOWS || mode > ASTRAY_KNOWING) {
                return NONE;
            }
            return state == NONE ? NONE : seeing(state, began);
        }

        /** VALUE, in WAYS of 64 for each TICK left. */
        long worthOf(int left, int stateX, int stateY) {
            return value(left, stateX, stateY);
        }

        /** What x does best; NONE: nothing can be done. */
        int choice(int left, int stateX, int stateY) {
            int choice = NONE;
            long most = -1;
            for (int deed = THINK; deed <= LEAD && left > 0; deed++) {
                if (can(deed, stateX, stateY)) {
                    long value = doing(deed, left, stateX, stateY);
                    choice = value > most ? deed : choice;
                    most = Math.max(most, value);
                }
            }
            return choice;
        }

        int waitsFrom(int riddle, int left, int t) {
            int place = riddle * MODES;
            int ticks = 0;
            for (int k = 0; k < left && k < LAST_TICK; k++) {
                if (choice(left - k, place + KNOWS, place + Math.min(THOUGHT_MOST, t + k)) != WAIT) {
                    break;
                }
                ticks++;
            }
            return ticks;
        }

        private static int modeOf(int code) {
            if (within(code, 0, THOUGHT_MOST)) {
                return code;
            }
            if (within(code, 10, 16)) {
                return code - 10 + KNOWS;
            }
            if (within(code, 21, 24)) {
                return code - 20 + ASTRAY;
            }
            return within(code, 31, 34) ? code - 30 + ASTRAY_KNOWING : NONE;
        }

        private long value(int left, int stateX, int stateY) {
            if (stateX == BOX) {
                return (stateY == BOX ? 1L : 2L) << SIXTY_FOURTHS * left;
            }
            if (stateY == BOX || left <= 0) {
                return stateY == BOX ? 0 : 1;
            }
            int i = (left - 1) * hill.riddles * MODES + stateX;
            i = (i * hill.riddles + stateY / MODES) * MODES_OF_Y + stateY % MODES;
            if (i < 0 || i >= values.length) {
                return 0;
            }
            if (values[i] != NONE) {
                return values[i];
            }
            long most = 0;
            for (int deed = GO_ON; deed <= LEAD; deed++) {
                if (can(deed, stateX, stateY)) {
                    most = Math.max(most, doing(deed, left, stateX, stateY));
                }
            }
            values[i] = most;
            return most;
        }

        private boolean can(int deed, int stateX, int stateY) {
            int mode = stateX % MODES;
            if (mode > KNOWS || deed == GO_ON) {
                return mode > KNOWS && deed == GO_ON;
            }
            if (deed >= WAIT && (never >> deed - WAIT & 1) == 1) {
                return false;
            }
            if (deed == THINK) {
                return mode != KNOWS;
            }
            if (deed == FOLLOW) {
                return hill.fog == 0 && stateX / MODES == stateY / MODES && walks(stateY % MODES);
            }
            return deed == LEAD || mode == KNOWS;
        }

        /** VALUE of one deed: over what thinking may bring, if it is that. */
        private long doing(int deed, int left, int stateX, int stateY) {
            int riddle = stateX / MODES;
            int mode = stateX % MODES;
            boolean here = riddle == stateY / MODES;
            switch (deed) {
                case THINK:
                    return thinking(left, stateX, stateY);
                case GO:
                case FOLLOW:
                    return 8 * against(left, walkOn(riddle, skillX.stepsFrom(riddle) - 1), stateY, here ? 1 : 0);
                case LEAD:
                    return 8 * against(left, strayOn(riddle, hill.delay - 1, mode == KNOWS), stateY, here ? 2 : 0);
                case GO_ON:
                    return 8 * against(left, goOn(stateX), stateY, 0);
                default:
                    return 8 * against(left, stateX, stateY, 0);
            }
        }

        private long thinking(int left, int stateX, int stateY) {
            int riddle = stateX / MODES;
            int t = stateX % MODES;
            int good = skillX.goodAt(riddle, t);
            int bad = skillX.badAt(riddle, t);
            long value = 0;
            if (good > 0) {
                value += good * against(left, riddle * MODES + KNOWS, stateY, 0);
            }
            if (bad > 0) {
                value += bad * against(left, strayOn(riddle, hill.delay, false), stateY, 0);
            }
            if (good + bad < 8) {
                value += (8 - good - bad) * against(left, thoughtOn(riddle, t), stateY, 0);
            }
            return value;
        }

        /** Over what y does in this TICK: began is what x begins in it at y's RIDDLE. */
        private long against(int left, int nextX, int stateY, int began) {
            int riddle = stateY / MODES;
            int mode = stateY % MODES;
            if (mode >= KNOWS) {
                return 8 * seen(left, nextX, riddle, movedY(stateY), began);
            }
            int good = skillY.goodAt(riddle, mode);
            int bad = skillY.badAt(riddle, mode);
            long value = 0;
            if (good > 0) {
                value += good * seen(left, nextX, riddle, walkOn(riddle, skillY.stepsFrom(riddle)), began);
            }
            if (bad > 0) {
                value += bad * seen(left, nextX, riddle, strayOn(riddle, hill.delay, false), began);
            }
            if (good + bad < 8) {
                value += (8 - good - bad) * seen(left, nextX, riddle, thoughtOn(riddle, mode), began);
            }
            return value;
        }

        private long seen(int left, int nextX, int riddleBefore, int nextY, int began) {
            boolean stayed = nextY / MODES == riddleBefore;
            return value(left - 1, nextX, stayed ? seeing(nextY, began) : nextY);
        }

        /** The state of y if x began something at its RIDDLE in the TICK before. */
        private int seeing(int stateY, int began) {
            if (!copies || began == 0 || stateY % MODES >= KNOWS || stateY >= BOX) {
                return stateY;
            }
            return stateY / MODES * MODES + (began == 1 ? COPIES_WALK : COPIES_LEAD);
        }

        private int movedY(int stateY) {
            int riddle = stateY / MODES;
            switch (stateY % MODES) {
                case COPIES_WALK:
                    return walkOn(riddle, skillY.stepsFrom(riddle) - 1);
                case COPIES_LEAD:
                    return strayOn(riddle, hill.delay - 1, false);
                default:
                    return goOn(stateY);
            }
        }

        private int goOn(int state) {
            int riddle = state / MODES;
            int mode = state % MODES;
            if (walks(mode)) {
                return walkOn(riddle, mode - WALKS - 1);
            }
            boolean knowing = mode > ASTRAY_KNOWING;
            return strayOn(riddle, mode - 1 - (knowing ? ASTRAY_KNOWING : ASTRAY), knowing);
        }

        private static boolean walks(int mode) {
            return mode > WALKS && mode <= ASTRAY;
        }

        private int walkOn(int riddle, int left) {
            if (left > 0) {
                return riddle * MODES + WALKS + left;
            }
            return riddle + 1 < hill.riddles ? (riddle + 1) * MODES : BOX;
        }

        private static int strayOn(int riddle, int left, boolean knowing) {
            if (left > 0) {
                return riddle * MODES + (knowing ? ASTRAY_KNOWING : ASTRAY) + left;
            }
            return riddle * MODES + (knowing ? KNOWS : 0);
        }

        private static int thoughtOn(int riddle, int t) {
            return riddle * MODES + Math.min(THOUGHT_MOST, t + 1);
        }
    }

    /** Rows of the RIDDLES, and how they are GIVEN. */
    private static final class Orders {
        private final int[] rows = new int[ORDERS_MOST * RIDDLES_MOST];
        private final int[] met = new int[ORDERS_MOST * ORDERS_MOST];
        private final int[] row = new int[BANDS_MOST];
        private final int[] leastRow = new int[BANDS_MOST];
        private int riddles;
        int size;
        int meetings;

        void fall() {
            size = 0;
        }

        int add(Tape tape, int riddlesNow) {
            riddles = Math.max(0, Math.min(RIDDLES_MOST, riddlesNow));
            int told = 0;
            for (int i = 0; i < riddles; i++) {
                int riddle = tape.byteAt(i);
                if (!within(riddle, 0, riddles - 1) || (told >> riddle & 1) == 1) {
                    return NOT_SO;
                }
                told |= 1 << riddle;
            }
            for (int i = 0; i < riddles && size < ORDERS_MOST; i++) {
                rows[size * RIDDLES_MOST + i] = tape.byteAt(i);
            }
            size++;
            return size - 1;
        }

        int rowOf(int band) {
            return band >= 0 && band < BANDS_MOST ? leastRow[band] : NONE;
        }

        /** Tries the rows from the least one on: so the first of like ones stays. */
        void giveTo(int n) {
            meetAll();
            int bands = Math.max(0, Math.min(BANDS_MOST, n));
            int tries = 1;
            for (int i = 0; i < bands; i++) {
                row[i] = 0;
                tries *= size;
            }
            meetings = NONE;
            for (int k = 0; k < tries; k++) {
                int now = meetingsOfRow(bands);
                if (meetings == NONE || now < meetings) {
                    meetings = now;
                    keepRow(bands);
                }
                nextRow(bands);
            }
        }

        private void keepRow(int bands) {
            for (int i = 0; i < bands; i++) {
                leastRow[i] = row[i];
            }
        }

        private void nextRow(int bands) {
            for (int i = bands - 1; i >= 0; i--) {
                row[i]++;
                if (row[i] < size) {
                    return;
                }
                row[i] = 0;
            }
        }

        private int meetingsOfRow(int bands) {
            int sum = 0;
            for (int i = 0; i < bands; i++) {
                for (int k = i + 1; k < bands; k++) {
                    sum += met[row[i] * ORDERS_MOST + row[k]];
                }
            }
            return sum;
        }

        private void meetAll() {
            for (int i = 0; i < size && i < ORDERS_MOST; i++) {
                for (int k = 0; k < size && k < ORDERS_MOST; k++) {
                    int sum = 0;
                    for (int place = 1; place < riddles; place++) {
                        sum += rows[i * RIDDLES_MOST + place] == rows[k * RIDDLES_MOST + place] ? 1 : 0;
                    }
                    met[i * ORDERS_MOST + k] = sum;
                }
            }
        }
    }

    /** Who went from where at which TICK. */
    private static final class Log {
        static final int BAND = 0;
        static final int RIDDLE = 1;
        static final int TICK = 2;

        private final int[] entries = new int[3 * LOG_ROOM];
        int size;

        void fall() {
            size = 0;
        }

        boolean has(int i) {
            return i >= 0 && i < size && i < LOG_ROOM;
        }

        int entry(int i, int what) {
            return has(i) && within(what, BAND, TICK) ? entries[3 * i + what] : NONE;
        }

        void add(int band, int riddle, int tick) {
            if (size < 0 || size >= LOG_ROOM) {
                return;
            }
            entries[3 * size] = band;
            entries[3 * size + 1] = riddle;
            entries[3 * size + 2] = tick;
            size++;
        }

        int lastTick() {
            return size == 0 ? 0 : entry(size - 1, TICK);
        }

        boolean tells(int band, int riddle) {
            for (int i = 0; i < size; i++) {
                if (entry(i, BAND) == band && entry(i, RIDDLE) == riddle) {
                    return true;
                }
            }
            return false;
        }

        /** The going of the same BAND that is told last ahead of going i; NONE: there is none. */
        int goingBefore(int i) {
            int last = NONE;
            for (int k = 0; k < i && k < size; k++) {
                last = entry(k, BAND) == entry(i, BAND) ? k : last;
            }
            return last;
        }

        /** Whether, told ahead of going i, another BAND went from there so short before that it may have been seen. */
        boolean seesGoing(int i) {
            for (int k = 0; k < i && k < size; k++) {
                boolean other = entry(k, BAND) != entry(i, BAND) && entry(k, RIDDLE) == entry(i, RIDDLE);
                if (other && entry(k, TICK) >= entry(i, TICK) - 2) {
                    return true;
                }
            }
            return false;
        }

        /** The place of the first number of a tape, of 3 n, that is not as here; 3 n: some are lacking; NONE: right. */
        int firstWrong(Tape tape, int n) {
            for (int i = 0; i < 3 * n; i++) {
                if (!has(i / 3) || tape.numberAt(i) != entry(i / 3, i % 3)) {
                    return i;
                }
            }
            return n < size ? 3 * n : NONE;
        }
    }

    /** A hunt DRAWN. */
    private static final class Hunt {
        private static final int THINKS = 0;
        private static final int WALKS = 1;
        private static final int ASTRAY = 2;
        private static final int HAS_BOX = 3;

        private final Hill hill;
        private final Log log;
        private final Skill[] skills = new Skill[BANDS_MOST];
        private final int[] riddle = new int[BANDS_MOST];
        private final int[] doing = new int[BANDS_MOST];
        /** TICKS thought, or TICKS left. */
        private final int[] ticks = new int[BANDS_MOST];
        private final int[] box = new int[BANDS_MOST];
        private int found;
        int dice = 1;
        boolean drawn;

        Hunt(Hill hill, Log log) {
            this.hill = hill;
            this.log = log;
        }

        int boxTick(int band) {
            return band >= 0 && band < BANDS_MOST ? box[band] : NONE;
        }

        int play() {
            log.fall();
            found = 0;
            drawn = true;
            for (int band = 0; band < BANDS_MOST; band++) {
                skills[band] = hill.skill(band);
                riddle[band] = 0;
                doing[band] = THINKS;
                ticks[band] = 0;
                box[band] = 0;
            }
            for (int tick = 1; tick <= LAST_TICK; tick++) {
                for (int band = 0; band < hill.bands && band < BANDS_MOST; band++) {
                    move(band, tick);
                }
            }
            return found;
        }

        private void move(int band, int tick) {
            if (doing[band] == THINKS) {
                thinkOrFollow(band, tick);
            } else if (doing[band] == WALKS) {
                step(band, tick);
            } else if (doing[band] == ASTRAY) {
                ticks[band]--;
                doing[band] = ticks[band] == 0 ? THINKS : ASTRAY;
            }
        }

        private void thinkOrFollow(int band, int tick) {
            if (hill.followsSeen(band) && anotherWent(band, tick - 1)) {
                begin(band, tick);
                step(band, tick);
                return;
            }
            Skill skill = skills[band];
            if (skill == null) {
                return;
            }
            int good = skill.goodAt(riddle[band], ticks[band]);
            int bad = skill.badAt(riddle[band], ticks[band]);
            dice = (25173 * dice + 13849) % 65536;
            int thrown = dice % 8;
            if (thrown < good) {
                begin(band, tick);
            } else if (thrown < good + bad) {
                doing[band] = ASTRAY;
                ticks[band] = hill.delay;
            } else {
                ticks[band] = Math.min(THOUGHT_MOST, ticks[band] + 1);
            }
        }

        private void begin(int band, int tick) {
            log.add(band, riddle[band], tick);
            doing[band] = WALKS;
            ticks[band] = hill.steps(band, riddle[band]);
        }

        private void step(int band, int tick) {
            ticks[band]--;
            if (ticks[band] > 0) {
                return;
            }
            riddle[band]++;
            ticks[band] = 0;
            doing[band] = THINKS;
            if (riddle[band] >= hill.riddles) {
                doing[band] = HAS_BOX;
                box[band] = tick;
                found++;
            }
        }

        private boolean anotherWent(int band, int tick) {
            for (int i = 0; i < log.size; i++) {
                boolean other = log.entry(i, Log.BAND) != band && log.entry(i, Log.RIDDLE) == riddle[band];
                if (other && log.entry(i, Log.TICK) == tick) {
                    return true;
                }
            }
            return false;
        }
    }
}
