import java.lang.reflect.InvocationTargetException;
import java.lang.reflect.Method;
import java.lang.reflect.Modifier;
import java.util.ArrayList;
import java.util.Arrays;
import java.util.List;
import java.util.TreeMap;
import java.util.Map;

/**
 * A call that is not refused changes what the document tells of it and nothing else: an object that it was made on
 * and a twin that never saw it are compared part by part. To ask changes nothing, and no answer hangs on what was asked before.
 */
public final class RunHuntTouched {
    static final String LAW = "s[c-h+9]%5+t*2(t<4&b<2);s2(1=1);e[q+r]%4(h>2)";
    static final String TEXT = "sc*3%7+[b+1]*r(t<3|q=5);s12345%7(1=1);e3-b(!h<4&f<1)";
    static int wrong = 0;
    static int looked = 0;

    public static void main(String[] args) {
        if (told().size() + asking().size() != faceSize()) {
            due("calls that are looked at", told().size() + asking().size(), faceSize());
        }
        for (Change change : changes()) {
            touches(change);
        }
        for (Change asked : questions()) {
            touches(asked);
        }
        answersAlike();
        System.out.println(looked + " parts looked at; " + (wrong == 0 ? "each call changes what is told and nothing else" : wrong + " are not as due"));
        System.exit(wrong == 0 ? 0 : 1);
    }

    static void due(String what, Object got, Object want) {
        looked++;
        if (!got.equals(want)) {
            wrong++;
            if (wrong < 40) {
                System.out.println(what + ": " + got + ", due is " + want);
            }
        }
    }

    // ---- calls

    /** A call, the first bytes of the tape that it finds, what it answers, and which parts it changes. */
    static final class Change {
        final String name;
        final int[] with;
        int[] tape = bytes(TEXT);
        long answer = Long.MIN_VALUE;
        List<String> parts = new ArrayList<>();

        Change(String name, int... with) {
            this.name = name;
            this.with = with;
        }

        Change finds(int... bytes) {
            tape = bytes;
            return this;
        }

        Change answers(long due) {
            answer = due;
            return this;
        }

        Change changes(String... some) {
            parts = Arrays.asList(some);
            return this;
        }

        long on(RunHunt x) {
            Object[] boxed = new Object[with.length];
            for (int i = 0; i < with.length; i++) {
                boxed[i] = with[i];
            }
            try {
                Object got = method(name).invoke(x, boxed);
                return got instanceof Boolean ? (Boolean) got ? 1 : 0 : ((Number) got).longValue();
            } catch (IllegalAccessException | InvocationTargetException e) {
                throw new IllegalStateException(this + " threw " + e.getCause());
            }
        }

        @Override
        public String toString() {
            return name + Arrays.toString(with);
        }
    }

    static Method method(String name) {
        for (Method m : RunHunt.class.getDeclaredMethods()) {
            if (m.getName().equals(name) && Modifier.isPublic(m.getModifiers())) {
                return m;
            }
        }
        throw new IllegalArgumentException(name);
    }

    static int faceSize() {
        int size = 0;
        for (Method m : RunHunt.class.getDeclaredMethods()) {
            size += Modifier.isPublic(m.getModifiers()) ? 1 : 0;
        }
        return size;
    }

    static List<String> told() {
        List<String> names = new ArrayList<>();
        for (Change change : changes()) {
            if (!names.contains(change.name)) {
                names.add(change.name);
            }
        }
        return names;
    }

    static List<String> asking() {
        List<String> names = new ArrayList<>();
        for (Change asked : questions()) {
            if (!names.contains(asked.name)) {
                names.add(asked.name);
            }
        }
        return names;
    }

    static List<Change> changes() {
        List<Change> all = new ArrayList<>();
        all.add(new Change("riddle", 4, 7, 7).answers(3).changes("RIDDLES", "ORDERS", "LOG", "HAD", "WAYS", "BEST"));
        all.add(new Change("band", 4, 3, 1).answers(3).changes("BANDS", "LOG", "HAD"));
        all.add(new Change("weather", 1, 0).answers(1).changes("DELAY", "WAYS", "BEST"));
        all.add(new Change("weather", 3, 1).answers(1).changes("FOG", "BEST"));
        all.add(new Change("weather", 3, 0).answers(1));
        all.add(new Change("feed", 1, 2, 3, 4, 5).answers(80).changes("TAPE"));
        all.add(new Change("law", TEXT.length()).answers(3).changes("LAW", "TAPE", "WAYS", "BEST"));
        all.add(new Change("law", TEXT.length() + 1).answers(-1000 - TEXT.length()).changes("TAPE"));
        all.add(new Change("law", 3).answers(-1003).changes("TAPE"));
        all.add(new Change("law", 61).answers(-1));
        all.add(new Change("order").finds(1, 0, 2).answers(3).changes("ORDERS", "TAPE"));
        all.add(new Change("order").finds(1, 0, 1).answers(-2).changes("TAPE"));
        all.add(new Change("order").finds(1, 0, 3).answers(-2).changes("TAPE"));
        all.add(new Change("went", 2, 2, 10).answers(goings() + 1).changes("LOG"));
        all.add(new Change("seed", 65535).answers(1).changes("X"));
        all.add(new Change("seed", 0).answers(1).changes("X"));
        all.add(new Change("draw").changes("LOG", "X", "HAD"));
        all.add(new Change("clear").answers(goings()).changes("LOG", "HAD"));
        all.add(new Change("check", 0).answers(0).changes("TAPE"));
        all.add(new Change("check", 1).answers(0).changes("TAPE"));
        all.add(new Change("check", goings()).finds(toldLog()).answers(-1).changes("TAPE"));
        all.add(new Change("check", goings() - 1).finds(toldLog()).answers(3 * goings() - 3).changes("TAPE"));
        all.add(new Change("check", 30).answers(-2));
        return all;
    }

    static List<Change> questions() {
        List<Change> all = new ArrayList<>();
        for (int b = 0; b < 3; b++) {
            all.add(new Change("had", b));
            for (int r = 0; r < 3; r++) {
                all.add(new Change("walk", b, r));
                all.add(new Change("chance", b, r, r + b, r % 2));
            }
            for (int what : new int[] {0, 2, 5, 6}) {
                all.add(new Change("ways", b, 10 - b, what));
            }
            for (int y = 0; y < 3; y++) {
                if (y != b) {
                    askOfTwo(all, b, y);
                }
            }
        }
        for (int n = 2; n <= 5; n++) {
            all.add(new Change("given", n, -1));
            all.add(new Change("given", n, n - 1));
        }
        for (int i = 0; i < goings(); i++) {
            all.add(new Change("logged", i, i % 3));
            all.add(new Change("knew", i, 1 + i % 8, i % 2));
        }
        for (int what = 0; what <= 8; what++) {
            all.add(new Change("count", what));
        }
        return all;
    }

    static void askOfTwo(List<Change> all, int x, int y) {
        all.add(new Change("ahead", x, y, x));
        all.add(new Change("ahead", x, y, 3));
        all.add(new Change("share", x, y, 10));
        all.add(new Change("after", x, y, 10, 0));
        all.add(new Change("after", x, y, 9, 1));
        all.add(new Change("edge", x, y));
        all.add(new Change("best", x, y, 8, 0, 0, 0, 0));
        all.add(new Change("best", x, y, 7, 110, 103, 1, 0));
        all.add(new Change("best", x, y, 9, 2, 11, 0, 1));
        all.add(new Change("without", x, y, 1 + x + y));
        all.add(new Change("waits", x, y, 1, 6, y));
        all.add(new Change("cleverest", x, y, 0));
        all.add(new Change("cleverest", x, y, 2));
    }

    // ---- the object, and what it answers

    static int[] bytes(String text) {
        return text.chars().toArray();
    }

    static void feed(RunHunt x, int... bytes) {
        for (int i = 0; i < bytes.length; i += 20) {
            int[] w = new int[5];
            for (int k = 0; k < 20 && i + k < bytes.length; k++) {
                w[k / 4] |= (bytes[i + k] & 255) << 24 - 8 * (k % 4);
            }
            x.feed(w[0], w[1], w[2], w[3], w[4]);
        }
    }

    /** Three RIDDLES, three BANDS (the last one FOLLOWS), three ORDERS, DELAY 3, a hunt DRAWN; nothing on the tape. */
    static RunHunt hill() {
        RunHunt x = new RunHunt();
        feed(x, bytes(LAW));
        x.law(LAW.length());
        x.riddle(3, 4, 0);
        x.riddle(1, 4, 6);
        x.riddle(6, 1, 5);
        x.band(5, 6, 0);
        x.band(8, 2, 0);
        x.band(4, 9, 1);
        x.weather(3, 0);
        for (int[] row : new int[][] {{0, 1, 2}, {0, 2, 1}, {2, 1, 0}}) {
            feed(x, row);
            x.order();
        }
        x.seed(SEED);
        x.draw();
        return x;
    }

    /** By this one BAND 0 comes to THE BOX; BAND 2 follows it from RIDDLE 0, but goes from RIDDLE 2 no more. */
    static final int SEED = 3;

    static int goings() {
        return hill().count(5);
    }

    static int[] toldLog() {
        RunHunt x = hill();
        int[] told = new int[12 * x.count(5)];
        for (int i = 0; i < 3 * x.count(5); i++) {
            told[4 * i + 3] = x.logged(i / 3, i % 3);
        }
        return told;
    }

    static RunHunt made(int[] tape) {
        RunHunt x = hill();
        feed(x, tape);
        return x;
    }

    /** The parts, by what is asked; what reads the tape comes last, as it empties it. */
    static Map<String, String> parts(RunHunt x) {
        Map<String, String> map = new TreeMap<>();
        String[] counts = {"RIDDLES", "BANDS", "LAW", "TAPE", "ORDERS", "LOG", "X", "DELAY", "FOG"};
        for (int what = 0; what < counts.length; what++) {
            add(map, counts[what], x.count(what));
        }
        int log = x.count(5);
        for (int i = 0; i < 3 * log; i++) {
            add(map, "LOG", x.logged(i / 3, i % 3));
        }
        for (int b = 0; b < 3; b++) {
            add(map, "HAD", x.had(b));
            for (int r = 0; r < 3; r++) {
                add(map, "WALKS", x.walk(b, r));
            }
            chances(x, b, "LAW", map);
            add(map, "WAYS", x.ways(b, 10, 5));
            add(map, "BEST", x.best(b, (b + 1) % 3, 6, 210, 202, 1, 0));
            add(map, "BEST", x.best((b + 1) % 3, b, 6, 200, 203, 2, 0));
        }
        for (int n = 2; n <= 5; n++) {
            for (int what = -1; what < n; what++) {
                add(map, "ORDERS", x.given(n, what));
            }
        }
        return map;
    }

    static void add(Map<String, String> map, String part, long answer) {
        map.merge(part, " " + answer, String::concat);
    }

    static void chances(RunHunt x, int band, String part, Map<String, String> map) {
        for (int r = 0; r < 3; r++) {
            for (int t = 0; t <= 5; t++) {
                add(map, part, 10 * x.chance(band, r, t, 0) + x.chance(band, r, t, 1));
            }
        }
    }

    /** What stands on the tape: read as a LAW, of this length and longer by one. */
    static String tape(RunHunt x, int n) {
        Map<String, String> map = new TreeMap<>();
        add(map, "TAPE", x.law(Math.min(n, x.count(3))));
        for (int b = 0; b < 3; b++) {
            chances(x, b, "TAPE", map);
        }
        return map.get("TAPE");
    }

    static void touches(Change change) {
        RunHunt x = made(change.tape);
        long answer = change.on(x);
        if (change.answer != Long.MIN_VALUE) {
            due(change + " answers", answer, change.answer);
        }
        Map<String, String> before = parts(made(change.tape)), now = parts(x);
        for (String part : before.keySet()) {
            due(change + " changes " + part + " from" + before.get(part) + " to" + now.get(part),
                !before.get(part).equals(now.get(part)), change.parts.contains(part));
        }
        if (!change.parts.contains("TAPE")) {
            for (int n = TEXT.length(); n <= TEXT.length() + 1; n++) {
                RunHunt z = made(change.tape);
                change.on(z);
                String due = change.name.equals("riddle") || change.name.equals("weather") ? untouched(change, n) : tape(made(change.tape), n);
                due(change + " leaves the tape", tape(z, n), due);
            }
        }
    }

    /** A RIDDLE more, or other weather, with the tape fed behind it: what f and n mean is another thing then. */
    static String untouched(Change change, int n) {
        RunHunt x = hill();
        change.on(x);
        feed(x, change.tape);
        return tape(x, n);
    }

    /** All questions, one behind the other, and backwards: each is answered as on an object that was asked nothing else. */
    static void answersAlike() {
        List<Change> all = questions();
        long[] first = new long[all.size()];
        for (int i = 0; i < first.length; i++) {
            first[i] = all.get(i).on(hill());
        }
        for (int stride : new int[] {1, first.length - 1, 7, 11, 31}) {
            RunHunt x = hill();
            int i = 0;
            for (int k = 0; k < first.length && k < 450; k++) {
                due(all.get(i) + " by strides of " + stride, all.get(i).on(x), first[i]);
                i = (i + stride) % first.length;
            }
        }
    }
}
