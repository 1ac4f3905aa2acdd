import java.lang.reflect.InvocationTargetException;
import java.lang.reflect.Method;
import java.lang.reflect.Modifier;
import java.util.Arrays;

/**
 * Each number of each call, at both ends of what the document lets it be: just inside it is taken, just outside it is refused,
 * and a refused call has changed nothing: an object that it was made on and a twin that never saw it answer all else alike,
 * the bytes of the tape, X and the hunt DRAWN last among it.
 */
public final class RunHuntRefused {
    static final int FREE = Integer.MIN_VALUE;
    static int wrong = 0;
    static int calls = 0;

    interface Made {
        RunHunt make();
    }

    public static void main(String[] args) {
        ordinary();
        lastTick();
        oneTwice();
        newObject();
        noBands();
        noRiddles();
        noOrders();
        noHunt();
        full();
        tapes();
        faults();
        System.out.println(calls + " calls; " + (wrong == 0 ? "what is refused changes nothing" : wrong + " answers are not as due"));
        System.exit(wrong == 0 ? 0 : 1);
    }

    // ---- what is compared

    static void due(String what, Object got, Object want) {
        calls++;
        if (!got.equals(want)) {
            wrong++;
            System.out.println(what + " answered " + got + ", due is " + want);
        }
    }

    static long call(RunHunt x, String name, int... with) {
        for (Method m : RunHunt.class.getDeclaredMethods()) {
            if (m.getName().equals(name) && Modifier.isPublic(m.getModifiers())) {
                Object[] boxed = new Object[with.length];
                for (int i = 0; i < with.length; i++) {
                    boxed[i] = with[i];
                }
                try {
                    Object got = m.invoke(x, boxed);
                    return got instanceof Boolean ? (Boolean) got ? 1 : 0 : ((Number) got).longValue();
                } catch (IllegalAccessException | InvocationTargetException e) {
                    throw new IllegalStateException(name + Arrays.toString(with) + " threw " + e.getCause());
                }
            }
        }
        throw new IllegalArgumentException(name);
    }

    /** All that an object answers, the tape last: its bytes are told by what a LAW of these means (or which FAULT it has). */
    static String dump(RunHunt x) {
        StringBuilder text = new StringBuilder();
        for (int what = 0; what <= 8; what++) {
            text.append(x.count(what)).append(' ');
        }
        int riddles = x.count(0), bands = x.count(1);
        for (int b = 0; b < bands; b++) {
            text.append("\nBAND ").append(b).append(" had ").append(x.had(b)).append(':');
            for (int r = 0; r < riddles; r++) {
                text.append(' ').append(x.walk(b, r)).append('/').append(x.chance(b, r, 0, 1)).append('/');
                for (int t = 0; t <= 5; t += 1 + r) {
                    text.append(x.chance(b, r, t, 0));
                }
            }
        }
        text.append("\nways ").append(x.ways(0, 10, 5)).append(" best ").append(x.best(0, 1, 10, 0, 0, 0, 0));
        text.append("\ngiven ").append(x.given(5, -1));
        for (int b = 0; b < 5; b++) {
            text.append(' ').append(x.given(5, b));
        }
        log(x, text);
        int tape = Math.min(200, x.count(3));
        text.append("\nlaw ").append(x.law(tape)).append(' ').append(x.count(2)).append(' ').append(x.chance(0, 0, 0, 0)).append(' ').append(x.count(3));
        text.append("\ndraw ").append(x.draw()).append(' ').append(x.count(6));
        log(x, text);
        return text.toString();
    }

    static void log(RunHunt x, StringBuilder text) {
        text.append("\nLOG");
        for (int i = 0; i < x.count(5); i++) {
            text.append(' ').append(x.logged(i, 0)).append(x.logged(i, 1)).append('@').append(x.logged(i, 2));
        }
    }

    static void refused(Made made, long answer, String name, int... with) {
        RunHunt x = made.make();
        due(name + Arrays.toString(with), call(x, name, with), answer);
        due("behind " + name + Arrays.toString(with) + ":\n", dump(x), dump(made.make()));
    }

    /** Refused, but the tape is empty then. */
    static void refusedWithTape(Made made, long answer, String name, int... with) {
        RunHunt x = made.make(), twin = made.make();
        due(name + Arrays.toString(with), call(x, name, with), answer);
        twin.check(0);
        due("behind " + name + Arrays.toString(with) + ":\n", dump(x), dump(twin));
    }

    static void taken(Made made, long refusal, String name, int... with) {
        due(name + Arrays.toString(with) + " is refused", call(made.make(), name, with) == refusal, false);
    }

    static long refusal(String name) {
        return name.equals("weather") || name.equals("seed") ? 0 : name.equals("without") ? 1 : name.equals("check") ? -2 : -1;
    }

    /** From a call that is taken: each number at its ends (least, most, least, most ..; FREE: no end is named), and beside these. */
    static void ends(Made made, String name, int[] with, int... leastMost) {
        taken(made, refusal(name), name, with);
        for (int i = 0; i < with.length; i++) {
            int least = leastMost[2 * i], most = leastMost[2 * i + 1];
            if (least == FREE) {
                continue;
            }
            for (int inside : new int[] {least, most}) {
                taken(made, refusal(name), name, put(with, i, inside));
            }
            for (int outside : new int[] {least - 1, least - 2, most + 1, most + 2, Integer.MIN_VALUE, Integer.MAX_VALUE}) {
                refused(made, refusal(name), name, put(with, i, outside));
            }
        }
    }

    static int[] put(int[] with, int i, int number) {
        int[] other = with.clone();
        other[i] = number;
        return other;
    }

    // ---- hills

    static void feedBytes(RunHunt x, int... bytes) {
        for (int i = 0; i < bytes.length; i += 20) {
            int[] w = new int[5];
            for (int k = 0; k < 20 && i + k < bytes.length; k++) {
                w[k / 4] |= (bytes[i + k] & 255) << 24 - 8 * (k % 4);
            }
            x.feed(w[0], w[1], w[2], w[3], w[4]);
        }
    }

    static void law(RunHunt x, String text) {
        x.check(0);
        feedBytes(x, text.chars().toArray());
        due("law " + text, x.law(text.length()) > 0, true);
    }

    static void order(RunHunt x, int... row) {
        x.check(0);
        feedBytes(x, row);
        due("order " + Arrays.toString(row), x.order() >= 0, true);
    }

    /** A LAW of just so many bytes, by which all solve at once: another one than the one that holds. */
    static void lawOnTape(RunHunt x, int bytes) {
        StringBuilder text = new StringBuilder("s8");
        while (text.length() + 2 <= bytes - 5) {
            text.append("+0");
        }
        if (text.length() < bytes - 5) {
            text.append('0');
        }
        feedBytes(x, text.append("(1=1)").chars().toArray());
    }

    static RunHunt bare(int riddles, int bands) {
        RunHunt x = new RunHunt();
        law(x, "s1+t%4(h<9);e2(b>0)");
        for (int r = 0; r < riddles; r++) {
            x.riddle(r, 2 * r, 1);
        }
        for (int b = 0; b < bands; b++) {
            x.band(b, b + 3, b % 2);
        }
        return x;
    }

    /** Two RIDDLES, three BANDS, two ORDERS, a hunt DRAWN, and a going more: BAND 2 from RIDDLE 1 is free; 20 bytes. */
    static RunHunt ordinaryHill() {
        RunHunt x = bare(2, 3);
        x.weather(3, 0);
        order(x, 1, 0);
        order(x, 0, 1);
        law(x, "s8(1=1)");
        x.draw();
        x.clear();
        x.seed(7);
        law(x, "s0(b=2&r=1);s1+t%4(h<9);e2(b>0)");
        x.draw();
        lawOnTape(x, 20);
        return x;
    }

    /** Of the LOG that fell. */
    static int earlierGoings() {
        RunHunt x = bare(2, 3);
        law(x, "s8(1=1)");
        x.draw();
        return x.count(5);
    }

    static int goings() {
        return ordinaryHill().count(5);
    }

    static int lastGoing() {
        RunHunt x = ordinaryHill();
        return x.logged(x.count(5) - 1, 2);
    }

    // ---- calls

    static void ordinary() {
        Made hill = RunHuntRefused::ordinaryHill;
        due("a hunt with goings", goings() > 1 && lastGoing() < 10, true);
        due("another LOG before it, of more", earlierGoings() > goings() + 1, true);
        due("another BAND has THE BOX", hill.make().had(0) + hill.make().had(1) > 0, true);
        ends(hill, "riddle", new int[] {3, 4, 5}, 0, 9, 0, 30, 0, 30);
        ends(hill, "band", new int[] {3, 4, 1}, 0, 9, 1, 9, 0, 1);
        ends(hill, "weather", new int[] {2, 1}, 1, 4, 0, 1);
        ends(hill, "law", new int[] {20}, 1, 20);
        ends(hill, "chance", new int[] {1, 1, 2, 0}, 0, 2, 0, 1, 0, 5, 0, 1);
        ends(hill, "walk", new int[] {1, 1}, 0, 2, 0, 1);
        ends(hill, "ways", new int[] {1, 5, 5}, 0, 2, 1, 10, FREE, FREE);
        ends(hill, "ahead", new int[] {0, 2, 1}, 0, 1, 1, 2, 0, 3);
        ends(hill, "ahead", new int[] {2, 0, 1}, 1, 2, 0, 1, 0, 3);
        ends(hill, "share", new int[] {0, 2, 7}, 0, 1, 1, 2, 1, 10);
        ends(hill, "share", new int[] {2, 0, 7}, 1, 2, 0, 1, 1, 10);
        ends(hill, "after", new int[] {0, 2, 7, 1}, 0, 1, 1, 2, 1, 10, 0, 1);
        ends(hill, "after", new int[] {2, 0, 7, 1}, 1, 2, 0, 1, 1, 10, 0, 1);
        ends(hill, "edge", new int[] {0, 2}, 0, 1, 1, 2);
        ends(hill, "edge", new int[] {2, 0}, 1, 2, 0, 1);
        ends(hill, "best", new int[] {0, 2, 3, 0, 0, 0, 0}, 0, 1, 1, 2, 0, 10, FREE, FREE, FREE, FREE, 0, 2, 0, 1);
        ends(hill, "best", new int[] {2, 0, 3, 100, 100, 1, 1}, 1, 2, 0, 1, 1, 10, FREE, FREE, FREE, FREE, 0, 2, 0, 1);
        ends(hill, "without", new int[] {0, 2, 3}, 0, 1, 1, 2, 1, 7);
        ends(hill, "without", new int[] {2, 0, 3}, 1, 2, 0, 1, 1, 7);
        ends(hill, "waits", new int[] {0, 2, 1, 4, 3}, 0, 1, 1, 2, 0, 1, 1, 10, 0, 5);
        ends(hill, "waits", new int[] {2, 0, 1, 4, 3}, 1, 2, 0, 1, 0, 1, 1, 10, 0, 5);
        ends(hill, "given", new int[] {2, 1}, 2, 5, FREE, FREE);
        ends(hill, "cleverest", new int[] {0, 2, 1}, 0, 1, 1, 2, 0, 2);
        ends(hill, "cleverest", new int[] {2, 0, 1}, 1, 2, 0, 1, 0, 2);
        ends(hill, "went", new int[] {2, 1, 10}, FREE, FREE, FREE, FREE, lastGoing(), 10);
        ends(hill, "logged", new int[] {0, 1}, 0, goings() - 1, 0, 2);
        ends(hill, "knew", new int[] {0, 1, 0}, 0, goings() - 1, 1, 8, 0, 1);
        ends(hill, "seed", new int[] {300}, 0, 65535);
        ends(hill, "had", new int[] {1}, 0, 2);
        ends(hill, "check", new int[] {1}, 0, 1);
        ends(hill, "count", new int[] {1}, 0, 8);
        for (int what : new int[] {0, 1}) {
            taken(hill, -1, "ways", 1, 5, what);
        }
        for (int what : new int[] {2, 3, 4, -1, 7}) {
            refused(hill, -1, "ways", 1, 5, what);
        }
        for (int n = 2; n <= 5; n++) {
            for (int band = -1; band < n; band++) {
                taken(hill, -1, "given", n, band);
            }
            refused(hill, -1, "given", n, n);
            refused(hill, -1, "given", n, -2);
            refused(hill, -1, "given", n, Integer.MIN_VALUE);
            refused(hill, -1, "given", n, Integer.MAX_VALUE);
        }
        for (int n : new int[] {1, 6, 0, -1, Integer.MIN_VALUE, Integer.MAX_VALUE}) {
            refused(hill, -1, "given", n, -1);
            refused(hill, -1, "given", n, 0);
        }
        for (int[] none : new int[][] {{-1, 1, 10}, {3, 1, 10}, {4, 1, 10}, {2, -1, 10}, {2, 2, 10}, {2, 3, 10}, {Integer.MIN_VALUE, 1, 10}, {2, Integer.MAX_VALUE, 10}}) {
            refused(hill, -1, "went", none);
        }
        int[] noStates = {-1, 6, 9, 17, 20, 25, 30, 35, 99, 106, 117, 125, 135, 199, 200, 210, 221, -100, Integer.MIN_VALUE, Integer.MAX_VALUE};
        for (int state : noStates) {
            refused(hill, -1, "best", 0, 1, 3, state, 0, 0, 0);
            refused(hill, -1, "best", 0, 1, 3, 0, state, 0, 0);
        }
        for (int state : new int[] {10, 31, 34, 110, 131, 134}) {
            taken(hill, -1, "best", 0, 1, 3, state, 0, 0, 0);
            refused(hill, -1, "best", 0, 1, 3, 0, state, 0, 0);
        }
        for (int state : new int[] {0, 5, 11, 16, 21, 24, 100, 105, 111, 116, 121, 124}) {
            taken(hill, -1, "best", 0, 1, 3, state, 0, 0, 0);
            taken(hill, -1, "best", 0, 1, 3, 0, state, 0, 0);
        }
    }

    /** A lesser TICK than the one before, and where it went from already. */
    static void lastTick() {
        Made hill = () -> {
            RunHunt x = bare(2, 2);
            x.went(0, 0, 4);
            lawOnTape(x, 20);
            return x;
        };
        taken(hill, -1, "went", 1, 0, 4);
        taken(hill, -1, "went", 0, 1, 4);
        refused(hill, -1, "went", 1, 0, 3);
        refused(hill, -1, "went", 0, 1, 3);
        refused(hill, -1, "went", 0, 0, 4);
        refused(hill, -1, "went", 0, 0, 10);
        Made none = () -> bare(2, 2);
        taken(none, -1, "went", 1, 0, 1);
        refused(none, -1, "went", 1, 0, 0);
    }

    static void oneTwice() {
        Made hill = RunHuntRefused::ordinaryHill;
        for (int b = 0; b < 3; b++) {
            for (int what = 0; what < 4; what++) {
                refused(hill, -1, "ahead", b, b, what);
            }
            refused(hill, -1, "share", b, b, 5);
            refused(hill, -1, "after", b, b, 5, 0);
            refused(hill, -1, "after", b, b, 5, 1);
            refused(hill, -1, "edge", b, b);
            refused(hill, -1, "best", b, b, 5, 0, 0, 0, 0);
            refused(hill, -1, "best", b, b, 5, 0, 0, 0, 1);
            refused(hill, 1, "without", b, b, 7);
            refused(hill, -1, "waits", b, b, 0, 5, 0);
            for (int what = 0; what < 3; what++) {
                refused(hill, -1, "cleverest", b, b, what);
            }
        }
    }

    static void pairs(Made made) {
        refused(made, -1, "ahead", 0, 1, 0);
        refused(made, -1, "share", 0, 1, 1);
        refused(made, -1, "after", 0, 1, 1, 0);
        refused(made, -1, "edge", 0, 1);
        refused(made, -1, "best", 0, 1, 0, 0, 0, 0, 0);
        refused(made, 1, "without", 0, 1, 1);
        refused(made, -1, "waits", 0, 1, 0, 1, 0);
        refused(made, -1, "cleverest", 0, 1, 0);
        refused(made, -1, "chance", 0, 0, 0, 0);
        refused(made, -1, "walk", 0, 0);
        refused(made, -1, "went", 0, 0, 1);
        refused(made, -1, "knew", 0, 1, 0);
        refused(made, -1, "draw");
        refused(made, -1, "had", 0);
        for (int what = 0; what <= 6; what++) {
            refused(made, -1, "ways", 0, 1, what);
        }
        for (int what = 0; what <= 2; what++) {
            refused(made, -1, "logged", 0, what);
        }
    }

    static void newObject() {
        Made made = RunHunt::new;
        pairs(made);
        refused(made, -1, "order");
        refused(made, -1, "given", 2, -1);
        refused(made, -1, "law", 1);
        refused(made, -2, "check", 1);
        refused(made, -2, "check", -1);
        due("clear", call(made.make(), "clear"), 0L);
        due("check(0)", call(made.make(), "check", 0), -1L);
    }

    static void noBands() {
        Made made = () -> {
            RunHunt x = bare(3, 0);
            order(x, 1, 0, 2);
            lawOnTape(x, 40);
            return x;
        };
        pairs(made);
        taken(made, -1, "given", 5, 4);
    }

    static void noRiddles() {
        Made made = () -> {
            RunHunt x = bare(0, 5);
            lawOnTape(x, 40);
            return x;
        };
        pairs(made);
        refused(made, -1, "order");
        refused(made, -1, "given", 2, -1);
    }

    static void noOrders() {
        Made made = () -> {
            RunHunt x = bare(2, 2);
            order(x, 0, 1);
            x.riddle(0, 0, 0);
            lawOnTape(x, 40);
            return x;
        };
        for (int n = 2; n <= 5; n++) {
            refused(made, -1, "given", n, -1);
            refused(made, -1, "given", n, 0);
        }
    }

    /** None was DRAWN since the LOG fell: by clear, by a RIDDLE, by a BAND. */
    static void noHunt() {
        for (int how = 0; how < 4; how++) {
            int by = how;
            Made made = () -> {
                RunHunt x = bare(2, 2);
                if (by > 0) {
                    x.draw();
                }
                if (by == 1) {
                    x.clear();
                } else if (by == 2) {
                    x.riddle(0, 0, 0);
                } else if (by == 3) {
                    x.band(0, 1, 0);
                }
                x.went(0, 0, 1);
                return x;
            };
            refused(made, -1, "had", 0);
            refused(made, -1, "had", 1);
        }
    }

    /** Five RIDDLES, BANDS and ORDERS, a tape of 220 bytes, and all BANDS went from all RIDDLES. */
    static void full() {
        Made made = () -> {
            RunHunt x = bare(5, 5);
            for (int k = 0; k < 5; k++) {
                order(x, k, (k + 1) % 5, (k + 2) % 5, (k + 3) % 5, (k + 4) % 5);
            }
            for (int i = 0; i < 25; i++) {
                due("went", x.went(i % 5, i / 5, 1 + i * 10 / 26), i + 1);
            }
            lawOnTape(x, 200);
            x.feed(0x04030201, 0, 0, 0, 0);
            return x;
        };
        due("the tape", made.make().count(3), 220);
        refused(made, -1, "riddle", 0, 0, 0);
        refused(made, -1, "riddle", 9, 30, 30);
        refused(made, -1, "band", 0, 1, 0);
        refused(made, -1, "band", 9, 9, 1);
        refused(made, -1, "feed", 0, 0, 0, 0, 0);
        refused(made, -1, "feed", -1, -1, -1, -1, -1);
        refused(made, -1, "order");
        for (int i = 0; i < 25; i++) {
            refused(made, -1, "went", i % 5, i / 5, 10);
        }
        refused(made, -1, "logged", 25, 0);
        refused(made, -1, "knew", 25, 1, 0);
        refused(made, -1, "law", 201);
        refused(made, -1, "law", 220);
        refused(made, -1, "law", 221);
        refused(made, -2, "check", 19);
        taken(made, -2, "check", 18);
        taken(made, -1, "law", 200);
        taken(made, -1, "logged", 24, 2);
        taken(made, -1, "knew", 24, 1, 0);
        taken(made, -1, "ways", 4, 10, 4);
        refused(made, -1, "ways", 4, 10, 7);
        Made oneLess = () -> {
            RunHunt x = bare(4, 4);
            for (int k = 0; k < 4; k++) {
                order(x, 3, 2, 1, 0);
            }
            lawOnTape(x, 200);
            return x;
        };
        taken(oneLess, -1, "riddle", 0, 0, 0);
        taken(oneLess, -1, "band", 0, 1, 0);
        due("feed", oneLess.make().feed(0, 0, 0, 0, 0), 220);
        Made fifth = () -> {
            RunHunt x = bare(4, 4);
            for (int k = 0; k < 4; k++) {
                order(x, 3, 2, 1, 0);
            }
            feedBytes(x, 0, 1, 2, 3);
            return x;
        };
        due("a fifth ORDER", fifth.make().order(), 4);
    }

    /** How many bytes there are, by law and check: just so many, and one more asked for. */
    static void tapes() {
        for (int size = 20; size <= 220; size += 20) {
            int bytes = size;
            Made made = () -> {
                RunHunt x = bare(2, 2);
                x.went(0, 0, 1);
                lawOnTape(x, Math.min(200, bytes));
                if (bytes == 220) {
                    x.feed(1, 2, 3, 4, 5);
                }
                return x;
            };
            due("the tape", made.make().count(3), size);
            due("law", made.make().law(Math.min(200, size)), 1);
            refused(made, -1, "law", Math.min(200, size) + 1);
            refused(made, -1, "law", 0);
            refused(made, -1, "law", -1);
            refused(made, -2, "check", size / 12 + 1);
            refused(made, -2, "check", -1);
            refused(made, -2, "check", Integer.MAX_VALUE);
            refused(made, -2, "check", Integer.MIN_VALUE);
            refused(made, -2, "check", 1 << 30);
            taken(made, -2, "check", size / 12);
            RunHunt x = made.make();
            x.check(size / 12);
            due("the tape behind check", x.count(3), 0);
            x = made.make();
            x.law(1);
            due("the tape behind law", x.count(3), 0);
        }
    }

    /** A FAULT, and a row that is none: nothing but the tape has changed, and that is empty. */
    static void faults() {
        Made made = RunHuntRefused::ordinaryHill;
        for (int n = 1; n < 20; n++) {
            refusedWithTape(made, -1000 - n, "law", n);
        }
        Made again = () -> {
            RunHunt x = ordinaryHill();
            x.check(0);
            feedBytes(x, "s1(1=1);e123456(1=1)".chars().toArray());
            return x;
        };
        refusedWithTape(again, -2014, "law", 20);
        refusedWithTape(again, -1008, "law", 8);
        for (int[] row : new int[][] {{0, 0}, {1, 1}, {0, 2}, {2, 0}, {255, 0}, {1, 255}}) {
            Made rows = () -> {
                RunHunt x = ordinaryHill();
                x.check(0);
                feedBytes(x, row);
                return x;
            };
            refusedWithTape(rows, -2, "order");
        }
    }
}
