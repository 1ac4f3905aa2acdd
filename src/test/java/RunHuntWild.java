import java.lang.reflect.InvocationTargetException;
import java.lang.reflect.Method;
import java.lang.reflect.Modifier;
import java.util.ArrayList;
import java.util.Arrays;
import java.util.Comparator;
import java.util.List;

/** Calls with numbers of any size, in any state: none may throw, and a refused one changes nothing. */
public final class RunHuntWild {
    static final int OBJECTS = 150;
    static final int CALLS = 512;
    static final int[] WILD = {Integer.MIN_VALUE, Integer.MIN_VALUE + 1, -65536, -1000, -100, -2, 6, 9, 10, 11, 20, 31, 34, 100, 110,
        199, 200, 201, 219, 220, 221, 500, 1000, 65535, 65536, 1 << 30, Integer.MAX_VALUE - 1, Integer.MAX_VALUE};
    /** Refused, these change nothing; of law and check only what is due in the document by NONE and by -2. */
    static final List<String> CHANGING = Arrays.asList("riddle", "band", "weather", "feed", "law", "order", "went", "seed", "draw", "check");

    static long dice = 7;

    static int upTo(int most) {
        dice = dice * 6364136223846793005L + 1442695040888963407L;
        return (int) ((dice >>> 33) % (most + 1));
    }

    static int argument(String method) {
        if (method.equals("feed")) {
            return upTo(3) == 0 ? upTo(255) << 24 | upTo(3) << 16 | upTo(3) << 8 | upTo(3) : lawWord();
        }
        int k = upTo(9);
        return k == 0 ? WILD[upTo(WILD.length - 1)] : k < 8 ? upTo(4) : k == 8 ? upTo(12) - 1 : upTo(220);
    }

    static int lawWord() {
        String[] words = {"s4(1", "=1);", "e2(t", "<3)s", "s8(1", "=1)\0", "st(!", "c>h)", "s[t/", "r](1", "\0\1\2\3", "\3\2\1\0"};
        String word = words[upTo(words.length - 1)];
        return word.charAt(0) << 24 | word.charAt(1) << 16 | word.charAt(2) << 8 | word.charAt(3);
    }

    static String state(RunHunt x) {
        StringBuilder text = new StringBuilder();
        for (int i = 0; i <= 8; i++) {
            text.append(x.count(i)).append(' ');
        }
        for (int i = 0; i < x.count(5); i++) {
            text.append(x.logged(i, 0)).append(x.logged(i, 1)).append(x.logged(i, 2)).append(' ');
        }
        for (int b = 0; b < x.count(1); b++) {
            text.append(x.had(b)).append(' ').append(x.chance(b, 0, 0, 0)).append(x.walk(b, 0));
        }
        return text.toString();
    }

    public static void main(String[] args) throws IllegalAccessException {
        List<Method> methods = new ArrayList<>();
        for (Method m : RunHunt.class.getDeclaredMethods()) {
            if (Modifier.isPublic(m.getModifiers())) {
                methods.add(m);
            }
        }
        methods.sort(Comparator.comparing(Method::getName));
        int wrong = 0;
        for (int run = 0; run < OBJECTS && wrong < 5; run++) {
            wrong += play(methods, run % 3 == 0);
        }
        System.out.println(wrong == 0 ? "nothing throws" : wrong + " calls are wrong");
        System.exit(wrong == 0 ? 0 : 1);
    }

    static int play(List<Method> methods, boolean prepared) throws IllegalAccessException {
        RunHunt x = new RunHunt();
        if (prepared) {
            x.feed(0x73342874, 0x3c39293b, 0x65322874, 0x3d312900, 0);
            x.law(15);
            for (int i = 0; i < 5; i++) {
                x.riddle(i, i, 2 * i);
                x.band(i, i + 3, i % 2);
            }
        }
        for (int k = 0; k < CALLS; k++) {
            Method m = methods.get(upTo(methods.size() - 1));
            Object[] with = new Object[m.getParameterCount()];
            for (int i = 0; i < with.length; i++) {
                with[i] = argument(m.getName());
            }
            boolean looks = CHANGING.contains(m.getName());
            String before = looks ? state(x) : "";
            try {
                Object got = m.invoke(x, with);
                boolean refused = got.equals(-1) && !m.getName().equals("check") || got.equals(false);
                refused |= got.equals(-2) && m.getName().equals("check");
                if (looks && refused && !before.equals(state(x))) {
                    System.out.println(m.getName() + Arrays.toString(with) + " was refused, but changed " + before + " to " + state(x));
                    return 1;
                }
            } catch (InvocationTargetException e) {
                System.out.println(m.getName() + Arrays.toString(with) + " threw " + e.getCause());
                return 1;
            }
        }
        return 0;
    }
}
