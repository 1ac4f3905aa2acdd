import java.io.IOException;
import java.lang.reflect.InvocationTargetException;
import java.lang.reflect.Method;
import java.lang.reflect.Modifier;
import java.nio.charset.StandardCharsets;
import java.nio.file.Files;
import java.nio.file.Paths;
import java.util.Arrays;
import java.util.List;
import java.util.regex.Matcher;
import java.util.regex.Pattern;

/** What README.md says is so: its hunt is played, its FAULTS and STATES are tried, and each call of the face has its line. */
public final class RunHuntReadme {
    static int wrong = 0;
    static int looked = 0;

    public static void main(String[] args) throws IOException {
        List<String> lines = Files.readAllLines(Paths.get("README.md"), StandardCharsets.UTF_8);
        hunt(lines);
        faults(lines);
        states(lines);
        face(lines);
        System.out.println(looked + " things looked at; " + (wrong == 0 ? "README.md tells what is so" : wrong + " are not so"));
        System.exit(wrong == 0 ? 0 : 1);
    }

    static void due(String what, Object got, Object want) {
        looked++;
        if (!String.valueOf(got).equals(String.valueOf(want))) {
            wrong++;
            System.out.println(what + ": " + got + ", README.md says " + want);
        }
    }

    /** The helper of README.md. */
    static int law(RunHunt x, String text) {
        for (int i = 0; i < text.length(); i += 20) {
            int[] word = new int[5];
            for (int k = 0; k < 20 && i + k < text.length(); k++) {
                word[k / 4] |= (text.charAt(i + k) & 255) << 24 - 8 * (k % 4);
            }
            x.feed(word[0], word[1], word[2], word[3], word[4]);
        }
        return x.law(text.length());
    }

    static Method named(String name) {
        for (Method m : RunHunt.class.getDeclaredMethods()) {
            if (m.getName().equals(name) && Modifier.isPublic(m.getModifiers())) {
                return m;
            }
        }
        return null;
    }

    static Object call(RunHunt x, String name, Object... with) {
        Method m = named(name);
        if (m == null || m.getParameterCount() != with.length) {
            return "no such call";
        }
        try {
            return m.invoke(x, with);
        } catch (IllegalAccessException | InvocationTargetException e) {
            return "threw " + e.getCause();
        }
    }

    static void hunt(List<String> lines) {
        Pattern told = Pattern.compile("(?:law\\(x, \"([^\"]*)\"\\)|x\\.(\\w+)\\(([^)]*)\\)); +// (\\S+)(?: .*)?");
        RunHunt x = new RunHunt();
        int calls = 0;
        for (String line : lines) {
            Matcher m = told.matcher(line);
            if (!m.matches()) {
                due("a line of the hunt that can't be played: " + line, line.startsWith("x.") || line.startsWith("law("), false);
                continue;
            }
            calls++;
            Object[] with = new Object[0];
            if (m.group(1) == null && !m.group(3).isEmpty()) {
                with = Arrays.stream(m.group(3).split(", ")).map(Integer::valueOf).toArray();
            }
            due(line, m.group(1) != null ? law(x, m.group(1)) : call(x, m.group(2), with), m.group(4));
        }
        due("many calls of the hunt", calls > 20, true);
    }

    static void faults(List<String> lines) {
        Pattern told = Pattern.compile("\\| ([1245]) \\| [^|]* \\| (.*) \\| (-\\d+) \\|");
        Pattern text = Pattern.compile("`([^`]*)`");
        int rows = 0;
        for (String line : lines) {
            Matcher m = told.matcher(line);
            if (!m.matches()) {
                continue;
            }
            rows++;
            StringBuilder whole = new StringBuilder();
            int times = m.group(2).startsWith("fourteen times") ? 14 : 1;
            for (Matcher t = text.matcher(m.group(2)); t.find(); times = 1) {
                for (int k = 0; k < times; k++) {
                    whole.append(t.group(1));
                }
            }
            int answer = law(new RunHunt(), whole.toString());
            due(line, answer, m.group(3));
            due(line, -answer / 1000, m.group(1));
        }
        due("FAULTS", rows, 4);
    }

    static void states(List<String> lines) {
        Pattern told = Pattern.compile("\\| (\\d+)(?: to (\\d+))? \\| [^|]* \\| (yes|no) \\| (yes|no) \\|");
        boolean[] forX = new boolean[100], forY = new boolean[100];
        int rows = 0;
        for (String line : lines) {
            Matcher m = told.matcher(line);
            if (!m.matches()) {
                continue;
            }
            rows++;
            int from = Integer.parseInt(m.group(1)), to = m.group(2) == null ? from : Integer.parseInt(m.group(2));
            for (int k = from; k <= to; k++) {
                forX[k] = m.group(3).equals("yes");
                forY[k] = m.group(4).equals("yes");
            }
        }
        due("rows of STATES", rows, 5);
        RunHunt x = new RunHunt();
        x.band(1, 1, 1);
        x.band(1, 1, 1);
        x.riddle(1, 1, 1);
        for (int k = 0; k < 100; k++) {
            due("STATE " + k + " of x", x.best(0, 1, 0, k, 0, 0, 0) == 1, forX[k]);
            due("STATE " + k + " of y", x.best(0, 1, 0, 0, k, 0, 0) == 1, forY[k]);
        }
    }

    /** A line for each call, with as many numbers as it takes, and with what it answers to numbers that can't be. */
    static void face(List<String> lines) {
        for (Method m : RunHunt.class.getDeclaredMethods()) {
            if (!Modifier.isPublic(m.getModifiers())) {
                continue;
            }
            String row = null;
            for (String line : lines) {
                row = line.startsWith("| `" + m.getName() + "(") ? line : row;
            }
            due(m.getName() + " has a line", row != null, true);
            if (row == null) {
                continue;
            }
            String[] cells = row.split("\\|");
            due(m.getName() + " has four cells", cells.length, 5);
            String numbers = row.substring(row.indexOf('(') + 1, row.indexOf(')'));
            due(m.getName() + " takes", m.getParameterCount(), numbers.isEmpty() ? 0 : numbers.split(", ").length);
            String refused = cells[cells.length - 1].trim();
            if (!m.getName().equals("feed") && !refused.isEmpty()) {
                Object[] with = new Object[m.getParameterCount()];
                Arrays.fill(with, -7);
                due(m.getName() + " of what can't be", call(new RunHunt(), m.getName(), with), refused.split("[;: ]")[0]);
            }
        }
    }
}
