import java.math.BigInteger;
import java.util.ArrayDeque;
import java.util.ArrayList;
import java.util.HashMap;
import java.util.List;
import java.util.Map;
import java.util.TreeMap;

/**
 * Long runs of calls, each compared with a second program that was written from the document alone and by other means:
 * TICK by TICK with maps of states, THE LAW by cutting its TEXT into pieces, FAULTS by a stack of what is open.
 * The calls are made up by a counter, so every run of this test is the same.
 */
public final class RunHuntModel {
    static final int OBJECTS = 400;
    static final int CALLS = 140;

    public static void main(String[] args) {
        int wrong = 0;
        for (int run = 0; run < OBJECTS && wrong < 10; run++) {
            wrong += new Run(run).play();
        }
        System.out.println(wrong == 0 ? "the program answers as the model" : wrong + " runs differ");
        System.exit(wrong == 0 ? 0 : 1);
    }

    /** What is divided by 0. */
    static final class Refused extends RuntimeException {
    }

    static final class Run {
        final int number;
        final RunHunt program = new RunHunt();
        final Model model = new Model();
        final StringBuilder told = new StringBuilder();
        long dice;

        Run(int number) {
            this.number = number;
            dice = 1000003L * number + 17;
        }

        int upTo(int most) {
            dice = dice * 6364136223846793005L + 1442695040888963407L;
            return (int) ((dice >>> 33) % (most + 1));
        }

        boolean differs(String call, long got, long want) {
            told.append(call).append(" = ").append(got).append('\n');
            if (got == want) {
                return false;
            }
            System.out.println("run " + number + ":\n" + told + "the model says " + want);
            return true;
        }

        int play() {
            if (prepare()) {
                return 1;
            }
            for (int k = 0; k < CALLS; k++) {
                if (call()) {
                    return 1;
                }
            }
            return 0;
        }

        boolean prepare() {
            boolean bad = false;
            for (int k = number % 3 == 0 ? upTo(1) : upTo(4); k >= 0 && !bad; k--) {
                bad = riddle();
            }
            for (int k = 1 + upTo(3); k >= 0 && !bad; k--) {
                bad = band();
            }
            return bad || law(true);
        }

        boolean riddle() {
            int spread = number % 2 == 0 ? 5 : upTo(2) == 0 ? 30 : 9;
            int h = odd(0, 9), x = odd(0, spread), y = odd(0, spread);
            return differs("riddle(" + h + "," + x + "," + y + ")", program.riddle(h, x, y), model.riddle(h, x, y));
        }

        boolean band() {
            int c = odd(0, 9), q = odd(1, 9), f = odd(0, 1);
            return differs("band(" + c + "," + q + "," + f + ")", program.band(c, q, f), model.band(c, q, f));
        }

        /** A number from least to most, now and then beside it. */
        int odd(int least, int most) {
            int k = upTo(60);
            return k == 0 ? least - 1 : k == 1 ? most + 1 : least + upTo(most - least);
        }

        boolean feed(int[] bytes) {
            boolean bad = false;
            for (int i = 0; i < bytes.length && !bad; i += 20) {
                int[] w = new int[5];
                for (int k = 0; k < 20; k++) {
                    int b = i + k < bytes.length ? bytes[i + k] : 0;
                    w[k / 4] |= b << 8 * (3 - k % 4);
                }
                bad = differs("feed", program.feed(w[0], w[1], w[2], w[3], w[4]), model.feed(w));
            }
            return bad;
        }

        boolean drop() {
            boolean bad = differs("check(0)", program.check(0), model.check(0));
            return bad || differs("count(3)", program.count(3), model.count(3));
        }

        boolean law(boolean good) {
            String text = good ? goodLaw() : anyLaw();
            told.append(text).append('\n');
            int[] bytes = text.chars().toArray();
            if (bytes.length > 200 || drop() || feed(bytes)) {
                return bytes.length <= 200;
            }
            int n = upTo(20) == 0 ? odd(0, 201) : bytes.length;
            return differs("law(" + n + ")", program.law(n), model.law(n));
        }

        String goodLaw() {
            switch (upTo(8)) {
                case 6:
                    return "s8(t>" + upTo(3) + ");s" + upTo(2) + "(1=1);e" + upTo(4) + "(c<5)";
                case 7:
                    return "s" + (3 + upTo(5)) + "(c>4);st*" + (1 + upTo(2)) + "(1=1);e" + (1 + upTo(5)) + "(c<" + (3 + upTo(5)) + ")";
                case 8:
                    return "s" + (1 + upTo(4)) + "(q>4);s" + (3 + upTo(5)) + "(t=0);s1(1=1);e" + upTo(3) + "(!b=0|t>1)";
                case 0:
                    return "sc-h+t(t<4);s8-h(1=1);e" + (1 + upTo(3)) + "(!t=0&h>c|r=2)";
                case 1:
                    return "s" + (1 + upTo(6)) + "(1=1);e" + upTo(4) + "(t<3)";
                case 2:
                    return "s[c+t*2]/[h+1](!f=1);s[c-1]%3(f=1&!b=n);e9/h(t>h%c);e1(q>n)";
                case 3:
                    return "s" + upTo(8) + "(r=0);s" + upTo(8) + "(r=1);s" + upTo(8) + "(1=1);e" + upTo(8) + "(b=" + upTo(4) + ");e1(h>t)";
                case 4:
                    return "s" + expression(1) + "(" + condition(2) + ");s3(t>" + upTo(3) + ");e" + expression(1) + "(" + condition(2) + ")";
                default:
                    return "s[9-h+t]/2(c>h);s1+t(b=1|b=2);sn-r(1=1);e1(t=0)";
            }
        }

        String anyLaw() {
            StringBuilder text = new StringBuilder();
            int clauses = upTo(12) == 0 ? 13 + upTo(3) : 1 + upTo(2);
            for (int k = 0; k < clauses; k++) {
                boolean small = clauses > 3;
                text.append(k == 0 ? "" : ";").append(upTo(1) == 0 ? 's' : 'e').append(small ? "t" : expression(upTo(5)));
                text.append('(').append(small ? "t=0" : condition(upTo(5))).append(')');
            }
            if (upTo(3) == 0) {
                int at = upTo(text.length() - 1);
                boolean square = upTo(1) == 0;
                for (int k = upTo(8); k > 0; k--) {
                    text.insert(at, square ? '[' : "!(".charAt(upTo(1)));
                }
            }
            for (int k = upTo(3); k > 1; k--) {
                int at = upTo(text.length() - 1);
                char sign = "se;()[]!&|<>=+-*/%0123456789chtrbnfq x\u00e9".charAt(upTo(38));
                int how = upTo(3);
                if (how == 0) {
                    text.setCharAt(at, sign);
                } else if (how == 1) {
                    text.insert(at, sign);
                } else if (how == 2 && text.length() > 1) {
                    text.deleteCharAt(at);
                } else {
                    text.setLength(at + 1);
                }
            }
            return text.toString();
        }

        String expression(int depth) {
            StringBuilder text = new StringBuilder(factor(depth));
            for (int k = upTo(2); k > 0; k--) {
                text.append("+-*/%".charAt(upTo(4))).append(factor(depth));
            }
            return text.toString();
        }

        String factor(int depth) {
            int k = upTo(depth > 0 ? 3 : 2);
            if (k == 3) {
                return "[" + expression(depth - 1) + "]";
            }
            if (k == 0) {
                int digits = upTo(20) == 0 ? 4 + upTo(2) : 1 + upTo(upTo(2));
                StringBuilder number = new StringBuilder();
                for (int i = 0; i < digits; i++) {
                    number.append(upTo(9));
                }
                return number.toString();
            }
            return "" + "chtrbnfqtt".charAt(upTo(9));
        }

        String condition(int depth) {
            StringBuilder text = new StringBuilder(piece(depth));
            for (int k = upTo(2); k > 0; k--) {
                text.append(upTo(1) == 0 ? '|' : '&').append(piece(depth));
            }
            return text.toString();
        }

        String piece(int depth) {
            int k = upTo(depth > 0 ? 4 : 1);
            if (k == 2) {
                return "!" + piece(depth - 1);
            }
            if (k > 2) {
                return "(" + condition(depth - 1) + ")";
            }
            return expression(depth / 2) + "<>=".charAt(upTo(2)) + expression(depth / 2);
        }

        int state(boolean y, int at) {
            int r = 100 * (upTo(2) > 0 ? at : odd(0, Math.max(0, model.riddles.size() - 1)));
            switch (upTo(y ? 3 : 7)) {
                case 6:
                case 7:
                    return r + 10;
                case 0:
                case 1:
                    return r + odd(0, 5);
                case 2:
                    return r + odd(11, 16);
                case 3:
                    return r + odd(21, 24);
                case 4:
                    return r + 10;
                default:
                    return r + odd(31, 34);
            }
        }

        boolean call() {
            int bands = Math.max(1, model.bands.size()), riddles = Math.max(1, model.riddles.size());
            int x = odd(0, bands - 1), y = upTo(20) == 0 ? x : (x + 1 + upTo(Math.max(0, bands - 2))) % bands;
            int r = odd(0, riddles - 1), t = odd(0, 5), tick = odd(1, 10);
            switch (upTo(38)) {
                case 0:
                    return upTo(5) == 0 && (upTo(1) == 0 ? riddle() : band());
                case 1: {
                    int d = odd(1, 4), f = odd(0, 1);
                    return differs("weather(" + d + "," + f + ")", program.weather(d, f) ? 1 : 0, model.weather(d, f) ? 1 : 0);
                }
                case 2:
                    return law(true);
                case 3:
                case 4:
                    return law(upTo(2) == 0);
                case 5:
                case 6: {
                    int w = odd(0, 1);
                    return differs("chance(" + x + "," + r + "," + t + "," + w + ")", program.chance(x, r, t, w), model.chance(x, r, t, w));
                }
                case 7:
                    return differs("walk(" + x + "," + r + ")", program.walk(x, r), model.walk(x, r));
                case 8:
                case 9: {
                    int w = odd(0, 6);
                    return differs("ways(" + x + "," + tick + "," + w + ")", program.ways(x, tick, w), model.ways(x, tick, w));
                }
                case 10:
                case 11: {
                    int w = odd(0, 3);
                    return differs("ahead(" + x + "," + y + "," + w + ")", program.ahead(x, y, w), model.ahead(x, y, w));
                }
                case 12:
                    return differs("share(" + x + "," + y + "," + tick + ")", program.share(x, y, tick), model.share(x, y, tick));
                case 13:
                case 14: {
                    int w = odd(0, 1);
                    return differs("after(" + x + "," + y + "," + tick + "," + w + ")", program.after(x, y, tick, w), model.after(x, y, tick, w));
                }
                case 15:
                    return differs("edge(" + x + "," + y + ")", program.edge(x, y), model.edge(x, y));
                case 16:
                case 17:
                case 18:
                case 34:
                case 35:
                case 36:
                case 37:
                case 38: {
                    int l = odd(0, 10), at = upTo(riddles - 1), sx = state(false, at), sy = state(true, at), b = odd(0, 2), w = odd(0, 1);
                    String told = "best(" + x + "," + y + "," + l + "," + sx + "," + sy + "," + b + "," + w + ")";
                    return differs(told, program.best(x, y, l, sx, sy, b, w), model.best(x, y, l, sx, sy, b, w));
                }
                case 19: {
                    int v = odd(1, 7);
                    return differs("without(" + x + "," + y + "," + v + ")", program.without(x, y, v), model.without(x, y, v));
                }
                case 20:
                case 21:
                    return differs("waits(" + x + "," + y + "," + r + "," + tick + "," + t + ")", program.waits(x, y, r, tick, t), model.waits(x, y, r, tick, t));
                case 22:
                case 23:
                    return order();
                case 24: {
                    int n = odd(2, 5), w = odd(-1, 4);
                    return differs("given(" + n + "," + w + ")", program.given(n, w), model.given(n, w));
                }
                case 25: {
                    int w = odd(0, 2);
                    return differs("cleverest(" + x + "," + y + "," + w + ")", program.cleverest(x, y, w), model.cleverest(x, y, w));
                }
                case 26:
                case 27: {
                    boolean bad = false;
                    for (int k = 0; k < 4 && !bad; k++) {
                        int b = odd(0, bands - 1), at = odd(0, riddles - 1);
                        int i = Math.min(11, model.lastTick() + upTo(upTo(3)));
                        bad = differs("went(" + b + "," + at + "," + i + ")", program.went(b, at, i), model.went(b, at, i));
                    }
                    return bad;
                }
                case 28: {
                    int i = odd(0, Math.max(0, model.log.size() - 1)), w = odd(0, 2);
                    return differs("logged(" + i + "," + w + ")", program.logged(i, w), model.logged(i, w));
                }
                case 29: {
                    boolean bad = false;
                    for (int i = -1; i <= model.log.size() && !bad; i++) {
                        int e = odd(1, 8), w = odd(0, 1);
                        bad = differs("knew(" + i + "," + e + "," + w + ")", program.knew(i, e, w), model.knew(i, e, w));
                    }
                    return bad;
                }
                case 30:
                    return drawn();
                case 31:
                    return upTo(3) == 0 && differs("clear()", program.clear(), model.clear());
                case 32:
                    return check();
                default: {
                    int w = odd(0, 8);
                    return differs("count(" + w + ")", program.count(w), model.count(w));
                }
            }
        }

        boolean drawn() {
            int s = upTo(9) == 0 ? 65536 : upTo(65535);
            boolean bad = upTo(2) == 0 && differs("seed(" + s + ")", program.seed(s) ? 1 : 0, model.seed(s) ? 1 : 0);
            bad = bad || differs("draw()", program.draw(), model.draw());
            for (int b = 0; b <= model.bands.size() && !bad; b++) {
                bad = differs("had(" + b + ")", program.had(b), model.had(b));
            }
            for (int i = 0; i < model.log.size() && !bad; i++) {
                for (int w = 0; w < 3 && !bad; w++) {
                    bad = differs("logged(" + i + "," + w + ")", program.logged(i, w), model.logged(i, w));
                }
            }
            return bad || differs("count(6)", program.count(6), model.count(6));
        }

        boolean order() {
            int n = model.riddles.size();
            int[] row = new int[Math.max(1, n)];
            for (int i = 0; i < n; i++) {
                row[i] = i;
            }
            for (int i = 0; i < n; i++) {
                int k = upTo(n - 1), keep = row[i];
                row[i] = row[k];
                row[k] = keep;
            }
            if (upTo(9) == 0) {
                row[upTo(row.length - 1)] = upTo(255);
            }
            if (upTo(9) > 0 && (drop() || feed(row))) {
                return true;
            }
            return differs("order()", program.order(), model.order());
        }

        boolean check() {
            int n = model.log.size() + upTo(2) - 1;
            int[] bytes = new int[Math.max(1, 12 * Math.max(0, n))];
            for (int i = 0; i < 3 * n; i++) {
                int value = i / 3 < model.log.size() ? model.log.get(i / 3)[i % 3] : 1;
                bytes[4 * i + 3] = value;
            }
            if (upTo(2) == 0) {
                bytes[upTo(bytes.length - 1)] ^= 1 << upTo(7);
            }
            if (bytes.length > 220 || drop() || feed(bytes)) {
                return bytes.length <= 220;
            }
            return differs("check(" + n + ")", program.check(n), model.check(n));
        }
    }

    /** The document, in the plainest words. */
    static final class Model {
        final List<int[]> riddles = new ArrayList<>();
        final List<int[]> bands = new ArrayList<>();
        final List<Integer> tape = new ArrayList<>();
        final List<int[]> orders = new ArrayList<>();
        final List<int[]> log = new ArrayList<>();
        String[] clauses = new String[0];
        int delay = 2, fog = 0, dice = 1;
        int[] box = null;

        static boolean in(int v, int a, int b) {
            return v >= a && v <= b;
        }

        int riddle(int h, int x, int y) {
            if (!in(h, 0, 9) || !in(x, 0, 30) || !in(y, 0, 30) || riddles.size() == 5) {
                return -1;
            }
            riddles.add(new int[] {h, x, y});
            orders.clear();
            log.clear();
            box = null;
            return riddles.size() - 1;
        }

        int band(int c, int q, int f) {
            if (!in(c, 0, 9) || !in(q, 1, 9) || !in(f, 0, 1) || bands.size() == 5) {
                return -1;
            }
            bands.add(new int[] {c, q, f});
            log.clear();
            box = null;
            return bands.size() - 1;
        }

        boolean weather(int d, int f) {
            if (!in(d, 1, 4) || !in(f, 0, 1)) {
                return false;
            }
            delay = d;
            fog = f;
            return true;
        }

        int feed(int[] words) {
            if (tape.size() + 20 > 220) {
                return -1;
            }
            for (int w : words) {
                for (int k = 3; k >= 0; k--) {
                    tape.add(w >> 8 * k & 255);
                }
            }
            return tape.size();
        }

        int law(int n) {
            if (n < 1 || n > 200 || tape.size() < n) {
                return -1;
            }
            StringBuilder text = new StringBuilder();
            for (int i = 0; i < n; i++) {
                text.append((char) (int) tape.get(i));
            }
            tape.clear();
            int fault = fault(text.toString());
            if (fault != 0) {
                return fault;
            }
            clauses = text.toString().split(";");
            return clauses.length;
        }

        /** A stack of what is open; what may stand next is told by three words: where, side, and the stack. */
        static int fault(String text) {
            ArrayDeque<Character> open = new ArrayDeque<>();
            String where = "clause";
            boolean right = false;
            int digits = 0, count = 0;
            for (int i = 0; i <= text.length(); i++) {
                char s = i < text.length() ? text.charAt(i) : '\0';
                int bad = -1000 - i;
                boolean end = i == text.length();
                if (where.equals("clause")) {
                    if (s != 's' && s != 'e') {
                        return bad;
                    }
                    if (++count == 15) {
                        return -4000 - i;
                    }
                    where = "factor";
                } else if (where.equals("factor") || where.equals("piece")) {
                    boolean opens = s == '[' || where.equals("piece") && (s == '!' || s == '(');
                    if (opens) {
                        if (open.size() == 6) {
                            return -5000 - i;
                        }
                        open.push(s);
                        where = s == '[' ? "factor" : "piece";
                        right = s == '[' && right;
                    } else if (Character.isDigit(s) && s < 128) {
                        digits = 1;
                        where = "digit";
                    } else if (!end && "chtrbnfq".indexOf(s) >= 0) {
                        where = "behind";
                    } else {
                        return bad;
                    }
                } else if (where.equals("digit") && s >= '0' && s <= '9') {
                    if (++digits == 6) {
                        return -2000 - i;
                    }
                } else if (where.equals("digit") || where.equals("behind")) {
                    where = "behind";
                    boolean square = !open.isEmpty() && open.peek() == '[';
                    if (!end && "+-*/%".indexOf(s) >= 0) {
                        where = "factor";
                    } else if (square) {
                        if (s != ']') {
                            return bad;
                        }
                        open.pop();
                    } else if (open.isEmpty()) {
                        if (s != '(') {
                            return bad;
                        }
                        open.push('(');
                        where = "piece";
                        right = false;
                    } else if (!right) {
                        if (s != '<' && s != '>' && s != '=') {
                            return bad;
                        }
                        right = true;
                        where = "factor";
                    } else {
                        where = "ended";
                        i--;
                    }
                } else if (where.equals("ended")) {
                    while (!open.isEmpty() && open.peek() == '!') {
                        open.pop();
                    }
                    right = false;
                    if (s == '&' || s == '|') {
                        where = "piece";
                    } else if (s == ')') {
                        open.pop();
                        where = open.isEmpty() ? "over" : "ended";
                    } else {
                        return bad;
                    }
                } else {
                    if (end) {
                        return 0;
                    }
                    if (s != ';') {
                        return bad;
                    }
                    where = "clause";
                }
            }
            return 0;
        }

        int eighths(char letter, Map<Character, Integer> v) {
            for (String clause : clauses) {
                int at = clause.indexOf('(');
                if (clause.charAt(0) != letter) {
                    continue;
                }
                boolean holds;
                try {
                    holds = condition(clause.substring(at + 1, clause.length() - 1), v);
                } catch (Refused e) {
                    holds = false;
                }
                if (holds) {
                    try {
                        return value(clause.substring(1, at), v);
                    } catch (Refused e) {
                        return 0;
                    }
                }
            }
            return 0;
        }

        static List<String> cut(String text, char at) {
            List<String> parts = new ArrayList<>();
            int open = 0, from = 0;
            for (int i = 0; i < text.length(); i++) {
                char s = text.charAt(i);
                open += s == '(' || s == '[' ? 1 : s == ')' || s == ']' ? -1 : 0;
                if (s == at && open == 0) {
                    parts.add(text.substring(from, i));
                    from = i + 1;
                }
            }
            parts.add(text.substring(from));
            return parts;
        }

        static boolean condition(String text, Map<Character, Integer> v) {
            for (String part : cut(text, '|')) {
                boolean all = true;
                for (String piece : cut(part, '&')) {
                    if (!piece(piece, v)) {
                        all = false;
                        break;
                    }
                }
                if (all) {
                    return true;
                }
            }
            return false;
        }

        static boolean piece(String text, Map<Character, Integer> v) {
            if (text.charAt(0) == '!') {
                return !piece(text.substring(1), v);
            }
            if (text.charAt(0) == '(') {
                return condition(text.substring(1, text.length() - 1), v);
            }
            for (char sign : new char[] {'<', '>', '='}) {
                List<String> two = cut(text, sign);
                if (two.size() == 2) {
                    int a = value(two.get(0), v), b = value(two.get(1), v);
                    return sign == '<' ? a < b : sign == '>' ? a > b : a == b;
                }
            }
            throw new IllegalStateException(text);
        }

        static int lastOf(String text, String signs) {
            int open = 0;
            for (int i = text.length() - 1; i >= 0; i--) {
                char s = text.charAt(i);
                open += s == ']' ? 1 : s == '[' ? -1 : 0;
                if (open == 0 && signs.indexOf(s) >= 0) {
                    return i;
                }
            }
            return -1;
        }

        static int value(String text, Map<Character, Integer> v) {
            int at = lastOf(text, "+-");
            at = at < 0 ? lastOf(text, "*/%") : at;
            if (at >= 0) {
                int a = value(text.substring(0, at), v), b = value(text.substring(at + 1), v);
                char s = text.charAt(at);
                if ((s == '/' || s == '%') && b == 0) {
                    throw new Refused();
                }
                return s == '+' ? a + b : s == '-' ? a - b : s == '*' ? a * b : s == '/' ? a / b : a % b;
            }
            if (text.charAt(0) == '[') {
                return value(text.substring(1, text.length() - 1), v);
            }
            return Character.isDigit(text.charAt(0)) ? Integer.parseInt(text) : v.get(text.charAt(0));
        }

        int eighthsOf(int clever, int band, int r, int t, int what) {
            Map<Character, Integer> v = new HashMap<>();
            v.put('c', clever);
            v.put('h', riddles.get(r)[0]);
            v.put('t', t);
            v.put('r', r);
            v.put('b', band);
            v.put('n', riddles.size());
            v.put('f', fog);
            v.put('q', bands.get(band)[1]);
            int s = Math.max(0, Math.min(8, eighths('s', v)));
            return what == 0 ? s : Math.max(0, Math.min(8 - s, eighths('e', v)));
        }

        final Map<String, Integer> kept = new HashMap<>();
        String keptFor = "";

        int eighthsKept(int clever, int band, int r, int t, int what) {
            String now = String.join(";", clauses) + "/" + riddles.size() + "/" + bands.size() + "/" + fog;
            if (!now.equals(keptFor)) {
                kept.clear();
                keptFor = now;
            }
            return kept.computeIfAbsent(clever + "/" + band + "/" + r + "/" + t + "/" + what, k -> eighthsOf(clever, band, r, t, what));
        }

        int chance(int b, int r, int t, int what) {
            boolean fits = isBand(b) && isRiddle(r) && in(t, 0, 5) && in(what, 0, 1);
            return fits ? eighthsKept(bands.get(b)[0], b, r, t, what) : -1;
        }

        boolean isBand(int b) {
            return in(b, 0, bands.size() - 1);
        }

        boolean isRiddle(int r) {
            return in(r, 0, riddles.size() - 1);
        }

        boolean two(int x, int y) {
            return isBand(x) && isBand(y) && x != y && !riddles.isEmpty();
        }

        int walk(int b, int r) {
            if (!isBand(b) || !isRiddle(r)) {
                return -1;
            }
            int fromX = r == 0 ? 0 : riddles.get(r - 1)[1], fromY = r == 0 ? 0 : riddles.get(r - 1)[2];
            int far = Math.abs(riddles.get(r)[1] - fromX) + Math.abs(riddles.get(r)[2] - fromY);
            int ticks = 0;
            while (ticks * bands.get(b)[1] < far) {
                ticks++;
            }
            return Math.min(6, Math.max(1, ticks));
        }

        /** One more TICK of one ALONE: states are 100 times the RIDDLE and T, 11 to 16, 21 to 24; the box: 1000. */
        static void put(Map<Integer, BigInteger> map, int state, BigInteger ways, int times) {
            if (times != 0) {
                map.merge(state, ways.multiply(BigInteger.valueOf(times)), BigInteger::add);
            }
        }

        int onFoot(int r, int left, int last) {
            return left > 0 ? 100 * r + 10 + left : r + 1 == last ? 1000 : 100 * (r + 1);
        }

        interface Odds {
            int of(int r, int t, int what);
        }

        /** What one TICK makes of a state: states and in how many of all. */
        Map<Integer, Integer> tick(int state, Odds odds, int all, Odds steps, int last) {
            Map<Integer, Integer> next = new TreeMap<>();
            int r = state / 100, d = state % 100;
            if (state == 1000) {
                next.put(1000, all);
            } else if (d <= 5) {
                int s = odds.of(r, d, 0), e = odds.of(r, d, 1);
                next.merge(100 * r + 10 + steps.of(r, 0, 0), s, Integer::sum);
                next.merge(100 * r + 20 + delay, e, Integer::sum);
                next.merge(100 * r + Math.min(5, d + 1), all - s - e, Integer::sum);
            } else if (d <= 16) {
                next.put(onFoot(r, d - 11, last), all);
            } else {
                next.put(d == 21 ? 100 * r : state - 1, all);
            }
            return next;
        }

        /** For each TICK from 0 to 10 the states. */
        List<Map<Integer, BigInteger>> alone(Odds odds, int all, Odds steps, int last) {
            List<Map<Integer, BigInteger>> list = new ArrayList<>();
            Map<Integer, BigInteger> now = new TreeMap<>();
            now.put(0, BigInteger.ONE);
            list.add(now);
            for (int k = 1; k <= 10; k++) {
                Map<Integer, BigInteger> next = new TreeMap<>();
                for (Map.Entry<Integer, BigInteger> e : now.entrySet()) {
                    tick(e.getKey(), odds, all, steps, last).forEach((state, times) -> put(next, state, e.getValue(), times));
                }
                list.add(next);
                now = next;
            }
            return list;
        }

        List<Map<Integer, BigInteger>> alone(int b, int clever, int last) {
            return alone((r, t, w) -> eighthsKept(clever, b, r, t, w), 8, (r, t, w) -> walk(b, r), last);
        }

        static BigInteger from(Map<Integer, BigInteger> states, int least) {
            return states.entrySet().stream().filter(e -> e.getKey() >= least).map(Map.Entry::getValue).reduce(BigInteger.ZERO, BigInteger::add);
        }

        long ways(int b, int k, int what) {
            if (!isBand(b) || riddles.isEmpty() || !in(k, 1, 10) || !in(what, 0, 6) || what < 5 && !isRiddle(what)) {
                return -1;
            }
            List<Map<Integer, BigInteger>> all = alone(b, bands.get(b)[0], riddles.size());
            if (what < 5) {
                return from(all.get(k), 100 * what).longValueExact();
            }
            BigInteger by = from(all.get(k), 1000);
            BigInteger before = from(all.get(k - 1), 1000).shiftLeft(3);
            return (what == 5 ? by : by.subtract(before)).longValueExact();
        }

        BigInteger[] aheadBy(int x, int y, int last) {
            List<Map<Integer, BigInteger>> a = alone(x, bands.get(x)[0], last), b = alone(y, bands.get(y)[0], last);
            BigInteger above = BigInteger.ZERO, like = BigInteger.ZERO;
            for (int i = 1; i <= 10; i++) {
                BigInteger atX = from(a.get(i), 1000).subtract(from(a.get(i - 1), 1000).shiftLeft(3)).shiftLeft(3 * (10 - i));
                for (int k = 1; k <= 11; k++) {
                    BigInteger atY = k == 11 ? BigInteger.ONE.shiftLeft(30).subtract(from(b.get(10), 1000))
                            : from(b.get(k), 1000).subtract(from(b.get(k - 1), 1000).shiftLeft(3)).shiftLeft(3 * (10 - k));
                    above = i < k ? above.add(atX.multiply(atY)) : above;
                    like = i == k ? like.add(atX.multiply(atY)) : like;
                }
            }
            return new BigInteger[] {above, like};
        }

        static long part(BigInteger above, BigInteger below, int which) {
            BigInteger g = above.gcd(below);
            return (which == 0 ? above : below).divide(g).longValueExact();
        }

        long ahead(int x, int y, int what) {
            if (!two(x, y) || !in(what, 0, 3)) {
                return -1;
            }
            return part(aheadBy(x, y, riddles.size())[what / 2], BigInteger.ONE.shiftLeft(60), what % 2);
        }

        long share(int x, int y, int k) {
            if (!two(x, y) || !in(k, 1, 10)) {
                return -1;
            }
            int slow = bands.get(x)[1] < bands.get(y)[1] ? x : y;
            Odds odds = (r, t, w) -> {
                int sum = 0;
                for (int i = 0; i < 8; i++) {
                    for (int j = 0; j < 8; j++) {
                        int a = i < chance(x, r, t, 0) ? 0 : i < chance(x, r, t, 0) + chance(x, r, t, 1) ? 1 : 2;
                        int b = j < chance(y, r, t, 0) ? 0 : j < chance(y, r, t, 0) + chance(y, r, t, 1) ? 1 : 2;
                        sum += Math.min(a, b) == w ? 1 : 0;
                    }
                }
                return sum;
            };
            return from(alone(odds, 64, (r, t, w) -> walk(slow, r), riddles.size()).get(k), 1000).longValueExact();
        }

        /** States of both: y's times 10000, and of x 100 times the RIDDLE and TICKS left (0: it stands there). */
        long after(int x, int y, int k, int what) {
            if (!two(x, y) || !in(k, 1, 10) || !in(what, 0, 1)) {
                return -1;
            }
            int last = riddles.size();
            Map<Integer, BigInteger> now = new TreeMap<>();
            now.put(0, BigInteger.ONE);
            BigInteger has = BigInteger.ZERO, first = BigInteger.ZERO;
            for (int i = 1; i <= k; i++) {
                has = has.shiftLeft(3);
                first = first.shiftLeft(3);
                Map<Integer, BigInteger> next = new TreeMap<>();
                for (Map.Entry<Integer, BigInteger> e : now.entrySet()) {
                    int sy = e.getKey() / 10000, sx = e.getKey() % 10000;
                    int rx = sx / 100, left = sx % 100;
                    boolean solved = sy / 100 > rx || sy / 100 == rx && in(sy % 100, 11, 16);
                    int go = left > 0 ? left - 1 : solved ? walk(x, rx) - 1 : -1;
                    int to = go < 0 ? sx : go > 0 ? 100 * rx + go : 100 * (rx + 1);
                    for (Map.Entry<Integer, Integer> f : tick(sy, (r, t, w) -> chance(y, r, t, w), 8, (r, t, w) -> walk(y, r), last).entrySet()) {
                        BigInteger ways = e.getValue().multiply(BigInteger.valueOf(f.getValue()));
                        if (to >= 100 * last) {
                            has = has.add(ways);
                            first = f.getKey() == 1000 ? first : first.add(ways);
                        } else {
                            next.merge(10000 * f.getKey() + to, ways, BigInteger::add);
                        }
                    }
                }
                now = next;
            }
            return (what == 0 ? has : first).longValueExact();
        }

        int edge(int x, int y) {
            if (!two(x, y)) {
                return -1;
            }
            BigInteger behind = BigInteger.valueOf(after(x, y, 10, 0));
            for (int c = 0; c <= 9; c++) {
                if (from(alone(x, c, riddles.size()).get(10), 1000).compareTo(behind) > 0) {
                    return c;
                }
            }
            return 10;
        }

        // BEST: VALUES by texts of states, in big numbers
        final Map<Long, BigInteger> values = new HashMap<>();
        String valuesFor = "";
        int bx, by, forbidden;

        void start(int x, int y, int never) {
            String now = x + "/" + y + "/" + never + "/" + delay + "/" + fog + "/" + bands.size() + "/" + riddles.size() + "/" + String.join(";", clauses);
            if (!now.equals(valuesFor)) {
                values.clear();
                valuesFor = now;
            }
            bx = x;
            by = y;
            forbidden = never;
        }

        List<Integer> deeds(int sx, int sy) {
            List<Integer> list = new ArrayList<>();
            int d = sx % 100;
            if (d > 10) {
                return list;
            }
            if (d <= 5) {
                list.add(0);
            } else {
                list.add(1);
                list.add(2);
            }
            if (in(sy % 100, 11, 16) && sy / 100 == sx / 100 && fog == 0) {
                list.add(3);
            }
            list.add(4);
            for (int k = 2; k <= 4; k++) {
                if ((forbidden & 1 << k - 2) != 0) {
                    list.remove((Integer) k);
                }
            }
            return list;
        }

        int astray(int r, int left, boolean knows) {
            return left == 0 ? 100 * r + (knows ? 10 : 0) : 100 * r + (knows ? 30 : 20) + left;
        }

        Map<Integer, Integer> ofX(int sx, int deed) {
            Map<Integer, Integer> map = new TreeMap<>();
            int r = sx / 100, d = sx % 100;
            if (deed == 0) {
                int s = chance(bx, r, d, 0), e = chance(bx, r, d, 1);
                map.merge(100 * r + 10, s, Integer::sum);
                map.merge(astray(r, delay, false), e, Integer::sum);
                map.merge(100 * r + Math.min(5, d + 1), 8 - s - e, Integer::sum);
            } else if (deed == 1 || deed == 3) {
                map.put(onFoot(r, walk(bx, r) - 1, riddles.size()), 8);
            } else if (deed == 2) {
                map.put(sx, 8);
            } else if (deed == 4) {
                map.put(astray(r, delay - 1, d == 10), 8);
            } else if (d <= 16) {
                map.put(onFoot(r, d - 11, riddles.size()), 8);
            } else {
                map.put(astray(r, d % 10 - 1, d > 30), 8);
            }
            return map;
        }

        Map<Integer, Integer> ofY(int sy, int began) {
            int r = sy / 100;
            if (began != 0 && sy % 100 <= 5 && bands.get(by)[2] == 1 && fog == 0) {
                Map<Integer, Integer> map = new TreeMap<>();
                map.put(began == 1 ? onFoot(r, walk(by, r) - 1, riddles.size()) : astray(r, delay - 1, false), 8);
                return map;
            }
            return tick(sy, (q, t, w) -> chance(by, q, t, w), 8, (q, t, w) -> walk(by, q), riddles.size());
        }

        BigInteger doing(int left, int sx, int sy, int began, int deed) {
            BigInteger sum = BigInteger.ZERO;
            for (Map.Entry<Integer, Integer> a : ofX(sx, deed).entrySet()) {
                for (Map.Entry<Integer, Integer> b : ofY(sy, began).entrySet()) {
                    if (a.getValue() * b.getValue() == 0) {
                        continue;
                    }
                    boolean there = sx / 100 == sy / 100 && sy / 100 == b.getKey() / 100;
                    int begins = !there ? 0 : deed == 1 || deed == 3 ? 1 : deed == 4 ? 2 : 0;
                    BigInteger value = value(left - 1, a.getKey(), b.getKey(), begins);
                    sum = sum.add(value.multiply(BigInteger.valueOf(a.getValue() * b.getValue())));
                }
            }
            return sum;
        }

        BigInteger value(int left, int sx, int sy, int began) {
            if (sx == 1000 || sy == 1000 || left == 0) {
                int worth = sx == 1000 ? sy == 1000 ? 1 : 2 : sy == 1000 ? 0 : 1;
                return BigInteger.valueOf(worth).shiftLeft(6 * left);
            }
            long key = ((left * 1000L + sx) * 1000L + sy) * 3 + began;
            BigInteger known = values.get(key);
            if (known != null) {
                return known;
            }
            List<Integer> deeds = deeds(sx, sy);
            if (deeds.isEmpty()) {
                deeds.add(-1);
            }
            BigInteger most = BigInteger.valueOf(-1);
            for (int deed : deeds) {
                most = most.max(doing(left, sx, sy, began, deed));
            }
            values.put(key, most);
            return most;
        }

        int choice(int left, int sx, int sy, int began) {
            if (left == 0) {
                return -1;
            }
            for (int deed : deeds(sx, sy)) {
                if (doing(left, sx, sy, began, deed).equals(value(left, sx, sy, began))) {
                    return deed;
                }
            }
            return -1;
        }

        boolean isState(int s, boolean y) {
            int d = s % 100;
            return s >= 0 && isRiddle(s / 100) && (d <= 5 || in(d, 11, 16) || in(d, 21, 24) || !y && (d == 10 || in(d, 31, 34)));
        }

        long best(int x, int y, int left, int sx, int sy, int began, int what) {
            if (!two(x, y) || !in(left, 0, 10) || !isState(sx, false) || !isState(sy, true) || !in(began, 0, 2) || !in(what, 0, 1)) {
                return -1;
            }
            start(x, y, 0);
            return what == 0 ? value(left, sx, sy, began).longValueExact() : choice(left, sx, sy, began);
        }

        long without(int x, int y, int never) {
            if (!two(x, y) || !in(never, 1, 7)) {
                return 1;
            }
            start(x, y, never);
            BigInteger bound = value(10, 0, 0, 0);
            start(x, y, 0);
            return bound.subtract(value(10, 0, 0, 0)).longValueExact();
        }

        int waits(int x, int y, int r, int left, int t) {
            if (!two(x, y) || !isRiddle(r) || !in(left, 1, 10) || !in(t, 0, 5)) {
                return -1;
            }
            start(x, y, 0);
            int n = 0;
            while (left > 0 && choice(left, 100 * r + 10, 100 * r + t, 0) == 2) {
                n++;
                left--;
                t = Math.min(5, t + 1);
            }
            return n;
        }

        int order() {
            int n = riddles.size();
            if (n == 0 || orders.size() == 5 || tape.size() < n) {
                return -1;
            }
            int[] row = new int[n];
            boolean good = true;
            for (int i = 0; i < n; i++) {
                row[i] = tape.get(i);
                good &= row[i] < n && tape.subList(0, i).indexOf(row[i]) < 0;
            }
            tape.clear();
            if (!good) {
                return -2;
            }
            orders.add(row);
            return orders.size() - 1;
        }

        int[] least;
        int leastMeets;

        void give(int[] row, int i) {
            if (i < row.length) {
                for (int o = 0; o < orders.size(); o++) {
                    row[i] = o;
                    give(row, i + 1);
                }
                return;
            }
            int meets = 0;
            for (int p = 1; p < riddles.size(); p++) {
                for (int a = 0; a < row.length; a++) {
                    for (int b = 0; b < a; b++) {
                        meets += orders.get(row[a])[p] == orders.get(row[b])[p] ? 1 : 0;
                    }
                }
            }
            if (least == null || meets < leastMeets) {
                least = row.clone();
                leastMeets = meets;
            }
        }

        int given(int n, int what) {
            if (!in(n, 2, 5) || !in(what, -1, n - 1) || orders.isEmpty()) {
                return -1;
            }
            least = null;
            give(new int[n], 0);
            return what == -1 ? leastMeets : least[what];
        }

        long cleverest(int x, int y, int what) {
            if (!two(x, y) || !in(what, 0, 2)) {
                return -1;
            }
            int at = 0;
            BigInteger most = BigInteger.valueOf(-1);
            for (int k = 1; k <= riddles.size(); k++) {
                BigInteger above = aheadBy(x, y, k)[0];
                if (above.compareTo(most) > 0) {
                    most = above;
                    at = k;
                }
            }
            return what == 0 ? at : part(most, BigInteger.ONE.shiftLeft(60), what - 1);
        }

        int lastTick() {
            return log.isEmpty() ? 0 : log.get(log.size() - 1)[2];
        }

        int went(int b, int r, int k) {
            if (!isBand(b) || !isRiddle(r) || !in(k, 1, 10) || k < lastTick() || log.size() == 40) {
                return -1;
            }
            for (int[] e : log) {
                if (e[0] == b && e[1] == r) {
                    return -1;
                }
            }
            log.add(new int[] {b, r, k});
            return log.size();
        }

        int logged(int i, int what) {
            return in(i, 0, log.size() - 1) && in(what, 0, 2) ? log.get(i)[what] : -1;
        }

        int knew(int i, int eighths, int what) {
            if (!in(i, 0, log.size() - 1) || !in(eighths, 1, 8) || !in(what, 0, 1)) {
                return -1;
            }
            int[] me = log.get(i);
            boolean seen = false;
            int came = 0;
            for (int[] e : log.subList(0, i)) {
                seen |= e[0] != me[0] && e[1] == me[1] && me[2] - e[2] <= 2;
                came = e[0] == me[0] ? e[2] + walk(e[0], e[1]) : came;
            }
            int s = chance(me[0], me[1], Math.max(0, Math.min(5, me[2] - 1 - came)), 0);
            if (s == 0) {
                return what == 0 ? 0 : 1;
            }
            return (int) part(BigInteger.valueOf(s), BigInteger.valueOf(seen ? s + eighths : s), what);
        }

        boolean seed(int x) {
            if (!in(x, 0, 65535)) {
                return false;
            }
            dice = x;
            return true;
        }

        int draw() {
            if (bands.isEmpty() || riddles.isEmpty()) {
                return -1;
            }
            log.clear();
            int n = bands.size(), found = 0;
            box = new int[n];
            int[] state = new int[n];
            int[] before = new int[n];
            java.util.Arrays.fill(before, -1);
            for (int k = 1; k <= 10; k++) {
                int[] now = new int[n];
                java.util.Arrays.fill(now, -1);
                for (int b = 0; b < n; b++) {
                    int r = state[b] / 100, d = state[b] % 100;
                    if (state[b] == 1000) {
                        continue;
                    }
                    boolean follows = false;
                    for (int o = 0; o < n; o++) {
                        follows |= o != b && before[o] == r && bands.get(b)[2] == 1 && fog == 0;
                    }
                    if (d > 16) {
                        state[b] = d == 21 ? 100 * r : state[b] - 1;
                    } else if (d > 10) {
                        state[b] = onFoot(r, d - 11, riddles.size());
                    } else if (follows) {
                        now[b] = r;
                        state[b] = onFoot(r, walk(b, r) - 1, riddles.size());
                    } else {
                        dice = (int) ((25173L * dice + 13849) % 65536);
                        int s = chance(b, r, d, 0), e = chance(b, r, d, 1), m = dice % 8;
                        now[b] = m < s ? r : -1;
                        state[b] = m < s ? 100 * r + 10 + walk(b, r) : m < s + e ? 100 * r + 20 + delay : 100 * r + Math.min(5, d + 1);
                    }
                    if (now[b] >= 0) {
                        log.add(new int[] {b, r, k});
                    }
                    if (state[b] == 1000) {
                        box[b] = k;
                        found++;
                    }
                }
                before = now;
            }
            return found;
        }

        int had(int b) {
            return isBand(b) && box != null ? box[b] : -1;
        }

        int clear() {
            int n = log.size();
            log.clear();
            box = null;
            return n;
        }

        int check(int n) {
            if (n < 0 || 12L * n > tape.size()) {
                return -2;
            }
            int answer = n < log.size() ? 3 * n : -1;
            for (int i = 3 * n - 1; i >= 0; i--) {
                long v = 0;
                for (int k = 0; k < 4; k++) {
                    v = v * 256 + tape.get(4 * i + k);
                }
                if (i / 3 >= log.size() || (int) v != log.get(i / 3)[i % 3]) {
                    answer = i;
                }
            }
            tape.clear();
            return answer;
        }

        int count(int what) {
            int[] all = {riddles.size(), bands.size(), clauses.length, tape.size(), orders.size(), log.size(), dice, delay, fog};
            return in(what, 0, 8) ? all[what] : -1;
        }
    }
}
