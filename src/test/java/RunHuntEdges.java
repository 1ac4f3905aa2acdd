import java.util.Arrays;

/**
 * The document read a second time, for its boundaries: each sentence that names one has a test here that stands on both sides of it.
 * What is due is told by a rule so plain that it can be read beside the sentence. (What is refused: RunHuntRefused.)
 */
public final class RunHuntEdges {
    static final int NEVER = 99;
    static final String DIGITS = "0123456789";
    static final String FACTOR = DIGITS + "chtrbnfq[";
    static final String PIECE = FACTOR + "(!";
    static final String SUMS = "+-*/%";

    static int wrong = 0;
    static int calls = 0;
    static String promise = "";
    static RunHunt spare = null;
    static int spareCalls = 0;

    public static void main(String[] args) {
        newObject();
        riddleNumbers();
        bandNumbers();
        weatherNumbers();
        feedBytesInOrder();
        lawLengths();
        lawSigns();
        lawDigits();
        lawClauses();
        lawDepth();
        lawOpenPieces();
        lawTapeAndText();
        lawDeepMeaning();
        eighthsFromTo();
        thirtyTwoBits();
        dividedByZero();
        asMuchAsMatters();
        firstClause();
        lettersAtTheirEnds();
        walkFromTo();
        waysToTheLastTick();
        waysToEachRiddle();
        thoughtAtMostFive();
        astrayForDelay();
        aheadAtTheLastTick();
        shareOfTwo();
        afterAtTheLastTick();
        afterRiddles();
        afterThree();
        edgeFromTo();
        bestStates();
        bestOnFoot();
        bestInFog();
        bestFollow();
        bestBegan();
        bestSeen();
        bestAstrayThen();
        bestThought();
        bestChancesOfY();
        bestRiddles();
        bestAsked();
        bestLead();
        bestWrongIsNotLed();
        bestNothingLeft();
        withoutEach();
        waitsOneBehindTheOther();
        waitsToComeInTime();
        orderRows();
        ordersFive();
        givenLeast();
        cleverestFewest();
        cleverestLetters();
        fogElsewhere();
        wentTicks();
        goingsOfAll();
        knewWindow();
        knewThought();
        seedEnds();
        diceBelow();
        drawnToTheLastTick();
        drawnFollowing();
        hadAndFalls();
        checkPlaces();
        counts();
        System.out.println(calls + " calls; " + (wrong == 0 ? "all boundaries hold" : wrong + " answers are not as due"));
        System.exit(wrong == 0 ? 0 : 1);
    }

    // ---- helpers

    static void due(String call, long got, long want) {
        calls++;
        if (got != want) {
            wrong++;
            if (wrong < 60) {
                System.out.println(promise + ": " + call + " answered " + got + ", due is " + want);
            }
        }
    }

    static void due(String call, boolean got, boolean want) {
        due(call, got ? 1 : 0, want ? 1 : 0);
    }

    static void feed(RunHunt x, int... bytes) {
        for (int i = 0; i < bytes.length; i += 20) {
            int[] w = new int[5];
            for (int k = 0; k < 20 && i + k < bytes.length; k++) {
                w[k / 4] |= (bytes[i + k] & 255) << 24 - 8 * (k % 4);
            }
            x.feed(w[0], w[1], w[2], w[3], w[4]);
        }
    }

    static int law(RunHunt x, String text) {
        x.check(0);
        feed(x, text.chars().toArray());
        return x.law(text.length());
    }

    /** What law answers to a TEXT: on one object as long as that has calls left (512). */
    static int ofText(String text) {
        int needed = 13;
        if (spareCalls < needed) {
            spare = new RunHunt();
            spareCalls = 512;
        }
        spareCalls -= needed;
        return law(spare, text);
    }

    static int order(RunHunt x, int... row) {
        x.check(0);
        feed(x, row);
        return x.order();
    }

    static void numbers(RunHunt x, int... numbers) {
        int[] bytes = new int[4 * numbers.length];
        for (int i = 0; i < bytes.length; i++) {
            bytes[i] = numbers[i / 4] >>> 24 - 8 * (i % 4) & 255;
        }
        x.check(0);
        feed(x, bytes);
    }

    /** A hill of RIDDLES that are each 24 apart: QUICK 4, 5, 6, 8 are WALKS of 6, 5, 4, 3. */
    static RunHunt hill(String law, int riddles) {
        RunHunt x = new RunHunt();
        due("law " + law, law(x, law) > 0, true);
        for (int i = 0; i < riddles; i++) {
            x.riddle(0, i % 2 == 0 ? 24 : 0, 0);
        }
        return x;
    }

    /** One RIDDLE and two BANDS with just these WALKS: 6 far is 1 to 6 TICKS by 6, 3, 2, far 4 .. */
    static RunHunt two(String law, int walkX, int walkY, int followsY) {
        RunHunt x = new RunHunt();
        law(x, law);
        x.riddle(0, farFor(walkX, walkY), 0);
        x.band(1, quickFor(walkX, walkX, walkY), 0);
        x.band(1, quickFor(walkY, walkX, walkY), followsY);
        due("THE WALK of x", x.walk(0, 0), walkX);
        due("THE WALK of y", x.walk(1, 0), walkY);
        return x;
    }

    static int farFor(int one, int other) {
        for (int far = 0; far <= 30; far++) {
            if (quick(far, one) > 0 && quick(far, other) > 0) {
                return far;
            }
        }
        throw new IllegalStateException();
    }

    static int quickFor(int walk, int one, int other) {
        return quick(farFor(one, other), walk);
    }

    static int quick(int far, int walk) {
        for (int q = 1; q <= 9; q++) {
            if (stepsOf(far, q) == walk) {
                return q;
            }
        }
        return 0;
    }

    /** Counted, not divided. */
    static int stepsOf(int far, int quick) {
        int ticks = 0;
        for (int rest = far; rest > 0; rest -= quick) {
            ticks++;
        }
        return ticks < 1 ? 1 : ticks > 6 ? 6 : ticks;
    }

    static long power(int of, int times) {
        long all = 1;
        for (int k = 0; k < times; k++) {
            all *= of;
        }
        return all;
    }

    /** 2, 1 or 0 by the TICKS at which x and y have THE BOX, with so many left. */
    static int worth(int boxX, int boxY, int left) {
        boolean hasX = boxX <= left, hasY = boxY <= left;
        return hasX && (!hasY || boxX < boxY) ? 2 : hasX && boxX == boxY || !hasX && !hasY ? 1 : 0;
    }

    static void dueBest(RunHunt x, int left, int sx, int sy, int began, long worth, int deed) {
        String call = "best(0, 1, " + left + ", " + sx + ", " + sy + ", " + began + ")";
        due(call + " VALUE", x.best(0, 1, left, sx, sy, began, 0), worth * power(64, left));
        due(call + " what x does", x.best(0, 1, left, sx, sy, began, 1), deed);
    }

    // ---- promises 1 to 5

    static void newObject() {
        promise = "1 a new object";
        RunHunt busy = hill("s8(1=1)", 2);
        busy.band(1, 4, 0);
        busy.weather(4, 1);
        busy.seed(9);
        order(busy, 0, 1);
        busy.draw();
        busy.feed(1, 2, 3, 4, 5);
        RunHunt x = new RunHunt();
        int[] want = {0, 0, 0, 0, 0, 0, 1, 2, 0};
        for (int what = 0; what <= 8; what++) {
            due("count(" + what + ")", x.count(what), want[what]);
        }
        due("no LOG", x.logged(0, 0), -1);
        due("no ORDERS", x.given(2, -1), -1);
        due("nothing to clear", x.clear(), 0);
        due("no LOG is right", x.check(0), -1);
        x.riddle(0, 0, 0);
        x.band(9, 9, 0);
        for (int t = 0; t <= 5; t++) {
            due("no LAW: s", x.chance(0, 0, t, 0), 0);
            due("no LAW: e", x.chance(0, 0, t, 1), 0);
        }
        due("DELAY and FOG of another object", busy.count(7) * 10 + busy.count(8), 41);
        due("RIDDLES of another object", busy.count(0), 2);
        due("the first going of another object", busy.logged(0, 2), 1);
    }

    static void riddleNumbers() {
        promise = "2 riddle";
        RunHunt x = new RunHunt();
        law(x, "s8(h=9);s4(h=0)");
        x.band(0, 9, 0);
        int[] hard = {0, 9, 0, 9, 5};
        for (int r = 0; r < 5; r++) {
            due("the number", x.riddle(hard[r], 30 * (r % 2), 30 * (r / 2 % 2)), r);
            due("HARD", x.chance(0, r, 0, 0), hard[r] == 9 ? 8 : hard[r] == 0 ? 4 : 0);
            due("none more", x.chance(0, r + 1, 0, 0), -1);
        }
        due("a sixth", x.riddle(0, 0, 0), -1);
        due("count(0)", x.count(0), 5);
        for (int r = 1; r <= 5; r++) {
            x = new RunHunt();
            x.band(0, 1, 0);
            for (int k = 0; k < r; k++) {
                int[] row = new int[k];
                for (int i = 0; i < k; i++) {
                    row[i] = i;
                }
                if (k > 0) {
                    due("an ORDER", order(x, row), 0);
                    due("a going", x.went(0, k - 1, 1), 1);
                    x.draw();
                    due("a hunt", x.had(0) >= 0, true);
                }
                x.riddle(0, 1, 1);
                due("ORDERS fall", x.count(4), 0);
                due("the LOG falls", x.count(5), 0);
                due("the hunt with it", x.had(0), -1);
            }
        }
    }

    static void bandNumbers() {
        promise = "3 band";
        RunHunt x = new RunHunt();
        law(x, "s8(c=9);s4(c=0);e1(q=1);e2(q=9)");
        x.riddle(0, 18, 0);
        order(x, 0);
        int[][] bands = {{0, 1, 0}, {9, 9, 1}, {0, 9, 1}, {9, 1, 0}, {4, 5, 0}};
        for (int b = 0; b < 5; b++) {
            x.draw();
            due("the number", x.band(bands[b][0], bands[b][1], bands[b][2]), b);
            due("the LOG falls", x.count(5), 0);
            due("the hunt with it", x.had(0), -1);
            due("ORDERS stay", x.count(4), 1);
            due("CLEVER", x.chance(b, 0, 0, 0), bands[b][0] == 9 ? 8 : bands[b][0] == 0 ? 4 : 0);
            due("QUICK on foot", x.walk(b, 0), stepsOf(18, bands[b][1]));
            due("none more", x.walk(b + 1, 0), -1);
        }
        due("QUICK 1", x.chance(0, 0, 0, 1), 1);
        due("QUICK 9", x.chance(2, 0, 0, 1), 2);
        x.went(4, 0, 1);
        due("a sixth", x.band(0, 1, 0), -1);
        due("the LOG stays", x.count(5), 1);
        due("count(1)", x.count(1), 5);
    }

    static void weatherNumbers() {
        promise = "4 weather";
        RunHunt x = new RunHunt();
        for (int delay = -1; delay <= 6; delay++) {
            for (int fog = -1; fog <= 2; fog++) {
                x.weather(3, 1);
                boolean fits = delay >= 1 && delay <= 4 && (fog == 0 || fog == 1);
                due("weather(" + delay + ", " + fog + ")", x.weather(delay, fog), fits);
                due("DELAY", x.count(7), fits ? delay : 3);
                due("FOG", x.count(8), fits ? fog : 1);
            }
        }
        x = hill("sf+1(1=1)", 1);
        x.band(0, 9, 0);
        order(x, 0);
        x.draw();
        int goings = x.count(5);
        due("no FOG at first", x.chance(0, 0, 0, 0), 1);
        x.weather(4, 1);
        due("f", x.chance(0, 0, 0, 0), 2);
        due("ORDERS stay", x.count(4), 1);
        due("the LOG stays", x.count(5), goings);
        due("the hunt stays", x.had(0) >= 0, true);
    }

    static void feedBytesInOrder() {
        promise = "5 feed";
        RunHunt x = new RunHunt();
        for (int k = 1; k <= 11; k++) {
            due("feed " + k, x.feed(0, 0, 0, 0, 0), 20 * k);
        }
        due("more than 220", x.feed(0, 0, 0, 0, 0), -1);
        due("count(3)", x.count(3), 220);
        // twenty bytes, each its own: as a LAW they are read from the highest of the first int on
        String text = "s5(1=1);e1(2=2);e3(1";
        for (int n = 1; n <= 20; n++) {
            x = new RunHunt();
            feed(x, text.chars().toArray());
            due("the first " + n + " bytes", x.law(n), n == 7 ? 1 : n == 15 ? 2 : -1000 - n);
        }
        x = new RunHunt();
        x.riddle(0, 0, 0);
        x.band(0, 1, 0);
        feed(x, 's', '5', '(', '1', '=', '1', ')', ' ', 255, 128, 127, 0, 1, 2, 3, 4, 5, 6, 7, 8);
        feed(x, 'x');
        due("what stands behind the first n is of no matter", x.law(7), 1);
        due("s", x.chance(0, 0, 0, 0), 5);
        due("the tape is empty then", x.count(3), 0);
    }

    // ---- promise 6

    static String repeat(String text, int times) {
        StringBuilder all = new StringBuilder();
        for (int k = 0; k < times; k++) {
            all.append(text);
        }
        return all.toString();
    }

    /** A TEXT of just so many bytes, by which s is 5. */
    static String lawOfBytes(int bytes) {
        String sums = "s5" + repeat("+0", (bytes - 7) / 2);
        return sums + repeat("0", bytes - 5 - sums.length()) + "(1=1)";
    }

    static void lawLengths() {
        promise = "6 law, 200 bytes";
        for (int bytes = 9; bytes <= 220; bytes++) {
            RunHunt x = hill("s1(1=1)", 1);
            x.band(0, 1, 0);
            feed(x, lawOfBytes(bytes).chars().toArray());
            due("law(" + bytes + ")", x.law(bytes), bytes <= 200 ? 1 : -1);
            due("the tape behind law(" + bytes + ")", x.count(3), bytes <= 200 ? 0 : 220);
            due("s by " + bytes + " bytes", x.chance(0, 0, 0, 0), bytes <= 200 ? 5 : 1);
        }
        String open = lawOfBytes(201).substring(0, 200);
        due("the end behind 200 bytes", ofText(open), -1200);
        due("the end behind 199 bytes", ofText(open.substring(0, 199)), -1199);
        due("a blank as the 200th byte", ofText(open.substring(0, 199) + " "), -1199);
        due("a blank as the 199th byte", ofText(open.substring(0, 198) + " )"), -1198);
        due("one byte", ofText("s"), -1001);
        due("one byte that can't stand there", ofText("x"), -1000);
        due("no bytes", ofText(""), -1);
    }

    /** Behind a prefix, each byte there is: what can stand there, and the place of what can't. */
    static void signs(String prefix, String can, String whole, int fault, String faults) {
        for (int sign = 0; sign <= 255; sign++) {
            char s = (char) sign;
            int n = prefix.length();
            int want = faults.indexOf(s) >= 0 ? -1000 * fault - n : can.indexOf(s) < 0 ? -1000 - n : -1000 - n - 1;
            if (whole.indexOf(s) >= 0) {
                want = (int) (prefix + s).chars().filter(c -> c == ';').count() + 1;
            }
            due("law " + prefix + " and byte " + sign, ofText(prefix + s), want);
        }
    }

    static void signs(String prefix, String can) {
        signs(prefix, can, "", 1, "");
    }

    static void lawSigns() {
        promise = "6 law, what can't stand there";
        signs("", "se");
        for (String prefix : new String[] {"s", "e", "s1+", "sc-", "st*", "s1/", "s2%", "s[", "s[[", "s[h+", "s1(2<", "s1(q>", "s1(n=", "s1([", "s1(1<[", "s1(f*"}) {
            signs(prefix, FACTOR);
        }
        for (String prefix : new String[] {"s1(", "e1(!", "s1((", "s1(!!", "s1(1=1&", "s1(1=1|", "s1(!1=1&", "s1(1=1&(1=1)|", "s1(1=1);e2("}) {
            signs(prefix, PIECE);
        }
        signs("s1", SUMS + DIGITS + "(");
        signs("s1234", SUMS + DIGITS + "(");
        for (String prefix : new String[] {"sc", "sh", "st", "sr", "sb", "sn", "sf", "sq", "s[c]", "s[1]", "s1+c", "s1*[2]"}) {
            signs(prefix, SUMS + "(");
        }
        signs("s[1", SUMS + DIGITS + "]");
        for (String prefix : new String[] {"s[c", "s[[c]", "s[1+q", "s1([r", "s1(1<[b", "s1(1<1*[f", "s1([[1]"}) {
            signs(prefix, SUMS + "]");
        }
        signs("s1(1", SUMS + DIGITS + "<>=");
        for (String prefix : new String[] {"s1(c", "s1([c]", "s1(!h", "s1((q", "s1(1=1&t", "s1(1=1|r", "s1(c-c"}) {
            signs(prefix, SUMS + "<>=");
        }
        signs("s1(!1=1", SUMS + DIGITS + "&|", ")", 1, "");
        signs("s1(1=1", SUMS + DIGITS + "&|", ")", 1, "");
        for (String prefix : new String[] {"s1(1=c", "s1(!1=c", "s1(1=1&1<c", "s1(1=1|1>c", "s1(1=[c]", "s1(1=1);e1(1=c"}) {
            signs(prefix, SUMS + "&|", ")", 1, "");
        }
        signs("s1((1=c", SUMS + "&|)");
        for (String prefix : new String[] {"s1((1=1)", "s1(!(1=1)", "s1(1=1&(1=1)", "s1(((1=1))", "s1((1=1|1=1)"}) {
            signs(prefix, "&|", ")", 1, "");
        }
        for (String prefix : new String[] {"s1(1=1)", "s1((1=1))", "s1(1=1);e1(1=1)"}) {
            signs(prefix, ";");
        }
        signs("s1(1=1);", "se");
    }

    static void lawDigits() {
        promise = "6 law, a sixth digit";
        String[] before = {"s", "e", "s[", "s1+", "s1(", "s1(1=", "s1(!", "s1((", "s1([", "s1(1=1&", "s1(1=1|1<", "s1(1=1);e", "s[[[[[["};
        for (String prefix : before) {
            for (String five : new String[] {"00000", "12345", "99999"}) {
                int n = prefix.length();
                for (int digits = 1; digits <= 5; digits++) {
                    String text = prefix + five.substring(0, digits);
                    due("law " + text, ofText(text), text.equals("s1(1=1);") ? 1 : -1000 - text.length());
                }
                for (char digit = '0'; digit <= '9'; digit++) {
                    due("law " + prefix + five + digit, ofText(prefix + five + digit), -2000 - n - 5);
                    due("and more", ofText(prefix + five + digit + "7("), -2000 - n - 5);
                }
            }
        }
        due("five digits each", ofText("s12345+67890([11111]=22222&33333<44444)"), 1);
        due("a fault ahead of it", ofText("s1(1=1=123456)"), -1006);
        due("a fault behind it", ofText("s123456("), -2006);
    }

    static String clauses(int many) {
        StringBuilder text = new StringBuilder();
        for (int k = 0; k < many; k++) {
            text.append(k == 0 ? "" : ";").append(k % 2 == 0 ? "s" : "e").append(k % 9).append("(0=").append(k == 13 ? 0 : 1).append(')');
        }
        return text.toString();
    }

    static void lawClauses() {
        promise = "6 law, 14 CLAUSES";
        for (int many = 1; many <= 16; many++) {
            RunHunt x = new RunHunt();
            due(many + " CLAUSES", law(x, clauses(many)), many <= 14 ? many : -4000 - 14 * 8);
            due("count(2)", x.count(2), many <= 14 ? many : 0);
        }
        String most = clauses(14) + ";";
        due("nothing behind the last ;", ofText(most), -1112);
        signs(most, "", "", 4, "se");
        for (String rest : new String[] {"", "1", "123456", "[[[[[[[", "(", ";", "1(0=0)", "1(0=0);x"}) {
            due("a 15th at its letter", ofText(most + "e" + rest), -4112);
        }
        due("a fault ahead of the 15th", ofText(clauses(13) + ";s1(0=);s1(0=0)"), -1109);
        RunHunt x = hill(clauses(14), 1);
        x.band(0, 1, 0);
        due("the 14th is the one that holds", x.chance(0, 0, 0, 1), 4);
    }

    /** A seventh of ( [ ! in one another: each mixture of those a C can open, six deep, and a seventh behind it. */
    static void lawDepth() {
        promise = "6 law, open in one another";
        for (int open = 0; open <= 8; open++) {
            String text = "s" + repeat("[", open) + "1" + repeat("]", open) + "(1=1)";
            due("law " + text, ofText(text), open <= 6 ? 1 : -5007);
            text = "s1+2*" + repeat("[", open) + "1" + repeat("]", open) + "(1=1)";
            due("law " + text, ofText(text), open <= 6 ? 1 : -5011);
        }
        for (int mixture = 0; mixture < 64; mixture++) {
            for (int square = 0; square <= 6; square++) {
                StringBuilder opening = new StringBuilder(), closing = new StringBuilder();
                for (int k = 0; k < 6 - square; k++) {
                    boolean round = (mixture >> k & 1) == 1;
                    opening.append(round ? '(' : '!');
                    closing.insert(0, round ? ")" : "");
                }
                String text = "s1(" + opening + repeat("[", square) + "1" + repeat("]", square) + "=1" + closing + ")";
                due("law " + text, ofText(text), -5008);
                text = "s1(" + opening + "1=" + repeat("[", square) + "1" + repeat("]", square) + closing + ")";
                due("law " + text, ofText(text), -5008 - (square > 0 ? 2 : 0));
                if (opening.length() > 0) {
                    String less = opening.substring(1);
                    String end = opening.charAt(0) == '(' ? closing.substring(0, closing.length() - 1) : closing.toString();
                    text = "s1(" + less + repeat("[", square) + "1" + repeat("]", square) + "=1" + end + ")";
                    due("law " + text, ofText(text), 1);
                    text = "s1(" + less + "1=" + repeat("[", square) + "1" + repeat("]", square) + end + ")";
                    due("law " + text, ofText(text), 1);
                }
            }
        }
        signs("s[[[[[[", DIGITS + "chtrbnfq", "", 5, "[");
        signs("s[[[[[", FACTOR);
        signs("s1((((((", DIGITS + "chtrbnfq", "", 5, "[(!");
        signs("s1(!!!!!", DIGITS + "chtrbnfq", "", 5, "[(!");
        signs("s1(!(!(!", DIGITS + "chtrbnfq", "", 5, "[(!");
        signs("s1((((((c<", DIGITS + "chtrbnfq", "", 5, "[");
        signs("s1(!!!!!c=t*", DIGITS + "chtrbnfq", "", 5, "[");
        signs("s1(((((", PIECE);
        signs("s1(((((c<", FACTOR);
        signs("s1(((((c<[", DIGITS + "chtrbnfq", "", 5, "[");
        signs("s1((((((c<t", SUMS + "&|)");
        signs("s1((((((1", SUMS + DIGITS + "<>=");
    }

    /** A ! is open till its PIECE ends, a ( and a [ till they are closed; the E of a CLAUSE stands ahead of its (. */
    static void lawOpenPieces() {
        promise = "6 law, till its PIECE ends";
        signs("s1(!!!!!c<t&", PIECE);
        signs("s1(!!!!!c<t|", PIECE);
        signs("s1((((((c<t))))) &".replace(" ", ""), PIECE);
        signs("s1(!(!(!c<t))&", PIECE);
        signs("s1((!!!!c<t&", PIECE);
        due("five ! beside five !", ofText("s1(!!!!!1=1&!!!!!1=1|!!!!!1=1)"), 1);
        due("a ! of a ( ends with it", ofText("s1(!(!(!1=1)|!!1=1)&!!!!!1=1)"), 1);
        due("within, it is open", ofText("s1(!(!(!1=1)|!!!!1=1))"), -5016);
        due("[ closed again", ofText("s1([[[[[1]]]]]+[[[[[1]]]]]=[[[[[1]]]]])"), 1);
        due("the E stands ahead of the (", ofText("s[[[[[[1]]]]]](((((([1]=1))))))"), -5020);
        due("the E stands ahead of the (", ofText("s[[[[[[1]]]]]]((((((1=1))))))"), 1);
        due("another CLAUSE begins anew", ofText("s[[[[[[1]]]]]]((((((1=1))))));e[[[[[[1]]]]]](!!!!!1=1)"), 2);
        due("what can't stand there is no seventh", ofText("s1((((((1(1=1))))))"), -1009);
        due("what can't stand there is no seventh", ofText("s[[[[[[1[1]]]]]](1=1)"), -1008);
        due("what can't stand there is no seventh", ofText("s1((((((1=1!1=1))))))"), -1011);
    }

    /** What is open six deep is reckoned, too. */
    static void lawDeepMeaning() {
        promise = "7 chance, six deep";
        due("[ in an E", of("s[[[[[[5]]]]]](1=1)", 0), 5);
        due("[ in an E", of("s1+[2*[1+[2-[1*[1+[1-1]]]]]](1=1)", 0), 1 + 2 * (1 + (2 - 1)));
        due("[ in a C, left", of("s3([[[[[h]]]]]=2);s4(1=1)", 0), 3);
        due("[ in a C, right", of("s3(2=[[[[[h]]]]]);s4(1=1)", 0), 3);
        due("[ in a C, less", of("s3([[[[[h]]]]]<2);s4(1=1)", 0), 4);
        due("(", of("s3((((((h=2))))));s4(1=1)", 0), 3);
        due("(", of("s3((((((h=1))))));s4(1=1)", 0), 4);
        due("five !", of("s3(!!!!!h=2);s4(1=1)", 0), 4);
        due("five !", of("s3(!!!!!h=1);s4(1=1)", 0), 3);
        due("! and ( by turns", of("s3(!(!(!h=1)));s4(1=1)", 0), 3);
        due("! and ( by turns", of("s3((!(!(h=1))));s4(1=1)", 0), 4);
        due("! [ (", of("s3(!(!([h]=2)));s4(1=1)", 0), 3);
    }

    static void lawTapeAndText() {
        promise = "6 law, what stays";
        RunHunt x = hill("s3(1=1);e2(1=1)", 1);
        x.band(0, 1, 0);
        order(x, 0);
        x.draw();
        int goings = x.count(5), dice = x.count(6);
        String[] bad = {"s", "s5(1=1", "s5(1=1);e", "s123456(1=1)", clauses(15), "s1(((((((1=1)))))))", "x"};
        for (String text : bad) {
            due("law " + text, law(x, text) <= -1000, true);
            due("the TEXT before stays", 10 * x.chance(0, 0, 0, 0) + x.chance(0, 0, 0, 1), 32);
            due("its CLAUSES stay", x.count(2), 2);
            due("the tape is empty", x.count(3), 0);
        }
        due("law(1) of an empty tape", x.law(1), -1);
        due("another one in place of it", law(x, "s7(1=1)"), 1);
        due("CLAUSES", x.count(2), 1);
        due("s and e", 10 * x.chance(0, 0, 0, 0) + x.chance(0, 0, 0, 1), 70);
        due("ORDERS stay", x.count(4), 1);
        due("the LOG stays", x.count(5), goings);
        due("the hunt stays", x.had(0) >= 0, true);
        due("X stays", x.count(6), dice);
    }

    // ---- promise 7

    static int of(String text, int what) {
        RunHunt x = new RunHunt();
        x.riddle(1, 0, 0);
        x.riddle(2, 0, 0);
        x.band(9, 7, 0);
        x.band(4, 6, 0);
        int clauses = law(x, text);
        return clauses < 1 ? clauses : x.chance(1, 1, 3, what);
    }

    static void eighthsFromTo() {
        promise = "7 chance, from 0 to 8";
        for (int s = -12; s <= 12; s++) {
            for (int e = -12; e <= 12; e++) {
                String text = "s" + (s < 0 ? "0-" + -s : "" + s) + "(1=1);e" + (e < 0 ? "0-" + -e : "" + e) + "(1=1)";
                int good = s < 0 ? 0 : s > 8 ? 8 : s;
                int bad = e < 0 ? 0 : e > 8 - good ? 8 - good : e;
                due("s of " + text, of(text, 0), good);
                due("e of " + text, of(text, 1), bad);
            }
        }
        due("the most", of("s99999(1=1)", 0), 8);
        due("the least", of("s0-99999(1=1)", 0), 0);
        due("the machine's most", of("s32768*65536-1(1=1)", 0), 8);
        due("the machine's least", of("s32768*65536(1=1);e32768*65536(1=1)", 0), 0);
        due("e of the machine's least", of("s32768*65536(1=1);e32768*65536(1=1)", 1), 0);
    }

    /** A number of 32 bits in the words of THE LAW: a half more than five digits can tell. */
    static String told(int number) {
        int high = number >> 16;
        return "[" + (high < 0 ? "[0-" + -high + "]" : "" + high) + "*65536+" + (number & 65535) + "]";
    }

    static void reckons(String text, int number) {
        due(text + " = " + number, of("s3(" + text + "=" + told(number) + ");s1(1=1)", 0), 3);
        if (number < Integer.MAX_VALUE) {
            due(text + " < " + (number + 1), of("s3(" + text + "<" + told(number + 1) + ");s1(1=1)", 0), 3);
            due(text + " > " + (number + 1), of("s3(" + text + ">" + told(number + 1) + ");s1(1=1)", 0), 1);
            due(text + " = " + (number + 1), of("s3(" + text + "=" + told(number + 1) + ");s1(1=1)", 0), 1);
        }
        if (number > Integer.MIN_VALUE) {
            due(text + " > " + (number - 1), of("s3(" + text + ">" + told(number - 1) + ");s1(1=1)", 0), 3);
            due(text + " < " + (number - 1), of("s3(" + text + "<" + told(number - 1) + ");s1(1=1)", 0), 1);
            due(text + " = " + (number - 1), of("s3(" + text + "=" + told(number - 1) + ");s1(1=1)", 0), 1);
        }
        due(text + " is not less than it is", of("s3(" + text + "<" + told(number) + ");s1(1=1)", 0), 1);
        due(text + " is not greater than it is", of("s3(" + text + ">" + told(number) + ");s1(1=1)", 0), 1);
    }

    static void thirtyTwoBits() {
        promise = "7 chance, 32 bits";
        reckons("65535*65537", -1);
        reckons("65536*65536", 0);
        reckons("46340*46340", 46340 * 46340);
        reckons("46341*46341", -2147479015);
        reckons("99999*99999", 99999 * 99999);
        reckons("32768*65536", Integer.MIN_VALUE);
        reckons("32768*65536-1", Integer.MAX_VALUE);
        reckons("32767*65536+65535", Integer.MAX_VALUE);
        reckons("32767*65536+65535+1", Integer.MIN_VALUE);
        reckons("32768*65536/[0-1]", Integer.MIN_VALUE);
        reckons("32768*65536%[0-1]", 0);
        reckons("0-[32768*65536]", Integer.MIN_VALUE);
        reckons("0-99999*99999", -(99999 * 99999));
        reckons("[0-7]/2", -3);
        reckons("[0-7]%2", -1);
        reckons("7/[0-2]", -3);
        reckons("7%[0-2]", 1);
        reckons("[0-7]/[0-2]", 3);
        reckons("[0-7]%[0-2]", -1);
        reckons("2-3-4", -5);
        reckons("2-[3-4]", 3);
        reckons("1-2*3", -5);
        reckons("100/7*7", 98);
        reckons("7*100/7", 100);
        reckons("100%7%2", 0);
        reckons("100%[7%4]", 1);
        reckons("2*3%4", 2);
        reckons("0/5+0%5", 0);
        reckons("00000", 0);
        reckons("00099-99999", -99900);
        reckons("c*h*t+r-b*n+f-q/2", 24 + 1 - 2 + 0 - 3);
    }

    static void dividedByZero() {
        promise = "7 chance, divided by 0";
        for (String zero : new String[] {"0", "f", "00000", "[0]", "[1-1]", "[r-b]", "[t-3]", "[65536*65536]", "[0*5]", "[0/1]", "[4%c]"}) {
            for (String by : new String[] {"/", "%"}) {
                String bad = "5" + by + zero;
                due("an E is 0: s" + bad, of("s" + bad + "(1=1);s4(1=1)", 0), 0);
                due("an E is 0: as a whole", of("s8+" + bad + "(1=1);s4(1=1)", 0), 0);
                due("an E is 0: as a whole", of("s" + bad + "+8(1=1);s4(1=1)", 0), 0);
                due("an E is 0: in brackets, times 0", of("s6+[[" + bad + "]*0](1=1);s4(1=1)", 0), 0);
                due("e, too", of("s1(1=1);e6+" + bad + "(1=1);e4(1=1)", 1), 0);
                due("its C is asked first from the left: does not hold", of("s" + bad + "(1=2);s4(1=1)", 0), 4);
                for (String c : new String[] {bad + "=5", "5=" + bad, "0=" + bad, bad + "<9", "0>" + bad, "[" + bad + "]=0", "0*[" + bad + "]=0",
                    "!" + bad + "=5", "!!" + bad + "=5", "(" + bad + "=5)", "!(" + bad + "=5)", bad + "=5|1=1", "1=2|" + bad + "=5|1=1", "1=1&" + bad + "=5|1=1",
                    "!(1=1&!(" + bad + "=5))|1=1", "(1=2|" + bad + "=5)|1=1", "!!!!" + bad + "=5"}) {
                    due("C " + c, of("s3(" + c + ");s4(1=1)", 0), 4);
                    due("e by C " + c, of("e3(" + c + ");e4(1=1)", 1), 4);
                }
            }
        }
        due("0 divided is nothing of the kind", of("s3+0/5+0%5(0/5=0%5);s4(1=1)", 0), 3);
        due("0 by 0", of("s3(0/0=0|1=1);s4(1=1)", 0), 4);
        due("one that holds, another one's 0", of("s3(1=1);s4(1/0=1)", 0), 3);
        due("refused CLAUSES only", of("s3(1/0=1);s4(1%0=1)", 0), 0);
        due("a refused E lets the next C be asked anew", of("s3(1/0=1);s4(2=2);s5(1=1)", 0), 4);
        RunHunt x = new RunHunt();
        x.riddle(0, 0, 0);
        x.band(0, 1, 0);
        law(x, "s8/t(1=1)");
        for (int t = 0; t <= 5; t++) {
            due("8/t", x.chance(0, 0, t, 0), t == 0 ? 0 : 8 / t);
        }
        law(x, "s8(9/t>2|1=1);s1(1=1)");
        for (int t = 0; t <= 5; t++) {
            due("9/t in a C", x.chance(0, 0, t, 0), t == 0 ? 1 : 8);
        }
    }

    static void asMuchAsMatters() {
        promise = "7 chance, as much as matters";
        String[] holds = {"T", "T|Z", "F|T", "F|T|Z", "T|T&Z", "T&T", "F&Z|T", "F&Z&Z|T", "T&F&Z|T", "(T|Z)", "(T|Z)&T", "T&(T|Z)", "(F&Z)|T", "!F", "!(F&Z)",
            "!(F&Z)&T", "!(T|Z)|T", "F|!(F&Z)", "!!T", "!!(T|Z)", "!!!(F&Z)", "(T&(T|Z))&!(F&Z)", "F&Z|F&Z|T|Z", "T|Z|Z", "(F&(Z|Z)|T)&(T|Z&Z)"};
        String[] not = {"F", "Z", "T&Z", "F|Z", "Z|T", "Z&F", "T&Z|T", "F&Z", "F&Z|F", "F|F&Z", "!T", "!Z", "!!Z", "!(T&Z)", "!(F|Z)", "!(T|Z)", "!(T|Z)&Z", "(Z)|T", "T&(F|Z)",
            "T&F", "T&T&F", "(F|T)&F", "!F&F", "!(F|F)&F", "!(T)|F", "!(F)&F|F", "T&!(T|Z)", "!!F"};
        for (String c : holds) {
            due(c, of("s3(" + said(c) + ");s4(1=1)", 0), 3);
        }
        for (String c : not) {
            due(c, of("s3(" + said(c) + ");s4(1=1)", 0), 4);
        }
    }

    static String said(String c) {
        return c.replace("T", "1=1").replace("F", "1=2").replace("Z", "1/0=1");
    }

    static void firstClause() {
        promise = "7 chance, the first CLAUSE";
        due("the first of a letter whose C holds", of("s1(1=2);e2(1=1);s3(1=1);s4(1=1);e5(1=1)", 0), 3);
        due("the first of a letter whose C holds", of("s1(1=2);e2(1=1);s3(1=1);s4(1=1);e5(1=1)", 1), 2);
        due("none of s", of("e2(1=1)", 0), 0);
        due("none of e", of("s2(1=1)", 1), 0);
        due("none holds", of("s2(1=2);e3(1=2)", 0), 0);
        due("none holds", of("s2(1=2);e3(1=2)", 1), 0);
        due("an E of 0 is an E", of("s0(1=1);s5(1=1)", 0), 0);
        due("an E below 0 is an E", of("s0-3(1=1);s5(1=1)", 0), 0);
        for (int first = 0; first < 14; first++) {
            StringBuilder text = new StringBuilder();
            for (int k = 0; k < 14; k++) {
                text.append(k == 0 ? "" : ";").append("s").append(1 + k % 8).append(k >= first ? "(1=1)" : "(1=2)");
            }
            due("CLAUSE " + first, of(text.toString(), 0), 1 + first % 8);
        }
    }

    static void lettersAtTheirEnds() {
        promise = "7 chance, the letters";
        for (int clever = 0; clever <= 9; clever += 9) {
            for (int quick = 1; quick <= 9; quick += 8) {
                RunHunt x = new RunHunt();
                for (int r = 0; r < 5; r++) {
                    x.riddle(9 * (r % 2), 0, 0);
                    for (int b = 0; b < 5 && r == 0; b++) {
                        x.band(clever, quick, b % 2);
                    }
                    for (int b = 0; b < 5; b++) {
                        for (int t = 0; t <= 5; t += 5) {
                            String c = "c=" + clever + "&h=" + 9 * (r % 2) + "&t=" + t + "&r=" + r + "&b=" + b + "&n=" + (r + 1) + "&f=" + t / 5 + "&q=" + quick;
                            x.weather(1, t / 5);
                            law(x, "s3(" + c + ")");
                            due(c, x.chance(b, r, t, 0), 3);
                            due("another t", x.chance(b, r, 5 - t, 0), 0);
                        }
                    }
                }
            }
        }
        RunHunt x = hill("st+1(1=1)", 1);
        x.band(0, 1, 0);
        for (int t = -1; t <= 6; t++) {
            due("t from 0 to 5", x.chance(0, 0, t, 0), t < 0 || t > 5 ? -1 : t + 1);
        }
    }

    // ---- promises 8 and 9

    static void walkFromTo() {
        promise = "8 walk";
        for (int quick = 1; quick <= 9; quick++) {
            for (int far = 0; far <= 60; far++) {
                RunHunt x = new RunHunt();
                x.band(0, quick, 0);
                int a = Math.min(30, far), b = far - a;
                x.riddle(0, a, b);
                x.riddle(0, 0, 0);
                x.riddle(0, b, a);
                x.riddle(0, b, a);
                due("far " + far + " by " + quick, x.walk(0, 0), stepsOf(far, quick));
                due("and back", x.walk(0, 1), stepsOf(far, quick));
                due("turned round", x.walk(0, 2), stepsOf(far, quick));
                due("from a PLACE to itself", x.walk(0, 3), 1);
                due("behind the last one", x.walk(0, 4), -1);
            }
        }
        RunHunt x = new RunHunt();
        x.band(0, 9, 0);
        x.riddle(0, 30, 0);
        x.riddle(0, 0, 30);
        due("x one way, y the other way: 60 by 9", x.walk(0, 1), 6);
    }

    /** Solved with t (TICK t and 1), then a WALK: THE BOX at t + 1 + WALK, if that is TICK 10 or before. */
    static void waysToTheLastTick() {
        promise = "9 ways, TICKS 1 to 10";
        for (int t = 0; t <= 5; t++) {
            for (int walk = 1; walk <= 6; walk++) {
                RunHunt x = two("s8(t=" + t + ")", walk, 1, 0);
                for (int tick = 1; tick <= 10; tick++) {
                    int box = t + 1 + walk;
                    due("by " + tick + ", at " + box, x.ways(0, tick, 5), tick >= box ? power(8, tick) : 0);
                    due("just at " + tick + ", at " + box, x.ways(0, tick, 6), tick == box ? power(8, tick) : 0);
                    due("at RIDDLE 0 ahead of TICK 1", x.ways(0, tick, 0), power(8, tick));
                }
                due("TICK 0", x.ways(0, 0, 5), -1);
                due("TICK 11", x.ways(0, 11, 5), -1);
            }
        }
    }

    static void waysToEachRiddle() {
        promise = "9 ways, RIDDLES 0 to 4";
        for (int riddles = 1; riddles <= 5; riddles++) {
            RunHunt x = new RunHunt();
            law(x, "s8(1=1)");
            x.band(0, 1, 0);
            for (int r = 0; r < riddles; r++) {
                x.riddle(0, r + 1, 0);
            }
            for (int tick = 1; tick <= 10; tick++) {
                for (int r = 0; r <= 4; r++) {
                    due("RIDDLE " + r + " of " + riddles + " by " + tick, x.ways(0, tick, r), r >= riddles ? -1 : tick >= 2 * r ? power(8, tick) : 0);
                }
                due("THE BOX behind " + riddles + " by " + tick, x.ways(0, tick, 5), tick >= 2 * riddles ? power(8, tick) : 0);
                due("THE BOX behind " + riddles + " at " + tick, x.ways(0, tick, 6), tick == 2 * riddles ? power(8, tick) : 0);
            }
        }
    }

    /** t stays at 5: with 1 of 8 from then on. And "t > 5" never holds. */
    static void thoughtAtMostFive() {
        promise = "9 ways, t at most 5";
        RunHunt x = two("s1(t=5)", 1, 1, 0);
        for (int tick = 7; tick <= 10; tick++) {
            due("at " + tick, x.ways(0, tick, 6), power(8, 6) * power(7, tick - 7));
        }
        due("at 6", x.ways(0, 6, 6), 0);
        law(x, "s8(t>5)");
        due("t is never 6", x.ways(0, 10, 5), 0);
        due("SHARE", x.share(0, 1, 10), 0);
        due("AFTER", x.after(0, 1, 10, 0), 0);
        law(x, "s1(t=5&b=0)");
        for (int tick = 7; tick <= 10; tick++) {
            due("SHARE by " + tick, x.share(0, 1, tick), power(64, 6) * (power(64, tick - 6) - power(56, tick - 6)));
        }
    }

    /** s and e 4 each: it thinks in TICK 1 and, being wrong, again in TICK 2 + DELAY; all 8 for the TICKS it is ASTRAY. */
    static void astrayForDelay() {
        promise = "9 ways, ASTRAY";
        for (int delay = 1; delay <= 4; delay++) {
            RunHunt x = two("s4(t=0);e4(t=0);s8(t>0)", 1, 1, 0);
            x.weather(delay, 0);
            for (int tick = 1; tick <= 10; tick++) {
                long just = 0;
                long still = 1;
                for (int begin = 1; begin <= tick; begin += 1 + delay) {
                    just += begin + 1 == tick ? still * 4 * 8 : 0;
                    still = still * 4 * power(8, delay);
                }
                due("DELAY " + delay + ", at " + tick, x.ways(0, tick, 6), just);
            }
            law(x, "s8(t=1);e8(t>1)");
            due("with t 0 then, and 1 more", x.ways(0, 3, 6), 512);
            law(x, "e8(t=0)");
            due("always wrong", x.ways(0, 10, 5), 0);
            law(x, "e8(t=2);s8(t=3)");
            due("t is 0 behind it: never 3", x.ways(0, 10, 5), 0);
            law(x, "e4(t=2);s8(t=3)");
            due("t goes on if it was not wrong", x.ways(0, 5, 6), power(8, 4) * 4);
        }
    }

    // ---- promises 10 to 13

    static String byTicks(int t0, int t1) {
        return "s8(b=0&t=" + t0 + ");s8(b=1&t=" + t1 + ")";
    }

    static void aheadAtTheLastTick() {
        promise = "10 ahead";
        for (int walk = 1; walk <= 6; walk++) {
            for (int t0 = 0; t0 <= 5; t0++) {
                for (int t1 = 0; t1 <= 5; t1++) {
                    RunHunt x = two(byTicks(t0, t1), walk, 7 - walk, 0);
                    int boxX = t0 + 1 + walk, boxY = t1 + 1 + 7 - walk;
                    boolean ahead = boxX <= 10 && boxX < boxY;
                    boolean like = boxX <= 10 && boxX == boxY;
                    due(boxX + " ahead of " + boxY, x.ahead(0, 1, 0), ahead ? 1 : 0);
                    due("below", x.ahead(0, 1, 1), 1);
                    due(boxX + " like " + boxY, x.ahead(0, 1, 2), like ? 1 : 0);
                    due("below", x.ahead(0, 1, 3), 1);
                }
            }
        }
        RunHunt x = two("s1(b=0);s8(1=1)", 1, 1, 0);
        due("LIKE 1 of 8, without a common divisor", 100 * x.ahead(0, 1, 2) + x.ahead(0, 1, 3), 108);
        due("AHEAD of it never", 100 * x.ahead(0, 1, 0) + x.ahead(0, 1, 1), 1);
        due("it is AHEAD 7 of 8", 100 * x.ahead(1, 0, 0) + x.ahead(1, 0, 1), 708);
        x = two("s4(b=0&t=0);s0(1=1)", 1, 1, 0);
        due("y has it not by TICK 10: half", 100 * x.ahead(0, 1, 0) + x.ahead(0, 1, 1), 102);
        due("x has it not: behind nobody", 100 * x.ahead(1, 0, 0) + x.ahead(1, 0, 1), 1);
        x = two("s1(1=1)", 1, 1, 0);
        long never = 1;
        for (int k = 0; k < 9; k++) {
            never *= 7;
        }
        // of 8 to the 18th (solving in TICKS 1 to 9): twice AHEAD, LIKE, and neither
        long below = 1L << 54;
        long likes = x.ahead(0, 1, 2) * (below / x.ahead(0, 1, 3));
        long aheads = x.ahead(0, 1, 0) * (below / x.ahead(0, 1, 1));
        due("all there is", 2 * aheads + likes + never * never, below);
        due("odd above or odd below", (x.ahead(0, 1, 0) & 1) + (x.ahead(0, 1, 1) & 1) > 0, true);
    }

    static void shareOfTwo() {
        promise = "11 share";
        for (int s0 = 0; s0 <= 8; s0 += 2) {
            for (int e0 = 0; e0 <= 8 - s0; e0 += 2) {
                for (int s1 = 0; s1 <= 8; s1 += 4) {
                    for (int e1 = 0; e1 <= 8 - s1; e1 += 4) {
                        RunHunt x = two("s" + s0 + "(b=0);s" + s1 + "(1=1);e" + e0 + "(b=0);e" + e1 + "(1=1)", 1, 2, 0);
                        x.weather(1, 0);
                        int good = 0, bad = 0;
                        for (int i = 0; i < 64; i++) {
                            int a = i / 8, b = i % 8;
                            boolean solved = a < s0 || b < s1;
                            good += solved ? 1 : 0;
                            bad += !solved && (a < s0 + e0 || b < s1 + e1) ? 1 : 0;
                        }
                        long neither = 64 - good - bad;
                        due("by 2", x.share(0, 1, 2), 0);
                        due("by 3", x.share(0, 1, 3), good * 64L * 64);
                        due("by 4", x.share(0, 1, 4), good * power(64, 3) + neither * good * 64 * 64);
                        due("by 5", x.share(0, 1, 5), (good * 64L * 64 + neither * good * 64 + neither * neither * good + bad * 64L * good) * 64 * 64);
                        due("turned round", x.share(1, 0, 5), x.share(0, 1, 5));
                    }
                }
            }
        }
        for (int t = 0; t <= 5; t++) {
            for (int walk = 1; walk <= 6; walk++) {
                RunHunt x = two("s8(b=1&t=" + t + ")", walk, 2, 0);
                int box = t + 1 + Math.max(2, walk);
                for (int tick = 1; tick <= 10; tick++) {
                    due("at " + box + ", by " + tick, x.share(0, 1, tick), tick >= box ? power(64, tick) : 0);
                }
            }
        }
        RunHunt x = hill("s8(1=1)", 1);
        x.riddle(0, 24, 9);
        x.band(0, 8, 0);
        x.band(0, 9, 0);
        // WALKS 3 and 3, then (9 far) 2 and 1
        due("two RIDDLES by 6", x.share(0, 1, 6), 0);
        due("two RIDDLES by 7", x.share(0, 1, 7), power(64, 7));
        due("all of 64 in ten TICKS", x.share(0, 1, 10), 1L << 60);
    }

    /** y solves in TICK t and 1; x begins in the next one. */
    static void afterAtTheLastTick() {
        promise = "12 after";
        for (int t = 0; t <= 5; t++) {
            for (int walkX = 1; walkX <= 6; walkX++) {
                for (int walkY = 1; walkY <= 6; walkY++) {
                    RunHunt x = two("s8(b=1&t=" + t + ")", walkX, walkY, 0);
                    int boxX = t + 1 + walkX, boxY = t + 1 + walkY;
                    for (int tick = 1; tick <= 10; tick++) {
                        due("x at " + boxX + " by " + tick, x.after(0, 1, tick, 0), boxX <= tick ? power(8, tick) : 0);
                        due("ahead of y at " + boxY, x.after(0, 1, tick, 1), boxX <= tick && boxX < boxY ? power(8, tick) : 0);
                    }
                }
            }
        }
    }

    /** Two RIDDLES, both solved in the TICK y comes or later: x comes to RIDDLE 1, and goes when both are true. */
    static void afterRiddles() {
        promise = "12 after, two RIDDLES";
        for (int t = 0; t <= 3; t++) {
            for (int walkX = 1; walkX <= 4; walkX++) {
                for (int walkY = 1; walkY <= 4; walkY++) {
                    RunHunt x = new RunHunt();
                    law(x, "s8(r=0&b=1);s8(r=1&b=1&t=" + t + ")");
                    int far = farFor(walkX, walkY);
                    x.riddle(0, far, 0);
                    x.riddle(0, 0, 0);
                    x.band(0, quick(far, walkX), 0);
                    x.band(0, quick(far, walkY), 0);
                    int solved = 1 + walkY + 1 + t;
                    int boxX = Math.max(1 + walkX, solved) + walkX, boxY = solved + walkY;
                    for (int tick = 1; tick <= 10; tick++) {
                        due("x at " + boxX + " by " + tick, x.after(0, 1, tick, 0), boxX <= tick ? power(8, tick) : 0);
                        due("ahead of y at " + boxY, x.after(0, 1, tick, 1), boxX <= tick && boxX < boxY ? power(8, tick) : 0);
                    }
                }
            }
        }
    }

    /** Three RIDDLES, t to solve each; where y waits for nobody, and x begins when it is there and the RIDDLE is solved. */
    static void afterThree() {
        promise = "12 after, three RIDDLES";
        for (int quickX = 1; quickX <= 3; quickX++) {
            for (int quickY = 1; quickY <= 3; quickY++) {
                for (int mixture = 0; mixture < 8; mixture++) {
                    RunHunt x = new RunHunt();
                    int[] t = {mixture & 1, mixture >> 1 & 1, mixture >> 2};
                    law(x, "s8(r=0&t=" + t[0] + "&b=1);s8(r=1&t=" + t[1] + "&b=1);s8(r=2&t=" + t[2] + "&b=1)");
                    int[] far = {1, 3, 2};
                    x.riddle(0, 1, 0);
                    x.riddle(0, 1, 3);
                    x.riddle(0, 3, 3);
                    x.band(0, quickX, 0);
                    x.band(0, quickY, 0);
                    int atX = 0, atY = 0;
                    for (int r = 0; r < 3; r++) {
                        int solved = atY + t[r] + 1;
                        atX = Math.max(atX, solved) + stepsOf(far[r], quickX);
                        atY = solved + stepsOf(far[r], quickY);
                    }
                    for (int tick = 1; tick <= 10; tick++) {
                        due("x at " + atX + " by " + tick, x.after(0, 1, tick, 0), atX <= tick ? power(8, tick) : 0);
                        due("ahead of y at " + atY, x.after(0, 1, tick, 1), atX <= tick && atX < atY ? power(8, tick) : 0);
                    }
                }
            }
        }
    }

    static void edgeFromTo() {
        promise = "13 edge";
        for (int clever = 0; clever <= 9; clever++) {
            RunHunt x = two("s8(c=" + clever + "&b=0);s4(b=1)", 1, 1, 0);
            due("only CLEVER " + clever, x.edge(0, 1), clever);
            x = two("s5(c>" + (clever == 0 ? "f-1" : "" + (clever - 1)) + "&b=0);s4(b=1)", 1, 1, 0);
            due("CLEVER " + clever + " or more", x.edge(0, 1), clever);
            x = two("s4(b=0&c<" + clever + ");s3(b=0);s4(b=1)", 1, 1, 0);
            due("like WAYS are not more", x.edge(0, 1), 10);
        }
        RunHunt x = two("s8(1=1)", 1, 1, 0);
        due("y solves for sure", x.edge(0, 1), 10);
        x = two("s0(1=1)", 1, 1, 0);
        due("none of both comes there", x.edge(0, 1), 10);
        x = two("s1(b=0)", 1, 1, 0);
        due("y never solves: 0 is enough", x.edge(0, 1), 0);
        // by TICK 10: ALONE it comes at 10, AFTER y too late
        x = two("s8(b=0&c=3&t=5);s1(b=1&t=5)", 4, 1, 0);
        due("THE BOX at TICK 10 counts", x.edge(0, 1), 3);
        x = two("s8(b=0&c=3&t=5);s1(b=1&t=5)", 5, 1, 0);
        due("at TICK 11 it does not", x.edge(0, 1), 10);
    }

    // ---- promise 14

    static void bestStates() {
        promise = "14 best, states";
        for (int riddles = 1; riddles <= 5; riddles++) {
            for (int from = -20; from < 560; from += 145) {
                RunHunt x = hill("s4(1=1)", riddles);
                x.band(1, 4, 0);
                x.band(1, 4, 1);
                for (int state = from; state < from + 145; state++) {
                    int does = Math.floorMod(state, 100);
                    boolean there = state >= 0 && state / 100 < riddles;
                    boolean fits = there && (does <= 5 || does >= 11 && does <= 16 || does >= 21 && does <= 24);
                    boolean knows = there && (does == 10 || does >= 31 && does <= 34);
                    due("x " + state + " of " + riddles, x.best(0, 1, 0, state, 0, 0, 0), fits || knows ? 1 : -1);
                    due("y " + state + " of " + riddles, x.best(0, 1, 0, 0, state, 2, 0), fits ? 1 : -1);
                    due("what x does " + state, x.best(0, 1, 0, state, 0, 0, 1), -1);
                }
            }
        }
    }

    /** Both on foot to THE BOX: who has it in a TICK ahead, in the same one, or neither in the TICKS that are left. */
    static void bestOnFoot() {
        promise = "14 best, WORTH";
        RunHunt x = two("s8(1=1)", 1, 1, 1);
        for (int left = 0; left <= 10; left++) {
            if (left % 3 == 0) {
                x = two("s8(1=1)", 1, 1, 1);
            }
            for (int i = 1; i <= 6; i++) {
                for (int k = 1; k <= 6; k++) {
                    dueBest(x, left, 10 + i, 10 + k, i % 3, worth(i, k, left), -1);
                }
            }
        }
    }

    /** In a FOG nobody sees the other one: each goes on as fast as it can, all solve at once; so many TICKS to THE BOX. */
    static void bestInFog() {
        promise = "14 best, in a FOG";
        for (int left = 0; left <= 10; left++) {
            for (int walk = 1; walk <= 6; walk += 2) {
                RunHunt x = two("s8(1=1)", walk, 3, 1);
                x.weather(1 + left % 4, 1);
                for (int sx : new int[] {0, 1, 2, 3, 4, 5, 10, 11, 12, 13, 14, 15, 16, 21, 22, 23, 24, 31, 32, 33, 34}) {
                    for (int sy : new int[] {0, 5, 11, 12, 13, 14, 15, 16, 21, 22, 23, 24}) {
                        int boxX = sx <= 5 ? 1 + walk : sx == 10 ? walk : sx <= 16 ? sx - 10 : sx <= 24 ? sx - 20 + 1 + walk : sx - 30 + walk;
                        int boxY = sy <= 5 ? 1 + 3 : sy <= 16 ? sy - 10 : sy - 20 + 1 + 3;
                        long value = worth(boxX, boxY, left) * power(64, left);
                        due("best " + left + " " + sx + " " + sy, x.best(0, 1, left, sx, sy, sx % 3, 0), value);
                    }
                }
            }
        }
    }

    /** x never solves, y is on foot: to FOLLOW at once, in one of the next TICKS, or not. */
    static void bestFollow() {
        promise = "14 best, FOLLOW";
        for (int walk = 1; walk <= 6; walk++) {
            for (int fog = 0; fog <= 1; fog++) {
                RunHunt x = two("s0(1=1)", walk, 1, 0);
                x.weather(2, fog);
                for (int left = 1; left <= 10; left++) {
                    for (int k = 1; k <= 6; k++) {
                        int later = worth(NEVER, k, left);
                        for (int begin = 1; begin < k && begin < left && fog == 0; begin++) {
                            later = Math.max(later, worth(begin + walk, k, left));
                        }
                        int now = fog == 0 ? worth(walk, k, left) : 0;
                        dueBest(x, left, 3, 10 + k, 0, Math.max(now, later), now > later ? 3 : 0);
                    }
                }
            }
        }
        // only if y WALKS, and at the same RIDDLE
        RunHunt x = hill("s0(1=1)", 2);
        x.band(0, 9, 0);
        x.band(0, 4, 0);
        due("y at the same RIDDLE", x.best(0, 1, 3, 100, 113, 0, 1), 3);
        due("x where y was before", x.best(0, 1, 3, 0, 113, 0, 1), 0);
        due("y where x was before", x.best(0, 1, 3, 100, 13, 0, 1), 0);
        due("y ASTRAY there", x.best(0, 1, 3, 100, 123, 0, 1), 0);
        due("y thinking there", x.best(0, 1, 3, 100, 103, 0, 1), 0);
        due("the answer in one's pocket: to GO is less than to FOLLOW", x.best(0, 1, 3, 110, 113, 0, 1), 1);
        due("x ASTRAY: nothing can be done", x.best(0, 1, 3, 121, 113, 0, 1), -1);
        due("x ASTRAY, and it KNOWS", x.best(0, 1, 3, 131, 113, 0, 1), -1);
        due("x on foot", x.best(0, 1, 3, 116, 113, 0, 1), -1);
    }

    /** What x began in the TICK before: y does so, too, if it FOLLOWS, THINKS, and there is no FOG. */
    static void bestBegan() {
        promise = "14 best, began";
        for (int follows = 0; follows <= 1; follows++) {
            for (int fog = 0; fog <= 1; fog++) {
                for (int delay = 1; delay <= 4; delay++) {
                    for (int walk = 1; walk <= 5; walk += 2) {
                        RunHunt x = two("s8(1=1)", 1, walk, follows);
                        x.weather(delay, fog);
                        for (int left = 1; left <= 10; left += 3) {
                            for (int began = 0; began <= 2; began++) {
                                for (int i = 1; i <= 6; i += 1) {
                                    boolean sees = follows == 1 && fog == 0;
                                    int thinks = !sees || began == 0 ? 1 + walk : began == 1 ? walk : delay + 1 + walk;
                                    String call = "best " + left + " " + i + " began " + began + ", FOLLOWS " + follows + ", FOG " + fog + ", DELAY " + delay;
                                    due(call + ", y with t 5", x.best(0, 1, left, 10 + i, 5, began, 0), worth(i, thinks, left) * power(64, left));
                                    due(call + ", y ASTRAY", x.best(0, 1, left, 10 + i, 22, began, 0), worth(i, 2 + 1 + walk, left) * power(64, left));
                                    due(call + ", y on foot", x.best(0, 1, left, 10 + i, 12, began, 0), worth(i, 2, left) * power(64, left));
                                }
                            }
                        }
                    }
                }
            }
        }
    }

    /**
     * x KNOWS, y never solves but FOLLOWS: if x goes, y goes in the next TICK. So x is ahead if its WALK is no longer than y's,
     * in the same TICK if it is one longer, behind else; or it never goes, and neither has THE BOX.
     */
    static void bestSeen() {
        promise = "14 best, y sees what x did in the TICK before";
        for (int walkX = 1; walkX <= 6; walkX++) {
            for (int walkY = 1; walkY <= 6; walkY++) {
                RunHunt x = two("s0(1=1)", walkX, walkY, 1);
                for (int left = 1; left <= 10; left++) {
                    int go = worth(walkX, 1 + walkY, left);
                    int most = Math.max(1, go);
                    dueBest(x, left, 10, left % 6, 0, most, go == most ? 1 : 2);
                }
                x.weather(3, 1);
                for (int left = 1; left <= 10; left++) {
                    dueBest(x, left, 10, left % 6, 0, worth(walkX, NEVER, left), 1);
                }
            }
        }
    }

    /** x goes while y is ASTRAY, so many TICKS left: only one that THINKS in the very next TICK, and was there, follows. */
    static void bestAstrayThen() {
        promise = "14 best, y was there then and is now";
        for (int astray = 1; astray <= 4; astray++) {
            RunHunt x = two("s0(1=1)", 3, 1, 1);
            // to go is to lose by one TICK if it is seen; so x waits, or goes unseen
            dueBest(x, 4, 10, 20 + astray, 0, astray == 1 ? 1 : 2, astray == 1 ? 2 : 1);
            dueBest(x, 3, 10, 20 + astray, 0, astray == 1 ? 1 : 2, astray == 1 ? 2 : 1);
            dueBest(x, 2, 10, 20 + astray, 0, 1, astray == 1 ? 2 : 1);
        }
        // y comes to the RIDDLE in the TICK in which x goes from there: it was at another one then
        RunHunt x = new RunHunt();
        law(x, "s0(1=1)");
        x.riddle(0, 6, 0);
        x.riddle(0, 0, 0);
        x.band(0, 2, 0);
        x.band(0, 6, 1);
        due("y comes as x goes", x.best(0, 1, 4, 110, 11, 0, 0), 2 * power(64, 4));
        due("and x goes", x.best(0, 1, 4, 110, 11, 0, 1), 1);
        due("y is there", x.best(0, 1, 4, 110, 100, 0, 0), power(64, 4));
        due("and x waits", x.best(0, 1, 4, 110, 100, 0, 1), 2);
        due("y is at another RIDDLE", x.best(0, 1, 4, 110, 0, 0, 0), 2 * power(64, 4));
    }

    /** Chances of x thinking with t, and of being wrong: one TICK of DELAY for each that is left. */
    static void bestThought() {
        promise = "14 best, THINK";
        for (int s = 0; s <= 8; s++) {
            for (int e = 0; e <= 8 - s; e++) {
                RunHunt x = two("s" + s + "(b=0);e" + e + "(b=0)", 1, 1, 0);
                x.weather(1, 0);
                // y never has it: 1, and 1 more for each way in which x has
                dueBest(x, 1, 0, 0, 0, 1, 0);
                due("two left", x.best(0, 1, 2, 0, 0, 0, 0), 64 * 64 + s * 8 * 64);
                due("three left", x.best(0, 1, 3, 0, 0, 0, 0), power(64, 3) + s * 8 * power(64, 2) + (8 - s - e) * s * power(8, 2) * 64);
                due("four left", x.best(0, 1, 4, 0, 0, 0, 0), power(64, 4) + s * power(8, 7) + (8 - s - e) * s * power(8, 6)
                    + ((8 - s - e) * (8 - s - e) + 8 * e) * s * power(8, 5));
            }
        }
        for (int t = 0; t <= 5; t++) {
            RunHunt x = two("s8(t=5&b=0)", 1, 1, 0);
            // solved in TICK 6 - t from now, THE BOX one TICK later
            for (int left = 1; left <= 10; left++) {
                due("t " + t + ", " + left + " left", x.best(0, 1, left, t, 0, 0, 0), worth(7 - t, NEVER, left) * power(64, left));
            }
            x = two("s8(t=5&b=1)", 1, 1, 0);
            // y solves in TICK 6 - t, x follows in the next one: the same TICK for both
            for (int left = 1; left <= 10; left++) {
                due("y's t " + t + ", " + left + " left", x.best(0, 1, left, 0, t, 0, 0), power(64, left));
            }
            x = two("s8(t=5)", 1, 1, 0);
            // both: the one with more t is ahead, but y on foot is followed: in the same TICK
            due("x " + t + ", y 3", x.best(0, 1, 10, t, 3, 0, 0), (t > 3 ? 2 : 1) * power(64, 10));
        }
    }

    /** Of 8 for each TICK: at TICK i THE BOX, by s and e at each t; 0: not by then. One RIDDLE, a WALK of 1. */
    static void waysOf(long[] box, int tick, int t, long ways, int[] s, int[] e, int delay) {
        if (tick >= box.length || ways == 0) {
            return;
        }
        if (tick + 1 < box.length) {
            box[tick + 1] += ways * s[t] * 8;
        }
        long rest = ways;
        for (int k = 0; k < delay; k++) {
            rest *= 8;
        }
        waysOf(box, tick + 1 + delay, 0, rest * e[t], s, e, delay);
        waysOf(box, tick + 1, Math.min(5, t + 1), ways * (8 - s[t] - e[t]), s, e, delay);
    }

    static String lawOf(int[] s, int[] e, int band) {
        StringBuilder text = new StringBuilder();
        for (int t = 0; t < s.length; t++) {
            text.append(t == 0 ? "" : ";").append('s').append(s[t]).append("(t=").append(t).append("&b=").append(band).append(')');
            text.append(";e").append(e[t]).append("(t=").append(t).append("&b=").append(band).append(')');
        }
        return text.toString();
    }

    /** y thinks, is wrong, is ASTRAY, solves; x is on foot: by all the ways that y has. And the same by WAYS of y ALONE. */
    static void bestChancesOfY() {
        promise = "14 best, y as ALONE";
        int[][] good = {{1, 1, 1, 1, 1, 1}, {0, 1, 2, 3, 4, 5}, {4, 0, 7, 0, 1, 1}, {0, 0, 1, 0, 2, 1}, {3, 5, 1, 1, 1, 7}, {7, 1, 1, 1, 1, 1}, {0, 0, 0, 0, 0, 8}};
        int[][] bad = {{1, 1, 1, 1, 1, 1}, {4, 3, 2, 1, 0, 0}, {4, 8, 1, 8, 3, 2}, {1, 1, 0, 6, 0, 1}, {2, 3, 0, 1, 6, 1}, {1, 7, 7, 6, 1, 1}, {1, 0, 1, 0, 1, 0}};
        for (int k = 0; k < good.length; k++) {
            for (int delay = 1; delay <= 4; delay++) {
                RunHunt x = two(lawOf(good[k], bad[k], 1), 1, 1, 0);
                x.weather(delay, 1);
                for (int t = 0; t <= 5; t++) {
                    long[] box = new long[11];
                    waysOf(box, 1, t, 1, good[k], bad[k], delay);
                    for (int left = 1; left <= 10; left += 3) {
                        for (int i = 1; i <= 6; i += 2) {
                            long sum = 0, has = 0;
                            for (int at = 1; at <= left; at++) {
                                sum += box[at] * power(8, left - at) * worth(i, at, left);
                                has += box[at] * power(8, left - at);
                            }
                            sum += (power(8, left) - has) * worth(i, NEVER, left);
                            due("best " + left + " " + i + " y's t " + t, x.best(0, 1, left, 10 + i, t, 0, 0), sum * power(8, left));
                        }
                    }
                    for (int tick = 1; tick <= 10 && t == 0; tick++) {
                        due("just at " + tick, x.ways(1, tick, 6), box[tick]);
                    }
                }
            }
        }
    }

    /** All RIDDLES: in a FOG, nothing in common, all solve at once; at each RIDDLE there are two TICKS, a WALK of 1. */
    static void bestRiddles() {
        promise = "14 best, RIDDLES 0 to 4";
        for (int riddles = 2; riddles <= 5; riddles++) {
            RunHunt x = null;
            for (int left = 0; left <= 10; left++) {
                x = new RunHunt();
                law(x, "s8(1=1)");
                for (int r = 0; r < riddles; r++) {
                    x.riddle(0, 0, 0);
                }
                x.band(0, 9, 0);
                x.band(0, 9, 1);
                x.weather(2, 1);
                for (int rx = 0; rx < riddles; rx++) {
                    for (int ry = 0; ry < riddles; ry++) {
                        for (int does : new int[] {0, 10, 12, 21, 32}) {
                            int first = does == 0 ? 2 : does == 10 ? 1 : does == 12 ? 2 : does == 21 ? 3 : 3;
                            int boxX = first + 2 * (riddles - 1 - rx), boxY = 2 + 2 * (riddles - 1 - ry);
                            long value = worth(boxX, boxY, left) * power(64, left);
                            due("best " + left + ", x " + rx + "/" + does + ", y " + ry, x.best(0, 1, left, 100 * rx + does, 100 * ry + 3, 0, 0), value);
                        }
                        int boxX = 1 + 2 * (riddles - 1 - rx), boxY = 1 + 2 * (riddles - 1 - ry);
                        due("both on foot " + rx + " " + ry, x.best(0, 1, left, 100 * rx + 11, 100 * ry + 11, 0, 0), worth(boxX, boxY, left) * power(64, left));
                    }
                }
            }
        }
    }

    /** What BEST answers does not hang on what was asked before: by other BANDS, another LAW, weather, RIDDLE. */
    static void bestAsked() {
        promise = "14 best, asked before";
        String[] laws = {"s1+b(1=1);e1(t=0)", "s8-b(1=1)", "s2(t>b);e3(b=1)"};
        int[][] pairs = {{0, 1}, {0, 2}, {1, 2}, {1, 0}, {2, 0}, {2, 1}};
        long[] alone = new long[laws.length * pairs.length * 2];
        for (int round = 0; round < 3; round++) {
            RunHunt kept = askedHill();
            for (int i = 0; i < alone.length; i++) {
                int k = round == 0 ? i : round == 1 ? alone.length - 1 - i : i * 5 % alone.length;
                RunHunt x = round == 0 ? askedHill() : kept;
                law(x, laws[k % laws.length]);
                x.weather(1 + k % 2, 0);
                int[] pair = pairs[k / laws.length % pairs.length];
                if (round == 1) {
                    x.without(pair[0], pair[1], 1 + k % 7);
                }
                long value = x.best(pair[0], pair[1], 7, 0, 0, 0, 0);
                alone[k] = round == 0 ? value : alone[k];
                due("best of " + pair[0] + " and " + pair[1], value, alone[k]);
            }
        }
        RunHunt x = askedHill();
        law(x, laws[1]);
        for (int[] pair : pairs) {
            RunHunt fresh = askedHill();
            law(fresh, laws[1]);
            due("one behind the other " + pair[0] + " and " + pair[1], x.best(pair[0], pair[1], 9, 0, 0, 0, 0), fresh.best(pair[0], pair[1], 9, 0, 0, 0, 0));
        }
        due("another BAND ahead", x.best(0, 2, 9, 0, 0, 0, 0) == x.best(1, 2, 9, 0, 0, 0, 0), false);
        due("another BAND behind", x.best(2, 0, 9, 0, 0, 0, 0) == x.best(2, 1, 9, 0, 0, 0, 0), false);
    }

    static RunHunt askedHill() {
        RunHunt x = new RunHunt();
        x.riddle(0, 3, 0);
        x.riddle(0, 0, 0);
        x.band(0, 1, 0);
        x.band(0, 2, 1);
        x.band(0, 3, 1);
        return x;
    }

    /** x thought once in vain and solves with t 0 alone: it must LEAD (nobody follows) to begin anew, for DELAY TICKS. */
    static void bestLead() {
        promise = "14 best, LEAD";
        for (int delay = 1; delay <= 4; delay++) {
            for (int walk = 1; walk <= 6; walk++) {
                RunHunt x = two("s8(b=0&t=0)", walk, 1, 0);
                x.weather(delay, 0);
                for (int left = 1; left <= 10; left++) {
                    int box = delay + 1 + walk;
                    dueBest(x, left, 1 + left % 5, 0, 0, worth(box, NEVER, left), box == left ? 4 : 0);
                    dueBest(x, left, 0, 0, 0, worth(1 + walk, NEVER, left), 0);
                }
            }
        }
        // in a FOG, too
        RunHunt x = two("s8(b=0&t=0)", 1, 1, 0);
        x.weather(1, 1);
        dueBest(x, 3, 1, 0, 0, 2, 4);
        // y would solve with t 1 and FOLLOWS: led astray now it has nothing in four TICKS; it is ASTRAY for DELAY, then t 0
        for (int delay = 1; delay <= 4; delay++) {
            x = two("s8(b=1&t=1)", 6, 1, 1);
            x.weather(delay, 0);
            dueBest(x, 2 + delay + 1, 0, 0, 0, 1, 4);
            dueBest(x, 10, 10, 0, 0, 1, 4);
            due("too late: y solves in this TICK", x.best(0, 1, 4, 0, 1, 0, 0), 0);
            x.weather(delay, 1);
            due("in a FOG it is not seen", x.best(0, 1, 4, 0, 0, 0, 0), 0);
        }
        // x at another RIDDLE than y: neither is of matter to y
        x = new RunHunt();
        law(x, "s0(1=1)");
        x.riddle(0, 0, 0);
        x.riddle(0, 0, 0);
        x.band(0, 9, 0);
        x.band(0, 9, 1);
        dueBest(x, 5, 10, 100, 0, 1, 1);
        law(x, "s8(b=0&t=0)");
        x.weather(1, 0);
        // x must LEAD to begin anew: then it solves in TICK 2, goes in 3, solves in 4 and goes in 5; y sees only that, too late
        dueBest(x, 5, 1, 100, 0, 2, 4);
        dueBest(x, 4, 1, 100, 0, 1, 0);
        law(x, "s8(b=1&t=1)");
        due("LEAD at another RIDDLE", x.best(0, 1, 3, 0, 100, 0, 0), 0);
        due("LEAD at another RIDDLE", x.best(0, 1, 3, 100, 0, 0, 0) > 0, true);
    }

    /** To be wrong is not to LEAD, and not to GO: y does not follow that. */
    static void bestWrongIsNotLed() {
        promise = "14 best, by leading alone";
        RunHunt x = two("s4(b=0);e4(b=0)", 1, 1, 1);
        x.weather(2, 0);
        // two left: solved, gone and ahead in half; wrong in the other half, and neither has it
        due("two left", x.best(0, 1, 2, 0, 0, 0, 0), 3 * power(64, 2) / 2);
        due("THINK", x.best(0, 1, 2, 0, 0, 0, 1), 0);
        x = two("s5(b=0);e3(b=0);s8(b=1&t=1)", 1, 1, 1);
        x.weather(2, 0);
        // three left: y solves in the second TICK and is there in the third one; x, if wrong, stays ASTRAY till then
        due("three left", x.best(0, 1, 3, 0, 0, 0, 0), 10 * power(64, 3) / 8);
        due("THINK", x.best(0, 1, 3, 0, 0, 0, 1), 0);
        // y THINKS ahead of this TICK, though it goes in it: it can't be followed in it
        x = two("s0(1=1)", 1, 1, 1);
        dueBest(x, 1, 0, 0, 1, 0, 0);
        dueBest(x, 1, 0, 11, 1, 1, 3);
        dueBest(x, 1, 10, 5, 1, 1, 1);
    }

    static void bestNothingLeft() {
        promise = "14 best, what x does";
        RunHunt x = two("s4(1=1);e2(1=1)", 2, 2, 1);
        for (int state : new int[] {0, 5, 10, 11, 16, 21, 24, 31, 34}) {
            due("none left, " + state, x.best(0, 1, 0, state, 0, 0, 1), -1);
            due("none left, " + state, x.best(0, 1, 0, state, 0, 0, 0), 1);
            due("one left, " + state, x.best(0, 1, 1, state, 0, 0, 1), state <= 5 ? 0 : state == 10 ? 1 : -1);
        }
        x = two("s0(1=1)", 2, 2, 1);
        due("all like: the least number, THINK", x.best(0, 1, 10, 0, 0, 0, 1), 0);
        due("all like in the last TICK: GO", x.best(0, 1, 1, 10, 0, 0, 1), 1);
        due("all 0: the least number, THINK", x.best(0, 1, 1, 0, 11, 0, 1), 0);
        due("all 0: the least number, GO", x.best(0, 1, 1, 10, 11, 0, 1), 1);
    }

    // ---- promises 15 and 16

    static void withoutEach() {
        promise = "15 without";
        long all = power(64, 10);
        // only to FOLLOW is of worth: y solves at once, WALKS for 2, x for 1
        RunHunt x = two("s8(b=1)", 1, 2, 0);
        for (int never = 1; never <= 7; never++) {
            due("without " + never, x.without(0, 1, never), (never & 2) == 0 ? 0 : -2 * all);
        }
        // neither to wait nor to lead: x must go when it KNOWS, and y is there one TICK sooner
        x = two("s8(b=0)", 4, 1, 1);
        for (int never = 1; never <= 7; never++) {
            long loss = x.without(0, 1, never);
            due("without " + never, (never & 5) == 5 ? loss >= 0 : loss != 0, false);
        }
        // only to LEAD is of worth: y would solve in its third TICK for sure; led astray ever again it does not
        x = two("s8(b=1&t=2)", 6, 1, 1);
        due("LEAD", x.without(0, 1, 4) < 0, true);
        due("WAIT", x.without(0, 1, 1), 0);
        due("FOLLOW", x.without(0, 1, 2), 0);
        for (int never = 4; never <= 7; never++) {
            due("without LEADING all is lost", x.without(0, 1, never), -power(64, 10));
        }
        x.weather(2, 1);
        for (int never = 1; never <= 7; never++) {
            due("in a FOG nothing of it is of worth", x.without(0, 1, never), 0);
        }
        // x solves at once, y is wrong for sure with t 3: to wait till then is the best, to LEAD again and again comes to nothing
        for (int delay = 1; delay <= 4; delay++) {
            x = two("s8(b=0);e8(t=3&b=1)", 3, 1, 1);
            x.weather(delay, 0);
            due("BEST", x.best(0, 1, 10, 0, 0, 0, 0), 2 * all);
            for (int never = 1; never <= 7; never++) {
                long loss = (never & 5) == 5 ? 2 : (never & 1) == 1 ? 1 : 0;
                due("never WAITS: without " + never, x.without(0, 1, never), -loss * all);
            }
        }
        // from the beginning: both with t 0, ten TICKS
        x = two("s8(t=2)", 1, 1, 0);
        x.weather(2, 1);
        for (int never = 1; never <= 7; never++) {
            due("both in the same TICK", x.without(0, 1, never), 0);
        }
        x = two("s8(t=2)", 2, 1, 0);
        for (int never = 1; never <= 7; never++) {
            due("x behind", x.without(0, 1, never), 0);
        }
        x = two("s8(t=2)", 1, 2, 0);
        for (int never = 1; never <= 7; never++) {
            due("x ahead", x.without(0, 1, never), 0);
        }
        x = two("s8(b=1&t=5)", 4, 4, 0);
        due("y's BOX at TICK 10", x.best(0, 1, 10, 0, 0, 0, 0), 1L << 60);
        due("x can't have it by then, and does not lose", x.without(0, 1, 2), -all);
        x = two("s8(b=1&t=5)", 5, 5, 0);
        due("at TICK 11 neither has it", x.without(0, 1, 2), 0);
        for (int never : new int[] {-1, 0, 8, 16, Integer.MIN_VALUE, Integer.MAX_VALUE}) {
            due("without " + never, x.without(0, 1, never), 1);
        }
    }

    static void waitsOneBehindTheOther() {
        promise = "16 waits";
        for (int walkX = 1; walkX <= 6; walkX++) {
            for (int walkY = 1; walkY <= 6; walkY++) {
                RunHunt x = two("s0(1=1)", walkX, walkY, 1);
                for (int left = 1; left <= 10; left++) {
                    int ticks = 0;
                    while (ticks < left && worth(walkX, 1 + walkY, left - ticks) == 0) {
                        ticks++;
                    }
                    due("waits, WALKS " + walkX + " and " + walkY + ", " + left, x.waits(0, 1, 0, left, left % 6), ticks);
                }
                x.weather(1, 1);
                due("in a FOG", x.waits(0, 1, 0, 10, 0), 0);
                due("0 left", x.waits(0, 1, 0, 0, 0), -1);
                due("11 left", x.waits(0, 1, 0, 11, 0), -1);
            }
        }
        // y is wrong for sure with t 3: x waits till then, and goes in that TICK, unseen
        RunHunt x = two("e8(t=3&b=1)", 3, 1, 1);
        for (int t = 0; t <= 3; t++) {
            due("waits with t " + t, x.waits(0, 1, 0, 10, t), 3 - t);
        }
        // with more it never is, but led astray it begins anew: just ten TICKS are enough for that, if x begins in the second one
        for (int t = 4; t <= 5; t++) {
            due("waits with t " + t, x.waits(0, 1, 0, 10, t), 1);
            due("t at most 5, " + t, x.waits(0, 1, 0, 8, t), 7);
        }
    }

    /**
     * y does not even FOLLOW, but x can't solve RIDDLE 1 and is wrong there for sure: it must come just when y begins to WALK from there.
     * y solves RIDDLE 0 with t 1 (TICK 2 - t), RIDDLE 1 two TICKS later; x FOLLOWS in the TICK behind that and is ahead by one.
     */
    static void waitsToComeInTime() {
        promise = "16 waits, y does not follow";
        RunHunt x = new RunHunt();
        law(x, "s8(b=1&r=0&t=1);s8(b=1&r=1);e8(b=0&r=1)");
        x.riddle(0, 1, 0);
        x.riddle(0, 1, 2);
        x.band(0, 2, 0);
        x.band(0, 1, 0);
        x.weather(4, 0);
        for (int left = 1; left <= 10; left++) {
            due("till y has solved it, " + left, x.waits(0, 1, 0, left, 0), left < 5 ? 0 : 2);
            due("with t 1", x.waits(0, 1, 0, left, 1), left < 4 ? 0 : 1);
            due("with t 2 y never solves it", x.waits(0, 1, 0, left, 2), 0);
        }
        due("x is ahead for sure", x.best(0, 1, 10, 10, 0, 0, 0), 2 * power(64, 10));
    }

    // ---- promises 17 to 19

    static void orderRows() {
        promise = "17 order";
        for (int a = 0; a <= 4; a++) {
            for (int b = 0; b <= 4; b++) {
                for (int c = 0; c <= 4; c++) {
                    RunHunt x = hill("s1(1=1)", 3);
                    int[] row = {a == 4 ? 255 : a, b == 4 ? 128 : b, c};
                    boolean each = a < 3 && b < 3 && c < 3 && a != b && b != c && a != c;
                    due("order " + Arrays.toString(row), order(x, row), each ? 0 : -2);
                    due("count(4)", x.count(4), each ? 1 : 0);
                    due("the tape is empty then", x.count(3), 0);
                }
            }
        }
        RunHunt x = hill("s1(1=1)", 1);
        due("one RIDDLE", order(x, 0), 0);
        due("one RIDDLE", order(x, 1), -2);
        x = hill("s1(1=1)", 5);
        due("five RIDDLES", order(x, 4, 3, 2, 1, 0), 0);
        due("a sixth byte is of no matter", order(x, 0, 1, 2, 3, 4, 4), 1);
        due("the fifth one matters", order(x, 0, 1, 2, 3, 3, 4), -2);
        due("an empty tape", x.order(), -1);
        x = hill("s1(1=1)", 0);
        feed(x, 0, 0);
        due("no RIDDLES", x.order(), -1);
        due("the tape stays", x.count(3), 20);
    }

    static void ordersFive() {
        promise = "17 order, 5 are there";
        RunHunt x = hill("s1(1=1)", 2);
        for (int k = 0; k < 5; k++) {
            due("one that is none", order(x, 1, 1), -2);
            due("ORDER " + k, order(x, k % 2, 1 - k % 2), k);
            due("count(4)", x.count(4), k + 1);
        }
        for (int[] row : new int[][] {{0, 1}, {1, 1}, {9, 9}}) {
            due("a sixth", order(x, row), -1);
            due("the tape stays", x.count(3), 20);
        }
        due("the fourth", x.given(2, -1), 0);
        x.riddle(0, 0, 0);
        due("ORDERS fall", order(x, 2, 1, 0), 0);
    }

    static void givenLeast() {
        promise = "18 given";
        for (int riddles = 1; riddles <= 5; riddles++) {
            RunHunt x = hill("s1(1=1)", riddles);
            int[] row = new int[riddles];
            for (int i = 0; i < riddles; i++) {
                row[i] = i;
            }
            order(x, row);
            for (int n = 2; n <= 5; n++) {
                due("one ORDER: all pairs at all places but the first", x.given(n, -1), n * (n - 1) / 2 * (riddles - 1));
                for (int b = 0; b < n; b++) {
                    due("all have it", x.given(n, b), 0);
                }
                due("no such BAND", x.given(n, n), -1);
            }
            order(x, row);
            for (int n = 2; n <= 5; n++) {
                due("of like ones the least row", x.given(n, n - 1), 0);
            }
        }
        RunHunt x = hill("s1(1=1)", 5);
        for (int k = 0; k < 5; k++) {
            order(x, k, (k + 1) % 5, (k + 2) % 5, (k + 3) % 5, (k + 4) % 5);
        }
        for (int n = 2; n <= 5; n++) {
            due("nobody meets", x.given(n, -1), 0);
            for (int b = 0; b < n; b++) {
                due("the least row", x.given(n, b), b);
            }
        }
        x = hill("s1(1=1)", 2);
        order(x, 0, 1);
        order(x, 1, 0);
        int[] meetings = {0, 1, 2, 4};
        int[][] least = {{0, 1}, {0, 0, 1}, {0, 0, 1, 1}, {0, 0, 0, 1, 1}};
        for (int n = 2; n <= 5; n++) {
            due("two ORDERS", x.given(n, -1), meetings[n - 2]);
            for (int b = 0; b < n; b++) {
                due("the least row of " + n, x.given(n, b), least[n - 2][b]);
            }
        }
        // ORDER 0 meets each of the others, these do not meet: the least row begins behind it
        x = hill("s1(1=1)", 3);
        order(x, 0, 2, 1);
        order(x, 2, 0, 1);
        order(x, 1, 2, 0);
        due("not by ORDER 0", x.given(2, -1), 0);
        due("BAND 0", x.given(2, 0), 1);
        due("BAND 1", x.given(2, 1), 2);
        x = hill("s1(1=1)", 3);
        order(x, 0, 1, 2);
        order(x, 0, 2, 1);
        due("the first place aside", x.given(2, -1), 0);
        due("more BANDS than there are", x.given(5, 4), 1);
    }

    static void cleverestFewest() {
        promise = "19 cleverest";
        for (int many = 1; many <= 5; many++) {
            // all solve at once; x is quicker by one TICK at RIDDLE many - 1 alone, y nowhere
            RunHunt x = new RunHunt();
            law(x, "s8(b=0);s8(t=1&r=" + (many - 1) + ");s8(!r=" + (many - 1) + ")");
            for (int r = 0; r < 5; r++) {
                x.riddle(0, 0, 0);
            }
            x.band(0, 1, 0);
            x.band(0, 1, 0);
            due("from how many on", x.cleverest(0, 1, 0), many);
            due("above", x.cleverest(0, 1, 1), 1);
            due("below", x.cleverest(0, 1, 2), 1);
            due("turned round: of like ones the fewest", x.cleverest(1, 0, 0), 1);
            due("above", x.cleverest(1, 0, 1), 0);
            due("below", x.cleverest(1, 0, 2), 1);
        }
        // with all five x comes at TICK 11: only four can be won
        RunHunt x = new RunHunt();
        law(x, "s8(b=0&r=4&t=1);s8(b=0&!r=4);s1(r=0);s8(r=1)");
        for (int r = 0; r < 5; r++) {
            x.riddle(0, 0, 0);
        }
        x.band(0, 1, 0);
        x.band(0, 1, 0);
        due("two are for sure", x.cleverest(0, 1, 0), 3);
        x = hill("s4(b=0);s0(1=1)", 1);
        x.band(0, 9, 0);
        x.band(0, 9, 0);
        due("one RIDDLE", x.cleverest(0, 1, 0), 1);
        due("as AHEAD, above", x.cleverest(0, 1, 1), x.ahead(0, 1, 0));
        due("as AHEAD, below", x.cleverest(0, 1, 2), x.ahead(0, 1, 1));
    }

    /** n is how many RIDDLES there are, r which one it is: by fewer RIDDLES hunted, too. */
    static void cleverestLetters() {
        promise = "19 cleverest, letters";
        // if n were 1 by one RIDDLE, x would be ahead by a half there; as it is, two are better, as for like ones
        RunHunt x = new RunHunt();
        law(x, "s4(n=2&b=0);s8(b=0);s4(1=1)");
        x.riddle(0, 0, 0);
        x.riddle(0, 0, 0);
        x.band(0, 1, 0);
        x.band(0, 1, 0);
        due("how many", x.cleverest(0, 1, 0), 2);
        due("above, as by all", x.cleverest(0, 1, 1), x.ahead(0, 1, 0));
        due("below, as by all", x.cleverest(0, 1, 2), x.ahead(0, 1, 1));
    }

    /** Who sees whom is asked in BEST and in a hunt DRAWN alone: a FOG changes nothing else. */
    static void fogElsewhere() {
        promise = "FOG";
        RunHunt x = hill("sc(t<2);s3(1=1);e2(h<1)", 2);
        x.band(4, 8, 0);
        x.band(2, 9, 1);
        x.band(5, 6, 1);
        x.went(0, 0, 2);
        x.went(1, 0, 3);
        x.went(2, 0, 4);
        x.weather(1, 0);
        long[] clear = seenOrNot(x);
        x.weather(1, 1);
        long[] fog = seenOrNot(x);
        for (int i = 0; i < clear.length; i++) {
            due("answer " + i + " in a FOG", fog[i], clear[i]);
        }
        due("AFTER is possible", clear[0] > 0, true);
        due("KNEW, seen", clear[8] < clear[9], true);
    }

    static long[] seenOrNot(RunHunt x) {
        return new long[] {x.after(0, 1, 10, 0), x.after(2, 0, 10, 1), x.edge(0, 1), x.edge(2, 1), x.ways(1, 10, 5), x.share(1, 2, 10),
            x.ahead(1, 2, 0), x.cleverest(0, 1, 0), x.knew(1, 4, 0), x.knew(1, 4, 1), x.knew(2, 4, 0), x.knew(2, 4, 1), x.walk(1, 1),
            x.chance(2, 1, 1, 0)};
    }

    // ---- promises 20 to 22

    static void wentTicks() {
        promise = "20 went";
        for (int last = 1; last <= 10; last++) {
            for (int tick = 0; tick <= 11; tick++) {
                RunHunt x = hill("s1(1=1)", 2);
                x.band(0, 9, 0);
                x.band(0, 9, 0);
                due("the first", x.went(0, 0, last), 1);
                boolean fits = tick >= last && tick <= 10;
                due("went at " + tick + " behind " + last, x.went(1, 0, tick), fits ? 2 : -1);
                due("count(5)", x.count(5), fits ? 2 : 1);
                due("it went from there", x.went(0, 0, 10), -1);
                due("from another one", x.went(0, 1, 10), fits ? 3 : 2);
                due("another BAND from there", x.went(1, 1, 10), fits ? 4 : 3);
            }
        }
        RunHunt x = hill("s1(1=1)", 1);
        x.band(0, 9, 0);
        x.went(0, 0, 10);
        x.clear();
        due("what fell is no TICK before", x.went(0, 0, 1), 1);
        due("ORDERS are not asked for", x.count(4), 0);
    }

    /** 40 can't be there: each BAND goes from each RIDDLE once, 25 at most. */
    static void goingsOfAll() {
        promise = "20 went, all of them";
        RunHunt x = hill("s8(1=1)", 5);
        for (int b = 0; b < 5; b++) {
            x.band(0, 9, 0);
        }
        for (int i = 0; i < 25; i++) {
            due("going " + i, x.went(i / 5, 4 - i % 5, 1 + i * 2 / 5), i + 1);
        }
        for (int i = 0; i < 25; i++) {
            due("again", x.went(i / 5, 4 - i % 5, 10), -1);
            due("BAND", x.logged(i, 0), i / 5);
            due("RIDDLE", x.logged(i, 1), 4 - i % 5);
            due("TICK", x.logged(i, 2), 1 + i * 2 / 5);
            due("no such number", x.logged(i, 3), -1);
            due("no such number", x.logged(i, -1), -1);
        }
        due("none more", x.logged(25, 0), -1);
        due("none ahead", x.logged(-1, 0), -1);
        due("clear", x.clear(), 25);
        due("logged behind clear", x.logged(0, 0), -1);
    }

    static void dueKnew(String call, RunHunt x, int i, int eighths, int above, int below) {
        due(call + ", above", x.knew(i, eighths, 0), above);
        due(call + ", below", x.knew(i, eighths, 1), below);
    }

    /** Another one from the same RIDDLE, in this TICK or one of the two before, told ahead of it. */
    static void knewWindow() {
        promise = "22 knew";
        for (int apart = 0; apart <= 9; apart++) {
            RunHunt x = hill("s4(1=1)", 2);
            for (int b = 0; b < 4; b++) {
                x.band(0, 9, 0);
            }
            x.went(0, 0, 1);
            x.went(1, 1, 1 + apart);
            x.went(0, 1, 1 + apart);
            x.went(2, 0, 1 + apart);
            x.went(3, 0, 1 + apart);
            dueKnew("nobody ahead", x, 0, 4, 1, 1);
            dueKnew("from another RIDDLE", x, 1, 4, 1, 1);
            dueKnew("told ahead in this TICK", x, 2, 4, 1, 2);
            dueKnew(apart + " TICKS before", x, 3, 4, 1, apart <= 2 ? 2 : 1);
            dueKnew("in this TICK, though the first one is far", x, 4, 4, 1, 2);
        }
        RunHunt x = hill("s0(b=0);s4(b=1);s8(1=1)", 1);
        for (int b = 0; b < 3; b++) {
            x.band(0, 9, 0);
        }
        for (int eighths = 0; eighths <= 9; eighths++) {
            x.clear();
            x.went(1, 0, 4);
            x.went(0, 0, 5);
            x.went(2, 0, 6);
            boolean fits = eighths >= 1 && eighths <= 8;
            int g = eighths == 8 ? 8 : eighths % 4 == 0 ? 4 : eighths % 2 == 0 ? 2 : 1;
            dueKnew("eighths " + eighths + ", s 0", x, 1, eighths, fits ? 0 : -1, fits ? 1 : -1);
            dueKnew("eighths " + eighths + ", s 8", x, 2, eighths, fits ? 8 / g : -1, fits ? (8 + eighths) / g : -1);
            dueKnew("eighths " + eighths + ", nobody ahead", x, 0, eighths, fits ? 1 : -1, fits ? 1 : -1);
        }
        for (int good = 0; good <= 8; good++) {
            x = hill("s" + good + "(1=1)", 1);
            x.band(0, 9, 0);
            x.band(0, 9, 0);
            x.went(0, 0, 5);
            x.went(1, 0, 5);
            for (int eighths = 1; eighths <= 8; eighths++) {
                int g = 1;
                for (int k = 2; k <= 8; k++) {
                    g = good % k == 0 && eighths % k == 0 ? k : g;
                }
                dueKnew("nobody had gone, s " + good, x, 0, eighths, good == 0 ? 0 : 1, 1);
                dueKnew("another one had, s " + good, x, 1, eighths, good == 0 ? 0 : good / g, good == 0 ? 1 : (good + eighths) / g);
            }
        }
    }

    /** t: its TICK less 1, less the TICK of its going ahead of that and THE WALK then; from 0 to 5. */
    static void knewThought() {
        promise = "22 knew, t";
        for (int tick = 1; tick <= 10; tick++) {
            RunHunt x = hill("st+1(1=1)", 3);
            x.band(0, 8, 0);
            x.band(0, 4, 0);
            x.went(1, 0, 1);
            x.went(0, 0, tick);
            int t = Math.min(5, tick - 1);
            boolean seen = tick <= 3;
            due("t at " + tick, x.knew(1, 1, 0), seen ? t + 1 : 1);
            due("t at " + tick, x.knew(1, 1, 1), seen ? t + 2 : 1);
            law(x, "s8(t=" + t + ")");
            due("just this t", x.knew(1, 1, 0), seen ? 8 : 1);
            law(x, "s8(!t=" + t + ")");
            due("no other t", x.knew(1, 1, 0), 0);
        }
        for (int before = 1; before <= 10; before++) {
            for (int tick = before; tick <= 10; tick++) {
                // from RIDDLE 2 first, 9 far by 9: THE WALK then is 1; from RIDDLE 0 it would be 3
                RunHunt x = hill("s8(1=1)", 2);
                x.riddle(0, 9, 0);
                x.band(0, 9, 0);
                x.band(0, 1, 0);
                x.went(1, 2, before);
                x.went(0, 2, before);
                x.went(1, 1, tick);
                x.went(0, 1, tick);
                int t = Math.max(0, Math.min(5, tick - 1 - before - 1));
                law(x, "s8(t=" + t + "&r=1&b=0)");
                due("its going ahead at " + before + ", this one at " + tick, x.knew(3, 8, 0), 1);
                due("of two", x.knew(3, 8, 1), 2);
                law(x, "s8(!t=" + t + ")");
                due("no other t", x.knew(3, 8, 0), 0);
            }
        }
        RunHunt x = hill("s8(t=2)", 3);
        x.band(0, 8, 0);
        x.band(0, 8, 0);
        x.went(0, 0, 1);
        x.went(0, 1, 2);
        x.went(1, 2, 8);
        x.went(0, 2, 8);
        // of its goings the last one ahead of it counts: 2, and WALK 3: t 2
        dueKnew("the last of its goings", x, 3, 8, 1, 2);
        x = hill("s8(t=2)", 3);
        x.band(0, 8, 0);
        x.band(0, 8, 0);
        x.went(0, 0, 2);
        x.went(1, 2, 8);
        x.went(0, 2, 8);
        dueKnew("its going is the first one in the LOG", x, 2, 8, 1, 2);
        x.clear();
        x.went(0, 0, 1);
        x.went(1, 2, 5);
        x.went(0, 1, 2 + 3);
        x.went(0, 2, 5);
        // going at 5 from RIDDLE 1, a WALK of 3: not there before 8, so t 0
        dueKnew("from 0 on", x, 3, 8, 0, 1);
        law(x, "s8(t=0)");
        dueKnew("from 0 on", x, 3, 8, 1, 2);
        law(x, "s8(t=2)");
        x.clear();
        x.went(0, 1, 2);
        x.went(1, 2, 8);
        x.went(0, 2, 8);
        x.went(0, 0, 8);
        dueKnew("a going told behind it is of no matter", x, 2, 8, 1, 2);
    }

    // ---- promises 23 to 26

    static int next(int dice) {
        return (int) ((25173L * dice + 13849) % 65536);
    }

    static void seedEnds() {
        promise = "23 seed";
        for (int seed : new int[] {0, 1, 7, 8, 32767, 32768, 65534, 65535}) {
            RunHunt x = hill("s0(1=1)", 1);
            x.band(0, 9, 0);
            due("seed(" + seed + ")", x.seed(seed), true);
            due("X", x.count(6), seed);
            due("draw", x.draw(), 0);
            int dice = seed;
            for (int k = 0; k < 10; k++) {
                dice = next(dice);
            }
            due("X behind ten TICKS of thinking", x.count(6), dice);
            due("seed(65536)", x.seed(65536), false);
            due("seed(-1)", x.seed(-1), false);
            due("X stays", x.count(6), dice);
        }
        RunHunt x = hill("s0(1=1)", 1);
        x.band(0, 9, 0);
        x.draw();
        int first = x.count(6);
        x = hill("s0(1=1)", 1);
        x.band(0, 9, 0);
        x.seed(1);
        x.draw();
        due("THE SEED is 1 at first", first, x.count(6));
    }

    /** X modulo 8: below s solved, then e wrong, else a TICK more. */
    static void diceBelow() {
        promise = "24 draw, X modulo 8";
        for (int s = 0; s <= 8; s++) {
            for (int e = 0; e <= 8 - s; e++) {
                for (int seed = 0; seed < 8; seed++) {
                    RunHunt x = two("s" + s + "(t=0);e" + e + "(t=0)", 2, 2, 0);
                    x = new RunHunt();
                    law(x, "s" + s + "(t=0);e" + e + "(t=0)");
                    x.riddle(0, 2, 0);
                    x.band(0, 1, 0);
                    x.weather(1 + seed % 4, 0);
                    x.seed(seed);
                    int box = x.draw() == 1 ? x.had(0) : 0;
                    int dice = seed, went = 0;
                    for (int tick = 1; tick <= 10 && went == 0;) {
                        dice = next(dice);
                        int m = dice % 8;
                        if (m < s) {
                            went = tick;
                        } else if (m < s + e) {
                            tick += 1 + 1 + seed % 4;
                        } else {
                            for (tick++; tick <= 10; tick++) {
                                dice = next(dice);
                            }
                        }
                    }
                    String call = "s " + s + ", e " + e + ", SEED " + seed;
                    due(call + ": X", x.count(6), dice);
                    due(call + ": goings", x.count(5), went > 0 ? 1 : 0);
                    due(call + ": TICK", x.logged(0, 2), went > 0 ? went : -1);
                    due(call + ": THE BOX", box, went > 0 && went + 2 <= 10 ? went + 2 : 0);
                }
            }
        }
    }

    static void drawnToTheLastTick() {
        promise = "24 draw, TICKS 1 to 10";
        for (int t = 0; t <= 5; t++) {
            for (int walk = 1; walk <= 6; walk++) {
                RunHunt x = two("s8(t=" + t + "&b=0)", walk, 1, 0);
                int box = t + 1 + walk;
                due("draw, THE BOX at " + box, x.draw(), box <= 10 ? 1 : 0);
                due("had(0)", x.had(0), box <= 10 ? box : 0);
                due("had(1)", x.had(1), 0);
                due("it went", x.logged(0, 2), t + 1);
                due("only it", x.count(5), 1);
            }
        }
        for (int riddles = 1; riddles <= 5; riddles++) {
            RunHunt x = new RunHunt();
            law(x, "s8(1=1)");
            for (int r = 0; r < riddles; r++) {
                x.riddle(0, 0, 0);
            }
            for (int b = 0; b < 5; b++) {
                x.band(0, 9, 0);
            }
            due("all come there", x.draw(), 5);
            due("had(4)", x.had(4), 2 * riddles);
            due("goings", x.count(5), 5 * riddles);
            for (int i = 0; i < 5 * riddles; i++) {
                due("by TICKS, then BANDS", x.logged(i, 0), i % 5);
                due("RIDDLE", x.logged(i, 1), i / 5);
                due("TICK", x.logged(i, 2), 1 + i / 5 * 2);
            }
        }
        // solved in TICK 10: in the LOG, but its WALK would begin in TICK 11
        RunHunt x = new RunHunt();
        law(x, "s8(r=0);s8(t=5&r=1)");
        x.riddle(0, 3, 0);
        x.riddle(0, 3, 0);
        x.band(0, 1, 0);
        x.draw();
        due("at TICK 10", x.logged(1, 2), 10);
        due("no BOX", x.had(0), 0);
        // a row of draws: the LOG is of the last one alone
        x.draw();
        due("the LOG of the hunt before fell", x.count(5), 2);
    }

    /** In the TICK behind another one's going, not sooner, not later; its WALK begins with it. */
    static void drawnFollowing() {
        promise = "24 draw, who FOLLOWS";
        for (int fog = 0; fog <= 1; fog++) {
            for (int follows = 0; follows <= 1; follows++) {
                for (int t = 0; t <= 5; t++) {
                    for (int walk = 1; walk <= 6; walk++) {
                        RunHunt x = two("s8(b=0&t=" + t + ")", 1, walk, follows);
                        x.weather(2, fog);
                        x.draw();
                        boolean sees = follows == 1 && fog == 0;
                        int box = t + 1 + walk;
                        due("had(0)", x.had(0), t + 2);
                        due("had(1)", x.had(1), sees && box <= 10 ? box : 0);
                        due("goings", x.count(5), sees ? 2 : 1);
                        due("it went", x.logged(1, 2), sees ? t + 2 : -1);
                        int dice = 1;
                        for (int k = sees ? 2 * t + 2 : t + 11; k > 0; k--) {
                            dice = next(dice);
                        }
                        due("X: who goes behind another one draws none", x.count(6), dice);
                    }
                }
            }
        }
        // the lower BAND follows in the next TICK, too: goings are of the TICK before, not of this one
        RunHunt x = new RunHunt();
        law(x, "s8(b=1)");
        x.riddle(0, 4, 0);
        x.band(0, 4, 1);
        x.band(0, 4, 0);
        x.band(0, 4, 1);
        x.draw();
        int[][] log = {{1, 1}, {0, 2}, {2, 2}};
        for (int i = 0; i < 3; i++) {
            due("BAND", x.logged(i, 0), log[i][0]);
            due("TICK", x.logged(i, 2), log[i][1]);
        }
        // solved in TICK 9 at the second RIDDLE: who FOLLOWS goes in TICK 10, the last one, and a WALK of 1 is enough
        x = new RunHunt();
        law(x, "s8(r=0);s8(b=0&t=5)");
        x.riddle(0, 2, 0);
        x.riddle(0, 3, 0);
        x.band(0, 1, 0);
        x.band(0, 1, 1);
        x.band(0, 1, 0);
        x.draw();
        due("goings", x.count(5), 5);
        due("BAND 1 at TICK 10", 100 * x.logged(4, 0) + x.logged(4, 2), 110);
        due("had(0)", x.had(0), 10);
        due("had(1)", x.had(1), 10);
        due("had(2)", x.had(2), 0);
        // another one's going from another RIDDLE is none from its own
        x = new RunHunt();
        law(x, "s8(b=0);e8(b=1&t=0&r=0)");
        x.riddle(0, 1, 0);
        x.riddle(0, 0, 0);
        x.band(0, 1, 0);
        x.band(0, 1, 1);
        // BAND 0 goes in TICKS 1 and 3; BAND 1 is wrong in TICK 1, ASTRAY in 2 and 3
        due("draw", x.draw(), 1);
        due("had(0)", x.had(0), 4);
        due("goings", x.count(5), 2);
        // nor is its own: it comes to the next RIDDLE in the TICK in which it went
        x = new RunHunt();
        law(x, "s8(b=0&r=0)");
        x.riddle(0, 1, 0);
        x.riddle(0, 1, 0);
        x.band(0, 1, 0);
        x.band(0, 1, 1);
        due("draw", x.draw(), 0);
        due("both from RIDDLE 0 alone", x.count(5), 2);
        // ASTRAY one sees nothing; behind it, it is too late
        x = new RunHunt();
        law(x, "s8(b=0&t=1);e8(b=1&t=0)");
        x.riddle(0, 1, 0);
        x.band(0, 1, 0);
        x.band(0, 1, 1);
        for (int delay = 1; delay <= 4; delay++) {
            x.weather(delay, 0);
            x.draw();
            // BAND 1 is wrong in TICK 1, ASTRAY in 2 .. 1 + DELAY; BAND 0 goes in TICK 2, so it is TICK 3 that counts
            due("had(1), DELAY " + delay, x.had(1), delay == 1 ? 3 : 0);
        }
    }

    static void hadAndFalls() {
        promise = "25 had, 26 clear";
        RunHunt x = hill("s8(b=0)", 1);
        x.band(0, 9, 0);
        x.band(0, 9, 0);
        due("none was DRAWN", x.had(0), -1);
        due("draw", x.draw(), 1);
        for (int b = -1; b <= 2; b++) {
            due("had(" + b + ")", x.had(b), b == 0 ? 4 : b == 1 ? 0 : -1);
        }
        x.went(1, 0, 10);
        law(x, "s0(1=1)");
        x.weather(1, 1);
        x.seed(5);
        order(x, 0);
        x.feed(0, 0, 0, 0, 0);
        x.check(1);
        due("the LOG has not fallen", x.had(0), 4);
        due("clear", x.clear(), 2);
        due("none since", x.had(0), -1);
        due("ORDERS stay", x.count(4), 1);
        due("clear", x.clear(), 0);
        due("a hunt without goings", x.draw(), 0);
        due("is one", x.had(0), 0);
        due("its LOG is empty", x.count(5), 0);
        due("and falls, too", x.clear(), 0);
        due("none since", x.had(0), -1);
        x.draw();
        x.riddle(0, 0, 0);
        due("a RIDDLE more", x.had(0), -1);
        x.draw();
        x.band(0, 9, 0);
        due("a BAND more", x.had(0), -1);
        x.draw();
        due("a RIDDLE refused", x.riddle(10, 0, 0), -1);
        due("a BAND refused", x.band(10, 1, 0), -1);
        due("the LOG has not fallen", x.had(0), 0);
    }

    // ---- promises 27 and 28

    static void checkPlaces() {
        promise = "27 check";
        for (int size = 0; size <= 6; size++) {
            RunHunt x = hill("s1(1=1)", 3);
            for (int b = 0; b < 3; b++) {
                x.band(0, 9, 0);
            }
            int[] right = new int[21];
            for (int i = 0; i < size; i++) {
                right[3 * i] = i % 3;
                right[3 * i + 1] = i / 3;
                right[3 * i + 2] = i + 1;
                x.went(i % 3, i / 3, i + 1);
            }
            for (int n = 0; n <= 6; n++) {
                numbers(x, Arrays.copyOf(right, 3 * n));
                if (n == 0) {
                    x.feed(1, 1, 1, 1, 1);
                }
                due("check(" + n + ") of " + size, x.check(n), n == size ? -1 : n < size ? 3 * n : 3 * size);
                due("the tape is empty then", x.count(3), 0);
                due("the LOG stays", x.count(5), size);
            }
            for (int place = 0; place < 3 * size; place++) {
                for (int change : new int[] {1, -1, 1 << 8, 1 << 16, 1 << 24, 1 << 31}) {
                    int[] other = Arrays.copyOf(right, 3 * size);
                    other[place] += change;
                    if (place == 0 || place % 5 == 2 || change == 1) {
                        numbers(x, other);
                        due("check, place " + place, x.check(size), place);
                    }
                }
                if (x.count(5) != size) {
                    break;
                }
            }
        }
        // what is no going is told by no number: not by NONE either
        RunHunt none = hill("s1(1=1)", 1);
        none.band(0, 9, 0);
        due("NONE three times", checked(none, 1, -1, -1, -1), 0);
        none.went(0, 0, 1);
        due("NONE three times behind the last one", checked(none, 2, 0, 0, 1, -1, -1, -1), 3);
        due("0 three times behind the last one", checked(none, 2, 0, 0, 1, 0, 0, 0), 3);
        // 60 bytes are five threes
        RunHunt x = hill("s1(1=1)", 5);
        x.band(0, 9, 0);
        int[] right = new int[15];
        for (int i = 0; i < 5; i++) {
            x.went(0, i, 10);
            right[3 * i + 1] = i;
            right[3 * i + 2] = 10;
        }
        numbers(x, right);
        due("it has not so many", x.check(6), -2);
        due("the tape stays", x.count(3), 60);
        due("it has just so many", x.check(5), -1);
        due("the tape is empty then", x.count(3), 0);
        due("none are there", x.check(1), -2);
        due("a first one that is wrong, though some are lacking", checked(x, 1, 1, 0, 10), 0);
        due("some are lacking", checked(x, 1, 0, 0, 10), 3);
        due("three numbers less", checked(x, 4, Arrays.copyOf(right, 12)), 12);
        due("none told", checked(x, 0, 0), 0);
    }

    static int checked(RunHunt x, int n, int... told) {
        numbers(x, told);
        return x.check(n);
    }

    static void counts() {
        promise = "28 count";
        RunHunt x = new RunHunt();
        for (int k = 1; k <= 5; k++) {
            x.riddle(0, 0, 0);
            due("RIDDLES", x.count(0), k);
            x.band(0, 1, 0);
            due("BANDS", x.count(1), k);
        }
        for (int k = 1; k <= 14; k++) {
            law(x, clauses(k));
            due("CLAUSES", x.count(2), k);
        }
        for (int k = 1; k <= 5; k++) {
            order(x, 4, 3, 2, 1, 0);
            due("ORDERS", x.count(4), k);
        }
        for (int k = 1; k <= 25; k++) {
            x.went((k - 1) / 5, (k - 1) % 5, 1);
            due("how many the LOG has", x.count(5), k);
        }
        for (int k = 1; k <= 11; k++) {
            x.feed(0, 0, 0, 0, 0);
            due("bytes", x.count(3), 20 * k);
        }
        x.seed(65535);
        x.weather(4, 1);
        int[] want = {5, 5, 14, 220, 5, 25, 65535, 4, 1};
        for (int what = -2; what <= 11; what++) {
            due("count(" + what + ")", x.count(what), what >= 0 && what <= 8 ? want[what] : -1);
        }
        due("count(MIN)", x.count(Integer.MIN_VALUE), -1);
        due("count(MAX)", x.count(Integer.MAX_VALUE), -1);
    }
}
