/** For each promise of the document the ordinary, the edges and the wrong; what is due was reckoned by hand from the words. */
public final class RunHuntPromises {
    private static int wrong = 0;
    private static int promise = 0;

    private static void due(String call, long got, long want) {
        if (got != want) {
            wrong++;
            System.out.println("promise " + promise + ": " + call + " answered " + got + ", due is " + want);
        }
    }

    private static void due(String call, boolean got, boolean want) {
        due(call, got ? 1 : 0, want ? 1 : 0);
    }

    public static void main(String[] args) {
        newObject();
        riddles();
        bands();
        weather();
        feed();
        lawTape();
        lawFaults();
        lawMeaning();
        chance();
        walk();
        ways();
        ahead();
        share();
        after();
        edge();
        best();
        bestFollowed();
        bestStates();
        without();
        waits();
        order();
        given();
        cleverest();
        went();
        knew();
        seedAndDraw();
        drawFollowing();
        hadAndClear();
        check();
        count();
        System.out.println(wrong == 0 ? "all promises hold" : wrong + " answers are not as due");
        System.exit(wrong == 0 ? 0 : 1);
    }

    // ---- helpers

    private static void feedBytes(RunHunt x, int... bytes) {
        for (int i = 0; i < bytes.length; i += 20) {
            int[] w = new int[5];
            for (int k = 0; k < 20 && i + k < bytes.length; k++) {
                w[k / 4] |= (bytes[i + k] & 255) << 24 - 8 * (k % 4);
            }
            x.feed(w[0], w[1], w[2], w[3], w[4]);
        }
    }

    private static int law(RunHunt x, String text) {
        x.check(0);
        feedBytes(x, text.chars().toArray());
        return x.law(text.length());
    }

    private static int order(RunHunt x, int... row) {
        x.check(0);
        feedBytes(x, row);
        return x.order();
    }

    private static int check(RunHunt x, int n, int... numbers) {
        x.check(0);
        int[] bytes = new int[4 * numbers.length];
        for (int i = 0; i < bytes.length; i++) {
            bytes[i] = numbers[i / 4] >>> 24 - 8 * (i % 4) & 255;
        }
        feedBytes(x, bytes);
        return x.check(n);
    }

    /** A hill with a LAW and RIDDLES in a row, each so far from the one before. */
    private static RunHunt hill(String law, int... far) {
        RunHunt x = new RunHunt();
        law(x, law);
        int at = 0;
        for (int i = 0; i < far.length; i++) {
            at = at + far[i] <= 30 ? at + far[i] : at - far[i];
            x.riddle(i + 1, at, 0);
        }
        return x;
    }

    private static void dueCounts(String when, RunHunt x, int... want) {
        for (int i = 0; i < want.length; i++) {
            due(when + ": count(" + i + ")", x.count(i), want[i]);
        }
    }

    // ---- promises

    private static void newObject() {
        promise = 1;
        RunHunt x = new RunHunt();
        dueCounts("new", x, 0, 0, 0, 0, 0, 0, 1, 2, 0);
        due("NONE", RunHunt.NONE, -1);
        due("logged", x.logged(0, 0), -1);
        due("given", x.given(2, -1), -1);
        due("check(0): an empty LOG is right", x.check(0), -1);
        x.band(1, 1, 0);
        x.riddle(1, 1, 1);
        due("chance without a LAW", x.chance(0, 0, 0, 0), 0);
        due("draw", x.draw(), 0);
        int dice = 1;
        for (int k = 0; k < 10; k++) {
            dice = (25173 * dice + 13849) % 65536;
        }
        due("X from THE SEED 1", x.count(6), dice);
    }

    private static void riddles() {
        promise = 2;
        RunHunt x = new RunHunt();
        int[][] bad = {{-1, 0, 0}, {10, 0, 0}, {0, -1, 0}, {0, 31, 0}, {0, 0, -1}, {0, 0, 31}, {Integer.MAX_VALUE, 0, 0}, {0, Integer.MIN_VALUE, 0}};
        for (int[] b : bad) {
            due("riddle " + b[0] + " " + b[1] + " " + b[2], x.riddle(b[0], b[1], b[2]), -1);
        }
        due("count(0)", x.count(0), 0);
        x.band(1, 1, 0);
        due("first", x.riddle(0, 0, 0), 0);
        due("order", order(x, 0), 0);
        due("went", x.went(0, 0, 1), 1);
        due("refused", x.riddle(10, 0, 0), -1);
        dueCounts("a refused one lets nothing fall", x, 1, 1, 0, 0, 1, 1);
        x.draw();
        due("second", x.riddle(9, 30, 30), 1);
        dueCounts("ORDERS and the LOG fall", x, 2, 1, 0, 0, 0, 0);
        due("had falls with the LOG", x.had(0), -1);
        due("third", x.riddle(9, 0, 30), 2);
        due("fourth", x.riddle(0, 30, 0), 3);
        due("fifth", x.riddle(5, 5, 5), 4);
        order(x, 4, 3, 2, 1, 0);
        x.went(0, 4, 1);
        due("sixth", x.riddle(0, 0, 0), -1);
        dueCounts("a sixth lets nothing fall", x, 5, 1, 0, 0, 1, 1);
    }

    private static void bands() {
        promise = 3;
        RunHunt x = new RunHunt();
        int[][] bad = {{-1, 1, 0}, {10, 1, 0}, {0, 0, 0}, {0, 10, 0}, {0, 1, -1}, {0, 1, 2}, {0, Integer.MIN_VALUE, 0}};
        for (int[] b : bad) {
            due("band " + b[0] + " " + b[1] + " " + b[2], x.band(b[0], b[1], b[2]), -1);
        }
        due("count(1)", x.count(1), 0);
        x.riddle(0, 0, 0);
        due("first", x.band(0, 1, 0), 0);
        order(x, 0);
        x.went(0, 0, 1);
        due("refused", x.band(10, 1, 0), -1);
        due("the LOG stays", x.count(5), 1);
        x.draw();
        due("had", x.had(0), 0);
        x.went(0, 0, 1);
        due("second", x.band(9, 9, 1), 1);
        due("the LOG falls", x.count(5), 0);
        due("ORDERS stay", x.count(4), 1);
        due("had", x.had(0), -1);
        for (int i = 2; i < 5; i++) {
            due("band " + i, x.band(5, 5, 1), i);
        }
        x.went(4, 0, 1);
        due("sixth", x.band(5, 5, 1), -1);
        due("the LOG stays", x.count(5), 1);
    }

    private static void weather() {
        promise = 4;
        RunHunt x = new RunHunt();
        due("weather(0, 0)", x.weather(0, 0), false);
        due("weather(5, 0)", x.weather(5, 0), false);
        due("weather(-1, 0)", x.weather(-1, 0), false);
        due("weather(2, -1)", x.weather(2, -1), false);
        due("weather(2, 2)", x.weather(2, 2), false);
        due("DELAY stays", x.count(7), 2);
        for (int d = 1; d <= 4; d++) {
            due("weather(" + d + ", 1)", x.weather(d, 1), true);
            due("DELAY", x.count(7), d);
            due("FOG", x.count(8), 1);
        }
        due("refused as a whole", x.weather(3, 2), false);
        due("DELAY", x.count(7), 4);
        due("weather(1, 0)", x.weather(1, 0), true);
        due("FOG", x.count(8), 0);
    }

    private static void feed() {
        promise = 5;
        RunHunt x = new RunHunt();
        for (int i = 1; i <= 11; i++) {
            due("feed " + i, x.feed(i, 2, 3, 4, 5), 20 * i);
        }
        due("feed 12", x.feed(1, 2, 3, 4, 5), -1);
        due("count(3)", x.count(3), 220);
        x.check(0);
        due("count(3)", x.count(3), 0);
        for (int i = 0; i < 5; i++) {
            x.riddle(0, 0, 0);
        }
        x.feed(0x02010004, 0x03FFFFFF, -1, -1, -1);
        due("the highest byte first", x.order(), 0);
        RunHunt y = new RunHunt();
        y.riddle(0, 0, 0);
        y.band(0, 1, 0);
        y.went(0, 0, 7);
        y.feed(0, 0, 7, 0, 0);
        y.feed(0, 0, 0, 0, 0);
        due("numbers by all four bytes", y.check(1), -1);
        y.feed(0x80000000, 0, 7, 0, 0);
        due("the highest bit counts", y.check(1), 0);
        y.feed(0, 0, 0x07000000, 0, 0);
        due("the highest byte counts", y.check(1), 2);
    }

    private static void lawTape() {
        promise = 6;
        RunHunt x = new RunHunt();
        x.riddle(2, 0, 0);
        x.band(3, 1, 0);
        due("no tape", x.law(1), -1);
        due("a LAW", law(x, "s3(1=1)"), 1);
        due("the tape is empty then", x.count(3), 0);
        feedBytes(x, "s5(1=1)".chars().toArray());
        due("law(0)", x.law(0), -1);
        due("law(-1)", x.law(-1), -1);
        due("law(201)", x.law(201), -1);
        due("law(21): it has not so many", x.law(21), -1);
        due("law(MAX)", x.law(Integer.MAX_VALUE), -1);
        due("law(MIN)", x.law(Integer.MIN_VALUE), -1);
        due("the tape stays", x.count(3), 20);
        due("the LAW stays", x.chance(0, 0, 0, 0), 3);
        due("a FAULT", x.law(20), -1007);
        due("the tape is empty then", x.count(3), 0);
        due("the TEXT before stays", x.chance(0, 0, 0, 0), 3);
        due("CLAUSES stay", x.count(2), 1);
        due("another LAW", law(x, "s5(1=1);e1(1=1)"), 2);
        due("in place of the one before", x.chance(0, 0, 0, 0), 5);
        StringBuilder most = new StringBuilder("s1+1");
        while (most.length() < 194) {
            most.append("+0");
        }
        most.append("(0=00)");
        due("its length", most.length(), 200);
        due("200 bytes", law(x, most.toString()), 1);
        due("their meaning", x.chance(0, 0, 0, 0), 2);
        feedBytes(x, most.append("+").chars().toArray());
        due("law(201) with 220 there", x.law(201), -1);
        due("the tape stays", x.count(3), 220);
    }

    private static void dueLaw(String text, int want) {
        due("law " + text, law(new RunHunt(), text), want);
    }

    private static void lawFaults() {
        promise = 6;
        dueLaw("s", -1001);
        dueLaw("t", -1000);
        dueLaw(" s1(1=1)", -1000);
        dueLaw("s1 (1=1)", -1002);
        dueLaw("S1(1=1)", -1000);
        dueLaw("s(1=1)", -1001);
        dueLaw("s-1(1=1)", -1001);
        dueLaw("s1+(1=1)", -1003);
        dueLaw("s1()", -1003);
        dueLaw("s1(1)", -1004);
        dueLaw("s1(1=1=1)", -1006);
        dueLaw("s1(1=1", -1006);
        dueLaw("s1(1=1))", -1007);
        dueLaw("s1(1=1);", -1008);
        dueLaw("s1(1=1);;", -1008);
        dueLaw("s1(1=1)e1(1=1)", -1007);
        dueLaw("s1((1=1)", -1008);
        dueLaw("s1((1)=1)", -1005);
        dueLaw("s1([1]=1)", 1);
        dueLaw("s1([1=1])", -1005);
        dueLaw("s1[2](1=1)", -1002);
        dueLaw("s[1)(1=1)", -1003);
        dueLaw("s[](1=1)", -1002);
        dueLaw("s1(1<1&1>1|1=1)", 1);
        dueLaw("s1(1=1&)", -1007);
        dueLaw("s1(1=1|)", -1007);
        dueLaw("s1(!)", -1004);
        dueLaw("s1(!1)", -1005);
        dueLaw("s1(1=!1)", -1005);
        dueLaw("s1(1&1)", -1004);
        dueLaw("s1(s=1)", -1003);
        dueLaw("s1(e=1)", -1003);
        dueLaw("schtrbnfq(1=1)", -1002);
        dueLaw("sc+h+t+r+b+n+f+q*c/h%t-1(1=1)", 1);
        dueLaw("s12345(1=1)", 1);
        dueLaw("s123456(1=1)", -2006);
        dueLaw("s1(00000=000000)", -2014);
        dueLaw("s1(1=1);e1234567(", -2014);
        dueLaw("s1(1=1)\u00e9", -1007);
        dueLaw("\u00f3", -1000);
        dueLaw("s[[[[[[1]]]]]]([[[[[1]]]]]=1)", 1);
        dueLaw("s[[[[[[[1]]]]]]](1=1)", -5007);
        dueLaw("s1([[[[[[1]]]]]]=1)", -5008);
        dueLaw("s1((((((1=1))))))", 1);
        dueLaw("s1(((((((1=1)))))))", -5008);
        dueLaw("s1(!!!!!1=1)", 1);
        dueLaw("s1(!!!!!!1=1)", -5008);
        dueLaw("s1(!!!!![1]=1)", -5008);
        dueLaw("s1(!!!!!1=[1])", -5010);
        dueLaw("s1(!!!!!1=1&!!!!!1=1|(((((1=1))))))", 1);
        dueLaw("s1(!(!(!1=1)))", 1);
        dueLaw("s1(!(!(!(1=1))))", -5008);
        dueLaw("s1((!!!!1=1)&!!!!!1=1)", 1);
        dueLaw("s1(!!!!!)", -1008);
        dueLaw("s1(((((()", -1008);
        StringBuilder many = new StringBuilder("s1(1=1)");
        for (int k = 2; k <= 14; k++) {
            many.append(k % 2 == 0 ? ";e1(1=1)" : ";s1(1=1)");
        }
        dueLaw(many.toString(), 14);
        dueLaw(many + ";", -1112);
        dueLaw(many + ";s1(1=1)", -4112);
        dueLaw(many + ";e", -4112);
        dueLaw(many + ";x", -1112);
    }

    private static int s(String text) {
        return of(text, 0);
    }

    private static int of(String text, int what) {
        RunHunt x = new RunHunt();
        x.riddle(1, 0, 0);
        x.riddle(2, 0, 0);
        x.band(9, 7, 0);
        x.band(4, 6, 0);
        int clauses = law(x, text);
        return clauses < 1 ? clauses : x.chance(1, 1, 3, what);
    }

    private static void dueS(String text, int want) {
        due("s of " + text, s(text), want);
    }

    /** With c 4, h 2, t 3, r 1, b 1, n 2, f 0, q 6. */
    private static void lawMeaning() {
        promise = 7;
        dueS("sc(1=1)", 4);
        dueS("sh(1=1)", 2);
        dueS("st(1=1)", 3);
        dueS("sr+5(1=1)", 6);
        dueS("sb+6(1=1)", 7);
        dueS("sn(1=1)", 2);
        dueS("sf+1(1=1)", 1);
        dueS("sq(1=1)", 6);
        dueS("s8-3-2(1=1)", 3);
        dueS("s8/2*2(1=1)", 8);
        dueS("s8/[2*2](1=1)", 2);
        dueS("s1+2*3(1=1)", 7);
        dueS("s[1+1]*3(1=1)", 6);
        dueS("s7%4*2(1=1)", 6);
        dueS("s[0-7]/2+8(1=1)", 5);
        dueS("s[0-7]%4+8(1=1)", 5);
        dueS("s7/2(1=1)", 3);
        dueS("s00005(1=1)", 5);
        dueS("s99999(1=1)", 8);
        dueS("s1-2(1=1)", 0);
        dueS("s65536*65536+3(1=1)", 3);
        dueS("s65536*32767+65535+4(65536*32767+65535+1<0)", 0);
        dueS("s4(65536*32767+65535+1<0)", 4);
        dueS("s4(65536*32768/[0-1]<0)", 4);
        dueS("s4(65536*32768%[0-1]=0)", 4);
        dueS("s3(1=2)", 0);
        dueS("s3(1=2);s4(2=2);s5(1=1)", 4);
        dueS("e1(1=1);s2(1=1)", 2);
        dueS("s3/0(1=1);s4(1=1)", 0);
        dueS("s3%f(1=1);s4(1=1)", 0);
        dueS("s3/f*0+5(1=1)", 0);
        dueS("s3(1/0=1);s4(1=1)", 4);
        dueS("s3(!1/0=1);s4(1=1)", 4);
        dueS("s3(1/0=1|1=1);s4(1=1)", 4);
        dueS("s3(!(1/f=1)|1=1);s4(1=1)", 4);
        dueS("s3(!(!(1%0=1)));s4(1=1)", 4);
        dueS("s3(1=1|1/0=1);s4(1=1)", 3);
        dueS("s3(1=2&1/0=1);s4(1=1)", 4);
        dueS("s3(1=2&1/0=1|1=1);s4(1=1)", 3);
        dueS("s3(!(1=2&1/0=1));s4(1=1)", 3);
        dueS("s3((1=1|1/0=1)&2=2);s4(1=1)", 3);
        dueS("s3((1=2&1/0=1)&1/0=1|1=1);s4(1=1)", 3);
        dueS("s3(1=1|1/0=1&1/0=1|1/0=1);s4(1=1)", 3);
        dueS("s3(1=1&1/0=1|1=1);s4(1=1)", 4);
        dueS("s3(1=2|1=1&1=1);s4(1=1)", 3);
        dueS("s3(1=1|1=1&1=2);s4(1=1)", 3);
        dueS("s3((1=1|1=1)&1=2);s4(1=1)", 4);
        dueS("s3(!1=1|1=1);s4(1=1)", 3);
        dueS("s3(!1=1&1=1);s4(1=1)", 4);
        dueS("s3(!1=2&1=1);s4(1=1)", 3);
        dueS("s3(!!1=1);s4(1=1)", 3);
        dueS("s3(1<2&2>1&!2<1&!1>2&!1<1&!1>1);s4(1=1)", 3);
        dueS("s[[[[[[5]]]]]](1=1)", 5);
        dueS("s5((((((1=1))))))", 5);
        dueS("s5([[[[[1]]]]]=1)", 5);
        dueS("s5(1=[[[[[1]]]]])", 5);
        dueS("s5(!!!!1=1)", 5);
        dueS("s5(!!!!!1=2)", 5);
        StringBuilder many = new StringBuilder();
        for (int k = 0; k < 13; k++) {
            many.append(k % 3 == 0 ? "e8(1=1);" : "s8(1=2);");
        }
        dueS(many + "s7(1=1)", 7);
        due("e of none", of("s3(1=1)", 1), 0);
        due("e", of("s3(1=1);e4(1=1)", 1), 4);
        due("e at most what is left", of("s3(1=1);e7(1=1)", 1), 5);
        due("e at most what is left", of("s9(1=1);e7(1=1)", 1), 0);
        due("e at least 0", of("s3(1=1);e0-3(1=1)", 1), 0);
        due("e behind s below 0", of("s0-5(1=1);e9(1=1)", 1), 8);
    }

    private static void chance() {
        promise = 7;
        RunHunt x = hill("st+c-h(1=1);e1+r(!b=0)", 1, 1);
        x.band(2, 1, 0);
        x.band(4, 1, 0);
        for (int t = 0; t <= 5; t++) {
            due("chance(0, 0, " + t + ", 0)", x.chance(0, 0, t, 0), t + 1);
            due("chance(1, 1, " + t + ", 0)", x.chance(1, 1, t, 0), t + 2);
        }
        due("e of 0", x.chance(0, 1, 0, 1), 0);
        due("e of 1", x.chance(1, 1, 0, 1), 2);
        int[][] bad = {{-1, 0, 0, 0}, {2, 0, 0, 0}, {0, -1, 0, 0}, {0, 2, 0, 0}, {0, 0, -1, 0}, {0, 0, 6, 0}, {0, 0, 0, -1}, {0, 0, 0, 2}};
        for (int[] b : bad) {
            due("chance " + b[0] + " " + b[1] + " " + b[2] + " " + b[3], x.chance(b[0], b[1], b[2], b[3]), -1);
        }
        law(x, "sf+n(1=1)");
        due("n 2, f 0", x.chance(0, 0, 0, 0), 2);
        x.weather(1, 1);
        due("f 1", x.chance(0, 0, 0, 0), 3);
        x.riddle(0, 0, 0);
        due("n 3", x.chance(0, 0, 0, 0), 4);
    }

    private static void walk() {
        promise = 8;
        RunHunt x = new RunHunt();
        x.riddle(0, 4, 3);
        x.riddle(0, 4, 3);
        x.riddle(0, 0, 30);
        x.riddle(0, 30, 0);
        x.band(0, 1, 0);
        x.band(0, 7, 0);
        x.band(0, 6, 0);
        x.band(0, 9, 0);
        due("7 by 1: at most 6", x.walk(0, 0), 6);
        due("7 by 7", x.walk(1, 0), 1);
        due("7 by 6: rounded up", x.walk(2, 0), 2);
        due("0 far: at least 1", x.walk(0, 1), 1);
        due("x and y apart, together: 31 by 7", x.walk(1, 2), 5);
        due("31 by 6: 6", x.walk(2, 2), 6);
        due("31 by 9", x.walk(3, 2), 4);
        due("60 by 9", x.walk(3, 3), 6);
        due("walk(0, 4)", x.walk(0, 4), -1);
        due("walk(4, 0)", x.walk(4, 0), -1);
        due("walk(-1, 0)", x.walk(-1, 0), -1);
        due("walk(0, -1)", x.walk(0, -1), -1);
    }

    private static void ways() {
        promise = 9;
        RunHunt x = hill("s2(1=1);e3(1=1)", 1);
        x.band(1, 1, 0);
        x.weather(1, 0);
        due("by 1", x.ways(0, 1, 5), 0);
        due("by 2", x.ways(0, 2, 5), 16);
        due("by 3", x.ways(0, 3, 5), 16 * 8 + 3 * 2 * 8);
        due("by 4, ASTRAY for 1", x.ways(0, 4, 5), 176 * 8 + (18 + 48) * 8);
        due("at just 4", x.ways(0, 4, 6), (18 + 48) * 8);
        x.weather(2, 0);
        due("by 4, ASTRAY for 2", x.ways(0, 4, 5), 176 * 8 + 18 * 8);
        x.weather(1, 0);
        law(x, "s8(t=5)");
        due("t goes to 5: by 6", x.ways(0, 6, 5), 0);
        due("t goes to 5: by 7", x.ways(0, 7, 5), 1 << 21);
        law(x, "s1(t=5)");
        due("and stays there", x.ways(0, 8, 6), 7 * (1 << 18));
        law(x, "s8(t=0&!r=0|t>0);e8(t=0)");
        due("always wrong with t 0", x.ways(0, 10, 5), 0);
        x = hill("s8(1=1)", 1, 2, 3);
        x.band(1, 1, 0);
        long all = 1L << 30;
        due("RIDDLE 0", x.ways(0, 10, 0), all);
        due("RIDDLE 1 by 1", x.ways(0, 1, 1), 0);
        due("RIDDLE 1 by 2", x.ways(0, 2, 1), 64);
        due("RIDDLE 2 by 4", x.ways(0, 4, 2), 0);
        due("RIDDLE 2 by 5", x.ways(0, 5, 2), 1 << 15);
        due("RIDDLE 3: none", x.ways(0, 5, 3), -1);
        due("THE BOX by 8", x.ways(0, 8, 5), 0);
        due("THE BOX by 9", x.ways(0, 9, 5), 1 << 27);
        due("THE BOX by 10", x.ways(0, 10, 5), all);
        due("THE BOX at 9", x.ways(0, 9, 6), 1 << 27);
        due("THE BOX at 10", x.ways(0, 10, 6), 0);
        int[][] bad = {{-1, 1, 5}, {1, 1, 5}, {0, 0, 5}, {0, 11, 5}, {0, 1, -1}, {0, 1, 7}};
        for (int[] b : bad) {
            due("ways " + b[0] + " " + b[1] + " " + b[2], x.ways(b[0], b[1], b[2]), -1);
        }
        RunHunt none = new RunHunt();
        none.band(0, 1, 0);
        due("no RIDDLES", none.ways(0, 1, 5), -1);
        due("no RIDDLES", none.ways(0, 1, 6), -1);
    }

    private static void ahead() {
        promise = 10;
        RunHunt x = hill("s4(b=0&t=0);s8(b=0);s8(b=1&t=1);s8(b=2)", 1);
        for (int i = 0; i < 4; i++) {
            x.band(1, 1, 0);
        }
        // 0: TICK 2 or 3, half and half; 1: TICK 3; 2: TICK 2; 3: never
        due("0 ahead of 1, above", x.ahead(0, 1, 0), 1);
        due("0 ahead of 1, below", x.ahead(0, 1, 1), 2);
        due("0 like 1, above", x.ahead(0, 1, 2), 1);
        due("0 like 1, below", x.ahead(0, 1, 3), 2);
        due("1 ahead of 0, above", x.ahead(1, 0, 0), 0);
        due("1 ahead of 0, below", x.ahead(1, 0, 1), 1);
        due("2 ahead of 0", x.ahead(2, 0, 0), 1);
        due("2 ahead of 0, below", x.ahead(2, 0, 1), 2);
        due("y never has it", x.ahead(1, 3, 0), 1);
        due("y never has it, below", x.ahead(1, 3, 1), 1);
        due("x never has it", x.ahead(3, 1, 0), 0);
        due("neither is not LIKE", x.ahead(3, 3 - 1, 2), 0);
        law(x, "s0(1=1)");
        due("both never: not LIKE", x.ahead(0, 1, 2), 0);
        due("both never: below", x.ahead(0, 1, 3), 1);
        law(x, "s1(b=0);s2(b=1);s8(1=1)");
        due("1/8 by TICK 2, y later or never", x.ahead(0, 2, 2), 1);
        due("1/8", x.ahead(0, 2, 3), 8);
        int[][] bad = {{-1, 0, 0}, {0, -1, 0}, {4, 0, 0}, {0, 4, 0}, {0, 0, 0}, {0, 1, -1}, {0, 1, 4}};
        for (int[] b : bad) {
            due("ahead " + b[0] + " " + b[1] + " " + b[2], x.ahead(b[0], b[1], b[2]), -1);
        }
        RunHunt none = new RunHunt();
        none.band(0, 1, 0);
        none.band(0, 1, 0);
        due("no RIDDLES", none.ahead(0, 1, 0), -1);
    }

    private static void share() {
        promise = 11;
        RunHunt x = hill("s2(b=0);s4(b=1);s0(1=1);e3(b=0);e1(b=1);e8(1=1)", 2);
        x.band(1, 2, 0);
        x.band(1, 2, 0);
        x.band(1, 1, 0);
        x.weather(1, 0);
        // solved 40, wrong 15, neither 9 of 64
        due("by 1", x.share(0, 1, 1), 0);
        due("by 2", x.share(0, 1, 2), 40 * 64);
        due("by 3", x.share(0, 1, 3), 40 * 64 * 64 + 9 * 40 * 64);
        due("by 4", x.share(0, 1, 4), (40 * 64 + 9 * 40) * 64L * 64 + (81 * 40 + 15 * 64 * 40) * 64L);
        due("turned round", x.share(1, 0, 4), x.share(0, 1, 4));
        due("THE WALK of the slower one", x.share(1, 2, 2), 0);
        due("solved though the other is wrong", x.share(1, 2, 3), 32 * 64 * 64);
        law(x, "s8(b=1&t=2)");
        due("t for both", x.share(0, 1, 3), 0);
        due("t for both", x.share(0, 1, 4), 1 << 24);
        due("all of 64 to the tenth", x.share(0, 1, 10), 1L << 60);
        int[][] bad = {{-1, 0, 1}, {0, -1, 1}, {3, 0, 1}, {0, 3, 1}, {1, 1, 1}, {0, 1, 0}, {0, 1, 11}};
        for (int[] b : bad) {
            due("share " + b[0] + " " + b[1] + " " + b[2], x.share(b[0], b[1], b[2]), -1);
        }
        RunHunt none = new RunHunt();
        none.band(0, 1, 0);
        none.band(0, 1, 0);
        due("no RIDDLES", none.share(0, 1, 1), -1);
    }

    private static void after() {
        promise = 12;
        RunHunt x = hill("s4(r=0);s8(1=1)", 4, 2);
        x.band(1, 4, 0);
        x.band(1, 2, 0);
        x.band(1, 1, 0);
        // WALKS: 0: 1, 1; 1: 2, 1; 2: 4, 2
        due("0 after 1: y solves in 1, in 4; x has it at 5", x.after(0, 1, 4, 0), 0);
        due("0 after 1 by 5", x.after(0, 1, 5, 0), 1 << 14);
        due("0 after 1: in the same TICK as y", x.after(0, 1, 5, 1), 0);
        due("0 after 1 by 6", x.after(0, 1, 6, 0), (1 << 17) + (1 << 16));
        due("0 after 2: y solves in 1, in 6; x has it at 7, y at 8", x.after(0, 2, 7, 0), 1 << 20);
        due("0 after 2, ahead", x.after(0, 2, 7, 1), 1 << 20);
        due("0 after 2, ahead of it by then", x.after(0, 2, 9, 1), (1 << 26) + (1 << 25) + (1 << 24));
        due("2 after 0: comes at 5, then 7", x.after(2, 0, 6, 0), 0);
        due("2 after 0 by 7", x.after(2, 0, 7, 0), 1 << 20);
        due("2 after 0, ahead", x.after(2, 0, 10, 1), 0);
        law(x, "s8(b=1)");
        due("x never thinks", x.after(0, 1, 10, 0), 1 << 30);
        due("y never solves", x.after(1, 0, 10, 0), 0);
        x.weather(1, 1);
        due("in a FOG likewise", x.after(0, 1, 10, 0), 1 << 30);
        int[][] bad = {{-1, 0, 1, 0}, {0, -1, 1, 0}, {3, 0, 1, 0}, {0, 3, 1, 0}, {1, 1, 1, 0}, {0, 1, 0, 0}, {0, 1, 11, 0}, {0, 1, 1, -1}, {0, 1, 1, 2}};
        for (int[] b : bad) {
            due("after " + b[0] + " " + b[1] + " " + b[2] + " " + b[3], x.after(b[0], b[1], b[2], b[3]), -1);
        }
        RunHunt none = new RunHunt();
        none.band(0, 1, 0);
        none.band(0, 1, 0);
        due("no RIDDLES", none.after(0, 1, 1, 0), -1);
    }

    private static void edge() {
        promise = 13;
        RunHunt x = hill("sc(1=1)", 3);
        x.band(5, 3, 0);
        x.band(3, 3, 0);
        x.band(8, 3, 0);
        due("0 beside 1: like ones are not more", x.edge(0, 1), 4);
        due("its own CLEVER counts for nothing", x.edge(2, 1), 4);
        due("1 beside 0", x.edge(1, 0), 6);
        due("beside one that always solves", x.edge(0, 2), 10);
        due("CLEVER stays", x.chance(0, 0, 0, 0), 5);
        law(x, "s8(b=0);s1(1=1)");
        due("0 is enough", x.edge(0, 1), 0);
        law(x, "s8(c=9&b=0);s2(b=1)");
        due("9 is needed", x.edge(0, 1), 9);
        law(x, "s8(c=4&b=0);s2(b=1)");
        due("the least", x.edge(0, 1), 4);
        int[][] bad = {{-1, 0}, {0, -1}, {3, 0}, {0, 3}, {1, 1}};
        for (int[] b : bad) {
            due("edge " + b[0] + " " + b[1], x.edge(b[0], b[1]), -1);
        }
        RunHunt none = new RunHunt();
        none.band(0, 1, 0);
        none.band(0, 1, 0);
        due("no RIDDLES", none.edge(0, 1), -1);
    }

    private static void dueBest(RunHunt x, int left, int sx, int sy, int began, long value, int deed) {
        String call = "best(0, 1, " + left + ", " + sx + ", " + sy + ", " + began + ")";
        due(call + " VALUE", x.best(0, 1, left, sx, sy, began, 0), value);
        due(call + " what x does", x.best(0, 1, left, sx, sy, began, 1), deed);
    }

    /** One RIDDLE (and a second one), nobody FOLLOWS: s 4, e 2. */
    private static void best() {
        promise = 14;
        RunHunt x = hill("s4(r=0);s0(1=1);e2(r=0)", 2);
        x.band(1, 2, 0);
        x.band(1, 1, 0);
        // WALKS 1 and 2
        dueBest(x, 0, 0, 0, 0, 1, -1);
        dueBest(x, 1, 0, 0, 0, 64, 0);
        dueBest(x, 1, 10, 0, 0, 128, 1);
        dueBest(x, 1, 11, 0, 0, 128, -1);
        dueBest(x, 1, 11, 11, 0, 64, -1);
        dueBest(x, 1, 12, 11, 0, 0, -1);
        dueBest(x, 1, 21, 0, 0, 64, -1);
        dueBest(x, 1, 31, 11, 0, 0, -1);
        dueBest(x, 2, 31, 12, 0, 64 * 64, -1);
        dueBest(x, 2, 32, 0, 0, 64 * 64, -1);
        dueBest(x, 2, 31, 0, 0, 2 * 64 * 64, -1);
        // y walks: following brings x there in the same TICK
        dueBest(x, 1, 0, 11, 0, 64, 3);
        dueBest(x, 2, 0, 12, 0, 2 * 64 * 64, 3);
        x.weather(2, 1);
        dueBest(x, 1, 0, 11, 0, 0, 0);
        x.weather(2, 0);
        // y ASTRAY, then thinking: it cannot have the box by then
        dueBest(x, 2, 0, 21, 0, 64 * (4 * 8 * 2 + 4 * 8), 0);
        dueBest(x, 2, 1, 24, 0, 64 * (4 * 8 * 2 + 4 * 8), 0);
        // wrong: ASTRAY for DELAY TICKS. Three left, DELAY 1: solved in the first or the second TICK, but not if wrong in the first
        x.weather(1, 0);
        law(x, "s2(b=0);e3(b=0)");
        long solved = 2 * 8 * 4096 + 3 * 2 * 64 * 64;
        dueBest(x, 3, 0, 0, 0, 262144 + solved, 0);
        law(x, "s2(b=0&t=0);e3(b=0&t=0)");
        dueBest(x, 3, 0, 0, 0, 262144 + 2 * 8 * 4096, 0);
        // DELAY 1: to LEAD is no more than to stand there, with t 0 again
        dueBest(x, 3, 1, 0, 0, 262144 + 2 * 8 * 4096, 4);
        law(x, "s0(1=1)");
        dueBest(x, 5, 0, 0, 0, 1L << 30, 0);
        dueBest(x, 10, 0, 0, 0, 1L << 60, 0);
        law(x, "s8(1=1)");
        dueBest(x, 10, 0, 0, 0, 1L << 61, 0);
        dueBest(x, 10, 10, 0, 0, 1L << 61, 1);
    }

    private static void bestFollowed() {
        promise = 14;
        RunHunt x = hill("s0(1=1)", 6);
        x.band(1, 2, 0);
        x.band(1, 3, 1);
        // WALKS 3 and 2: y goes in the TICK behind x and has the box in the same one; it never thinks of it by itself
        dueBest(x, 10, 10, 0, 0, 1L << 60, 1);
        x.weather(2, 1);
        dueBest(x, 10, 10, 0, 0, 1L << 61, 1);
        x.weather(2, 0);
        due("began 1: y goes, too", x.best(0, 1, 2, 12, 3, 1, 0), 64 * 64);
        due("began 1: y goes, too", x.best(0, 1, 2, 13, 3, 1, 0), 0);
        due("began 0: it does not", x.best(0, 1, 2, 12, 3, 0, 0), 2 * 64 * 64);
        due("began 2: it does not", x.best(0, 1, 2, 12, 3, 2, 0), 2 * 64 * 64);
        due("ASTRAY it sees nothing", x.best(0, 1, 2, 12, 22, 1, 0), 2 * 64 * 64);
        due("only one TICK long", x.best(0, 1, 3, 13, 21, 1, 0), 2L << 18);
        x = hill("s0(1=1)", 6);
        x.band(1, 2, 0);
        x.band(1, 6, 1);
        // WALKS 3 and 1: going loses, so x waits till no TICK is left
        dueBest(x, 10, 10, 0, 0, 1L << 60, 2);
        dueBest(x, 3, 10, 0, 0, 1L << 18, 2);
        dueBest(x, 2, 10, 0, 0, 1L << 12, 2);
        dueBest(x, 1, 10, 0, 0, 64, 1);
        due("y ASTRAY for one TICK: was at the RIDDLE then and is now", x.best(0, 1, 10, 10, 21, 0, 1), 2);
        due("y ASTRAY for two TICKS: going is not seen", x.best(0, 1, 10, 10, 22, 0, 1), 1);
        due("y ASTRAY for two TICKS", x.best(0, 1, 10, 10, 22, 0, 0), 1L << 61);
        law(x, "s8(t>1)");
        // y would solve in the next TICK but one: x leads it astray now, not sooner; it comes to nothing for both
        dueBest(x, 10, 10, 1, 0, 1L << 60, 4);
        dueBest(x, 10, 10, 0, 0, 1L << 60, 2);
        due("y solves in this very TICK", x.best(0, 1, 10, 10, 2, 0, 0), 0);
        due("began 2: ASTRAY for DELAY, t 0 then", x.best(0, 1, 4, 13, 1, 2, 0), 2L << 24);
        due("began 0: y solves in its second TICK", x.best(0, 1, 4, 14, 1, 0, 0), 0);
        // a second RIDDLE: where x went from there, y sees nothing at the next one
        x = hill("s8(b=1&r=0);s0(1=1)", 1, 1);
        x.band(1, 1, 0);
        x.band(1, 1, 1);
        due("y comes to RIDDLE 1 as x goes from there", x.best(0, 1, 2, 110, 11, 0, 0), 2 << 12);
        due("y was there already: too late, too", x.best(0, 1, 2, 110, 100, 0, 0), 2 << 12);
        x = hill("s8(b=1&r=0);s0(1=1)", 1, 2);
        x.band(1, 1, 0);
        x.band(1, 2, 1);
        due("y thinks there: it follows, the same TICK", x.best(0, 1, 3, 110, 100, 0, 0), 1L << 18);
        due("y comes there in that TICK: it does not follow", x.best(0, 1, 3, 110, 11, 0, 0), 2L << 18);
        due("x at another RIDDLE", x.best(0, 1, 3, 110, 5, 0, 0), 2L << 18);
    }

    private static void bestStates() {
        promise = 14;
        RunHunt x = hill("s4(1=1)", 1, 1);
        x.band(1, 1, 0);
        x.band(1, 1, 1);
        for (int state = -1; state <= 220; state++) {
            int does = state % 100;
            boolean fits = state >= 0 && state < 200 && (does <= 5 || does >= 11 && does <= 16 || does >= 21 && does <= 24);
            boolean knows = state >= 0 && state < 200 && (does == 10 || does >= 31 && does <= 34);
            due("x " + state, x.best(0, 1, 0, state, 0, 0, 0), fits || knows ? 1 : -1);
            due("y " + state, x.best(0, 1, 0, 0, state, 0, 0), fits ? 1 : -1);
        }
        due("state MIN", x.best(0, 1, 0, Integer.MIN_VALUE, 0, 0, 0), -1);
        due("state MAX", x.best(0, 1, 0, 0, Integer.MAX_VALUE, 0, 0), -1);
        int[][] bad = {{-1, 1, 1, 0, 0}, {0, -1, 1, 0, 0}, {2, 1, 1, 0, 0}, {0, 2, 1, 0, 0}, {1, 1, 1, 0, 0}, {0, 1, -1, 0, 0}, {0, 1, 11, 0, 0},
            {0, 1, 1, -1, 0}, {0, 1, 1, 3, 0}, {0, 1, 1, 0, -1}, {0, 1, 1, 0, 2}};
        for (int[] b : bad) {
            due("best " + b[0] + " " + b[1] + " " + b[2] + " " + b[3] + " " + b[4], x.best(b[0], b[1], b[2], 0, 0, b[3], b[4]), -1);
        }
        RunHunt none = new RunHunt();
        none.band(0, 1, 0);
        none.band(0, 1, 0);
        due("no RIDDLES", none.best(0, 1, 1, 0, 0, 0, 0), -1);
        // what was reckoned is not kept when something changes
        long before = x.best(0, 1, 5, 0, 0, 0, 0);
        law(x, "s8(b=0)");
        due("another LAW", x.best(0, 1, 5, 0, 0, 0, 0), 2L << 30);
        law(x, "s4(1=1)");
        due("the LAW from before", x.best(0, 1, 5, 0, 0, 0, 0), before);
        due("turned round", x.best(1, 0, 1, 110, 0, 0, 0), 128);
        x.riddle(0, 30, 30);
        due("one RIDDLE more", x.best(1, 0, 1, 110, 0, 0, 0), 64);
    }

    private static void without() {
        promise = 15;
        // y solves in TICK 1 and walks for two: x follows by one step, and is ahead; it never solves by itself
        RunHunt x = hill("s8(b=1)", 4);
        x.band(1, 4, 0);
        x.band(1, 2, 0);
        long all = 1L << 60;
        due("never FOLLOWS", x.without(0, 1, 2), -2 * all);
        due("never WAITS", x.without(0, 1, 1), 0);
        due("never LEADS", x.without(0, 1, 4), 0);
        due("neither", x.without(0, 1, 3), -2 * all);
        due("none of these", x.without(0, 1, 7), -2 * all);
        due("BEST stays", x.best(0, 1, 10, 0, 0, 0, 0), 2 * all);
        x = hill("s8(b=0)", 6);
        x.band(1, 2, 0);
        x.band(1, 6, 1);
        // y never thinks of it; x solves in TICK 1, and must not go: it waits or leads
        due("never WAITS: it LEADS", x.without(0, 1, 1), 0);
        due("never LEADS: it WAITS", x.without(0, 1, 4), 0);
        due("neither", x.without(0, 1, 5) < 0, true);
        due("neither: not to think of it loses nothing", x.without(0, 1, 7), x.without(0, 1, 5));
        int[][] bad = {{-1, 1, 1}, {0, -1, 1}, {2, 1, 1}, {0, 2, 1}, {1, 1, 1}, {0, 1, 0}, {0, 1, 8}, {0, 1, -1}};
        for (int[] b : bad) {
            due("without " + b[0] + " " + b[1] + " " + b[2], x.without(b[0], b[1], b[2]), 1);
        }
        RunHunt none = new RunHunt();
        none.band(0, 1, 0);
        none.band(0, 1, 0);
        due("no RIDDLES", none.without(0, 1, 1), 1);
    }

    private static void waits() {
        promise = 16;
        RunHunt x = hill("s0(1=1)", 6, 6);
        x.band(1, 2, 0);
        x.band(1, 6, 1);
        x.band(1, 1, 1);
        // at RIDDLE 1, WALKS 3 and 1: to go is to lose, but in the very last TICK nobody comes to the box
        due("ten TICKS", x.waits(0, 1, 1, 10, 0), 9);
        due("four TICKS", x.waits(0, 1, 1, 4, 5), 3);
        due("one TICK", x.waits(0, 1, 1, 1, 0), 0);
        due("the slower one may follow", x.waits(0, 2, 1, 10, 0), 0);
        x.weather(2, 1);
        due("in a FOG", x.waits(0, 1, 1, 10, 0), 0);
        x.weather(2, 0);
        // y will be wrong for sure with t 4: then x goes unseen (DELAY 2)
        law(x, "s0(1=1);e8(t=4&b=1)");
        due("till y is wrong, t from 0 on", x.waits(0, 1, 1, 10, 0) > 3, true);
        int[][] bad = {{-1, 1, 0, 1, 0}, {0, -1, 0, 1, 0}, {3, 1, 0, 1, 0}, {0, 3, 0, 1, 0}, {1, 1, 0, 1, 0}, {0, 1, -1, 1, 0}, {0, 1, 2, 1, 0},
            {0, 1, 0, 0, 0}, {0, 1, 0, 11, 0}, {0, 1, 0, 1, -1}, {0, 1, 0, 1, 6}};
        for (int[] b : bad) {
            due("waits " + b[0] + " " + b[1] + " " + b[2] + " " + b[3] + " " + b[4], x.waits(b[0], b[1], b[2], b[3], b[4]), -1);
        }
        RunHunt none = new RunHunt();
        none.band(0, 1, 0);
        none.band(0, 1, 0);
        due("no RIDDLES", none.waits(0, 1, 0, 1, 0), -1);
    }

    private static void order() {
        promise = 17;
        RunHunt x = new RunHunt();
        feedBytes(x, 0, 1, 2);
        due("no RIDDLES", x.order(), -1);
        due("the tape stays", x.count(3), 20);
        for (int i = 0; i < 3; i++) {
            x.riddle(0, 0, 0);
        }
        due("an ORDER", x.order(), 0);
        due("the tape is empty then", x.count(3), 0);
        due("it has not so many", x.order(), -1);
        due("twice one", order(x, 0, 1, 1), -2);
        due("the tape is empty then, too", x.count(3), 0);
        due("no such RIDDLE", order(x, 0, 1, 3), -2);
        due("no such RIDDLE", order(x, 255, 1, 2), -2);
        due("none came in", x.count(4), 1);
        due("only the first bytes count", order(x, 2, 1, 0, 0, 0, 0), 1);
        due("a like one", order(x, 2, 1, 0), 2);
        order(x, 1, 0, 2);
        due("the fifth", order(x, 1, 2, 0), 4);
        due("the sixth", order(x, 1, 2, 0), -1);
        due("the tape stays", x.count(3), 20);
        due("a sixth that is none", order(x, 1, 1, 1), -1);
    }

    private static void given() {
        promise = 18;
        RunHunt x = new RunHunt();
        for (int i = 0; i < 4; i++) {
            x.riddle(0, 0, 0);
        }
        due("no ORDERS", x.given(2, -1), -1);
        order(x, 0, 1, 2, 3);
        due("one ORDER: all meet at three places", x.given(2, -1), 3);
        due("one ORDER, three BANDS", x.given(3, -1), 9);
        due("one ORDER, five BANDS", x.given(5, -1), 30);
        due("of BAND 4", x.given(5, 4), 0);
        order(x, 0, 1, 3, 2);
        due("the first place aside: two meet at one place", x.given(2, -1), 1);
        order(x, 1, 2, 3, 0);
        // 0 and 2: never; 1 and 2: at place 2 (3)
        due("meetings", x.given(2, -1), 0);
        due("BAND 0", x.given(2, 0), 0);
        due("BAND 1", x.given(2, 1), 2);
        due("three: 0, 1, 2", x.given(3, -1), 2);
        due("three, BAND 1", x.given(3, 1), 1);
        due("three, BAND 2", x.given(3, 2), 2);
        order(x, 1, 0, 2, 3);
        order(x, 3, 2, 1, 0);
        // 4: 3 2 1 0 meets 2 at place 3 (0)
        due("two of five", x.given(2, -1), 0);
        due("the least row", x.given(2, 1), 2);
        due("three of five: 1, 3, 4", x.given(3, -1), 0);
        due("the first of three", x.given(3, 0), 1);
        due("the second of three", x.given(3, 1), 3);
        due("the third of three", x.given(3, 2), 4);
        int[][] bad = {{1, -1}, {6, -1}, {0, -1}, {2, 2}, {2, -2}, {5, 5}, {-1, 0}, {Integer.MAX_VALUE, 0}};
        for (int[] b : bad) {
            due("given " + b[0] + " " + b[1], x.given(b[0], b[1]), -1);
        }
        x.riddle(0, 0, 0);
        due("ORDERS fell", x.given(2, -1), -1);
    }

    private static void cleverest() {
        promise = 19;
        // x is quicker in thinking with the second RIDDLE only
        RunHunt x = hill("s4(r=0);s8(r=1&b=0);s2(r=1);s8(1=1)", 1, 1, 1);
        x.band(1, 1, 0);
        x.band(1, 1, 0);
        due("how many", x.cleverest(0, 1, 0) >= 2, true);
        due("above", x.cleverest(0, 1, 1) > 0, true);
        law(x, "s8(b=0);s8(r=0)");
        due("AHEAD from the second one on, the fewest", x.cleverest(0, 1, 0), 2);
        due("for sure, above", x.cleverest(0, 1, 1), 1);
        due("for sure, below", x.cleverest(0, 1, 2), 1);
        due("never AHEAD: one", x.cleverest(1, 0, 0), 1);
        due("never AHEAD: above", x.cleverest(1, 0, 1), 0);
        due("never AHEAD: below", x.cleverest(1, 0, 2), 1);
        law(x, "s8(b=0);s8(r<2)");
        due("all three", x.cleverest(0, 1, 0), 3);
        law(x, "s4(b=0&t=0);s8(b=0);s8(t=1)");
        due("half of all at one RIDDLE", x.cleverest(0, 1, 1) * 4 >= x.cleverest(0, 1, 2) * 2, true);
        due("n is of all RIDDLES", law(x, "s8(n=3&b=0)"), 1);
        due("n is of all RIDDLES", x.cleverest(0, 1, 1), 1);
        int[][] bad = {{-1, 1, 0}, {0, -1, 0}, {2, 1, 0}, {0, 2, 0}, {1, 1, 0}, {0, 1, -1}, {0, 1, 3}};
        for (int[] b : bad) {
            due("cleverest " + b[0] + " " + b[1] + " " + b[2], x.cleverest(b[0], b[1], b[2]), -1);
        }
        RunHunt none = new RunHunt();
        none.band(0, 1, 0);
        none.band(0, 1, 0);
        due("no RIDDLES", none.cleverest(0, 1, 0), -1);
    }

    private static void went() {
        promise = 20;
        RunHunt x = hill("s4(1=1)", 1, 1);
        x.band(1, 1, 0);
        x.band(1, 1, 0);
        int[][] bad = {{-1, 0, 1}, {2, 0, 1}, {0, -1, 1}, {0, 2, 1}, {0, 0, 0}, {0, 0, 11}};
        for (int[] b : bad) {
            due("went " + b[0] + " " + b[1] + " " + b[2], x.went(b[0], b[1], b[2]), -1);
        }
        due("first", x.went(0, 1, 4), 1);
        due("a lesser TICK", x.went(1, 1, 3), -1);
        due("the same TICK", x.went(1, 1, 4), 2);
        due("it went from there", x.went(0, 1, 5), -1);
        due("from another one, though less far on", x.went(0, 0, 10), 3);
        due("at 10", x.went(1, 0, 10), 4);
        due("count(5)", x.count(5), 4);
        promise = 21;
        int[][] log = {{0, 1, 4}, {1, 1, 4}, {0, 0, 10}, {1, 0, 10}};
        for (int i = 0; i < 4; i++) {
            for (int what = 0; what < 3; what++) {
                due("logged " + i + " " + what, x.logged(i, what), log[i][what]);
            }
        }
        due("logged(4, 0)", x.logged(4, 0), -1);
        due("logged(-1, 0)", x.logged(-1, 0), -1);
        due("logged(0, 3)", x.logged(0, 3), -1);
        due("logged(0, -1)", x.logged(0, -1), -1);
        due("logged(MAX, 0)", x.logged(Integer.MAX_VALUE, 0), -1);
        x.clear();
        due("logged behind clear", x.logged(0, 0), -1);
        promise = 20;
        RunHunt full = hill("s4(1=1)", 1, 1, 1, 1, 1);
        for (int b = 0; b < 5; b++) {
            full.band(1, 1, 0);
        }
        for (int i = 0; i < 25; i++) {
            due("going " + i, full.went(i / 5, i % 5, 10), i + 1);
        }
        due("each went from everywhere", full.went(0, 0, 10), -1);
    }

    private static void dueKnew(RunHunt x, int i, int eighths, int above, int below) {
        due("knew(" + i + ", " + eighths + ", 0)", x.knew(i, eighths, 0), above);
        due("knew(" + i + ", " + eighths + ", 1)", x.knew(i, eighths, 1), below);
    }

    private static void knew() {
        promise = 22;
        RunHunt x = hill("st+1(b<3);s0(1=1)", 2, 2);
        for (int i = 0; i < 4; i++) {
            x.band(1, i == 1 ? 1 : 2, 0);
        }
        x.went(0, 0, 2);
        x.went(1, 0, 2);
        x.went(2, 0, 4);
        x.went(3, 0, 4);
        x.went(0, 1, 5);
        x.went(1, 1, 7);
        x.went(2, 1, 9);
        dueKnew(x, 0, 3, 1, 1);
        // 1: t 1, s 2; seen in this TICK
        dueKnew(x, 1, 4, 1, 3);
        dueKnew(x, 1, 8, 1, 5);
        dueKnew(x, 1, 1, 2, 3);
        // 2: t 3, s 4; seen two TICKS before
        dueKnew(x, 2, 4, 1, 2);
        // 3: s 0
        dueKnew(x, 3, 4, 0, 1);
        // 0 at RIDDLE 1: nobody went from there
        dueKnew(x, 4, 4, 1, 1);
        // 1 at RIDDLE 1: came at 4, t 2, s 3; seen two TICKS before
        dueKnew(x, 5, 3, 1, 2);
        dueKnew(x, 5, 6, 1, 3);
        // 2 at RIDDLE 1: came at 5, t 3, s 4
        dueKnew(x, 6, 4, 1, 2);
        int[][] bad = {{-1, 1, 0}, {7, 1, 0}, {0, 0, 0}, {0, 9, 0}, {0, 1, -1}, {0, 1, 2}};
        for (int[] b : bad) {
            due("knew " + b[0] + " " + b[1] + " " + b[2], x.knew(b[0], b[1], b[2]), -1);
        }
        x.clear();
        x.went(0, 0, 2);
        x.went(1, 0, 5);
        x.went(3, 1, 5);
        x.went(2, 1, 10);
        // 1: three TICKS behind 0: not seen
        dueKnew(x, 1, 8, 1, 1);
        // 3: nobody went, but s 0
        dueKnew(x, 2, 8, 0, 1);
        x.clear();
        law(x, "st(1=1)");
        x.went(0, 0, 10);
        x.went(1, 0, 10);
        // t is 5 at most
        dueKnew(x, 1, 5, 1, 2);
        dueKnew(x, 0, 5, 1, 1);
        x.went(0, 1, 10);
        // t is 0 at least: gone at 10, there at 11
        dueKnew(x, 2, 1, 0, 1);
        x.clear();
        x.went(0, 1, 3);
        x.went(1, 0, 4);
        x.went(0, 0, 6);
        // the TICK of the going told ahead, from wherever it was: 3 and THE WALK 1: t 1
        dueKnew(x, 2, 3, 1, 4);
    }

    private static void seedAndDraw() {
        promise = 23;
        RunHunt x = hill("s4(1=1);e2(1=1)", 3, 4);
        due("draw without BANDS", x.draw(), -1);
        due("seed(-1)", x.seed(-1), false);
        due("seed(65536)", x.seed(65536), false);
        due("X stays", x.count(6), 1);
        due("seed(65535)", x.seed(65535), true);
        due("X", x.count(6), 65535);
        due("seed(0)", x.seed(0), true);
        due("X", x.count(6), 0);
        promise = 24;
        RunHunt none = new RunHunt();
        none.band(0, 1, 0);
        due("draw without RIDDLES", none.draw(), -1);
        x.band(1, 2, 0);
        x.band(1, 3, 0);
        x.seed(5);
        int dice = 5;
        int[] at = {0, 0}, doing = {0, 0}, box = {0, 0};
        int[][] steps = {{2, 2}, {1, 2}};
        int goings = 0;
        due("draw", x.draw() >= 0, true);
        // doing: 0 thinks, above walks, below ASTRAY
        for (int tick = 1; tick <= 10; tick++) {
            for (int b = 0; b < 2; b++) {
                if (box[b] > 0) {
                    continue;
                }
                if (doing[b] > 0) {
                    doing[b]--;
                    at[b] += doing[b] == 0 ? 1 : 0;
                    box[b] = at[b] == 2 ? tick : 0;
                } else if (doing[b] < 0) {
                    doing[b]++;
                } else {
                    dice = (25173 * dice + 13849) % 65536;
                    if (dice % 8 < 4) {
                        due("LOG " + goings + " BAND", x.logged(goings, 0), b);
                        due("LOG " + goings + " RIDDLE", x.logged(goings, 1), at[b]);
                        due("LOG " + goings + " TICK", x.logged(goings, 2), tick);
                        goings++;
                        doing[b] = steps[b][at[b]];
                    } else if (dice % 8 < 6) {
                        doing[b] = -2;
                    }
                }
            }
        }
        due("goings", x.count(5), goings);
        due("X", x.count(6), dice);
        due("had(0)", x.had(0), box[0]);
        due("had(1)", x.had(1), box[1]);
        x.draw();
        due("X goes on from hunt to hunt", x.count(6) != dice, true);
        int behind = x.count(6);
        x.seed(dice);
        x.draw();
        due("the same hunt again", x.count(6), behind);
    }

    private static void drawFollowing() {
        promise = 24;
        RunHunt x = hill("s8(b=0&t=1);s8(b=2&t=3)", 4);
        x.band(1, 2, 0);
        x.band(1, 1, 1);
        x.band(1, 4, 0);
        x.band(1, 4, 1);
        // 0 solves in TICK 2 and walks in 3 and 4; 1 and 3 go in TICK 3, this is the first TICK of their WALKS; 2 solves in 4
        due("draw", x.draw(), 4);
        int[][] log = {{0, 0, 2}, {1, 0, 3}, {3, 0, 3}, {2, 0, 4}};
        for (int i = 0; i < 4; i++) {
            for (int what = 0; what < 3; what++) {
                due("LOG " + i + " " + what, x.logged(i, what), log[i][what]);
            }
        }
        due("had(0)", x.had(0), 4);
        due("had(1)", x.had(1), 6);
        due("had(2)", x.had(2), 5);
        due("had(3)", x.had(3), 3);
        int dice = x.count(6);
        int thinks = 2 + 2 + 4 + 2, seed = 1;
        for (int k = 0; k < thinks; k++) {
            seed = (25173 * seed + 13849) % 65536;
        }
        due("who follows draws nothing", dice, seed);
        x.weather(2, 1);
        due("in a FOG nobody follows", x.draw(), 2);
        due("had(1)", x.had(1), 0);
        x.weather(2, 0);
        // behind a follower one goes, too
        x = hill("s8(b=0)", 4, 4);
        x.band(1, 4, 0);
        x.band(1, 4, 1);
        x.band(1, 9, 0);
        due("draw", x.draw(), 2);
        due("had(0)", x.had(0), 4);
        due("had(1): a TICK behind in going, not in coming", x.had(1), 4);
        x = hill("s8(b=0&t=0)", 1, 4);
        x.band(1, 9, 0);
        x.band(1, 1, 1);
        x.band(1, 1, 1);
        // 1 and 2 come to RIDDLE 1 together with 0, which goes at once
        due("draw", x.draw(), 3);
        due("had(2)", x.had(2), 7);
        law(x, "s8(b=0&r=0);s8(b=0&t=3)");
        x.draw();
        due("a solving in the last TICKS is a going", x.logged(x.count(5) - 1, 2) <= 10, true);
        // solved in TICK 10: in the LOG, though no WALK begins
        x = hill("s8(t=5&r=0);s8(r=1&t=1)", 2, 4);
        x.band(1, 1, 0);
        x.draw();
        due("goings", x.count(5), 2);
        due("at 10", x.logged(1, 2), 10);
        due("had", x.had(0), 0);
    }

    private static void hadAndClear() {
        promise = 25;
        RunHunt x = hill("s8(b=0)", 1);
        x.band(1, 1, 0);
        x.band(1, 1, 0);
        due("none was DRAWN", x.had(0), -1);
        x.went(0, 0, 1);
        due("a LOG is no hunt", x.had(0), -1);
        due("draw", x.draw(), 1);
        due("had(0)", x.had(0), 2);
        due("it had it not", x.had(1), 0);
        due("had(2)", x.had(2), -1);
        due("had(-1)", x.had(-1), -1);
        x.went(1, 0, 9);
        due("still", x.had(0), 2);
        law(x, "s0(1=1)");
        x.weather(1, 1);
        due("still", x.had(0), 2);
        due("draw", x.draw(), 0);
        due("the hunt DRAWN last", x.had(0), 0);
        promise = 26;
        law(x, "s8(1=1)");
        x.draw();
        due("clear", x.clear(), 2);
        due("the LOG fell", x.count(5), 0);
        due("had", x.had(0), -1);
        due("clear again", x.clear(), 0);
        due("went", x.went(0, 0, 1), 1);
    }

    private static void check() {
        promise = 27;
        RunHunt x = hill("s8(1=1)", 1, 1);
        x.band(1, 1, 0);
        x.band(1, 1, 0);
        due("an empty one", check(x, 0), -1);
        due("told, but not so", check(x, 1, 0, 0, 1), 0);
        x.went(0, 0, 2);
        x.went(1, 1, 5);
        due("right", check(x, 2, 0, 0, 2, 1, 1, 5), -1);
        due("the tape is empty then", x.count(3), 0);
        due("a BAND", check(x, 2, 1, 0, 2, 1, 1, 5), 0);
        due("a RIDDLE", check(x, 2, 0, 1, 2, 1, 1, 5), 1);
        due("a TICK", check(x, 2, 0, 0, 3, 1, 1, 5), 2);
        due("the last one", check(x, 2, 0, 0, 2, 1, 1, 6), 5);
        due("some are lacking", check(x, 1, 0, 0, 2), 3);
        due("all are lacking", check(x, 0), 0);
        due("wrong ahead of lacking", check(x, 1, 0, 5, 2), 1);
        due("one too many", check(x, 3, 0, 0, 2, 1, 1, 5, 0, 0, 0), 6);
        due("below 0", check(x, 2, 0, 0, 2, 1, -1, 5), 4);
        due("more is told than asked for", check(x, 2, 0, 0, 2, 1, 1, 5, 9, 9, 9), -1);
        x.feed(0, 0, 2, 1, 1);
        due("it has not so many", x.check(2), -2);
        due("the tape stays", x.count(3), 20);
        due("check(-1)", x.check(-1), -2);
        due("check(MIN)", x.check(Integer.MIN_VALUE), -2);
        due("check(MAX)", x.check(Integer.MAX_VALUE), -2);
        due("check of 2^30", x.check(1 << 30), -2);
        due("the tape stays", x.count(3), 20);
        due("check(1)", x.check(1), 3);
        due("check(0) empties, too", x.feed(1, 1, 1, 1, 1), 20);
        x.check(0);
        due("count(3)", x.count(3), 0);
    }

    private static void count() {
        promise = 28;
        RunHunt x = hill("s8(1=1);e1(1=1);e2(1=1)", 1, 1);
        x.band(1, 1, 0);
        x.band(1, 1, 0);
        x.band(1, 1, 0);
        order(x, 0, 1);
        order(x, 1, 0);
        order(x, 1, 0);
        order(x, 1, 0);
        for (int i = 0; i < 5; i++) {
            x.went(i / 2, i % 2, 1);
        }
        x.seed(77);
        x.weather(4, 1);
        x.feed(0, 0, 0, 0, 0);
        x.feed(0, 0, 0, 0, 0);
        dueCounts("all", x, 2, 3, 3, 40, 4, 5, 77, 4, 1);
        due("count(9)", x.count(9), -1);
        due("count(-1)", x.count(-1), -1);
        due("count(MIN)", x.count(Integer.MIN_VALUE), -1);
    }
}
