import java.util.NoSuchElementException;

/** For each promise of the document: ordinary calls, the edges that it names, and wrong ones. */
public final class PromiseTest {
    private static final int LEAST = Integer.MIN_VALUE;
    private static final int MOST = Integer.MAX_VALUE;
    private static final int ALL = 1000000000;
    /** Cat 0 purrs or leaves, cat 1 treads unless there is a reason to purr; accused 1 has milk and a dog. */
    private static final String PLAIN = "bh0;cp1t0u0l1;cp0t1u0l0;ag50;ag20k1d1";

    private static int wrong = 0;
    private static int promise = 0;

    private static void due(String call, long got, long want) {
        if (got != want) {
            wrong++;
            System.out.println("promise " + promise + ": " + call + " answered " + got + ", due is " + want);
        }
    }

    private static void due(String call, boolean got, boolean want) {
        due(call, got ? 1 : 0, want ? 1 : 0);
    }

    private static void none(String call, long got) {
        due(call, got, -1);
    }

    private static int feed(CatCourt x, String text) {
        int length = x.count(3);
        for (int i = 0; i < text.length(); i += 20) {
            int[] v = new int[5];
            for (int j = 0; j < 20 && i + j < text.length(); j++) {
                v[j / 4] |= text.charAt(i + j) << 24 - 8 * (j % 4);
            }
            length = x.feed(v[0], v[1], v[2], v[3], v[4]);
        }
        return length;
    }

    private static int fault(int sort, String text) {
        CatCourt x = new CatCourt();
        feed(x, text);
        return x.fault(sort);
    }

    private static CatCourt court(String text) {
        CatCourt x = new CatCourt();
        tellCourt(x, text);
        return x;
    }

    private static void tellCourt(CatCourt x, String text) {
        x.end(0);
        feed(x, text);
        if (x.text(0) < 1) {
            due("text(0) of " + text, -1, 1);
        }
    }

    private static int tellLaw(CatCourt x, String text) {
        x.end(0);
        feed(x, text);
        int law = x.text(1);
        if (law < 0) {
            due("text(1) of " + text, -1, 0);
        }
        return law;
    }

    private static CatCourt under(String law, String court) {
        CatCourt x = court(court);
        x.law(tellLaw(x, law));
        return x;
    }

    private static boolean throwsNoSuch(CatCourt x, int cat, int what) {
        try {
            x.cat(cat, what);
            return false;
        } catch (NoSuchElementException e) {
            return true;
        }
    }

    private static String times(int n, String text, String between) {
        StringBuilder s = new StringBuilder();
        for (int i = 0; i < n; i++) {
            s.append(i == 0 ? "" : between).append(text);
        }
        return s.toString();
    }

    // 1: a new object
    private static void newObject() {
        CatCourt x = new CatCourt();
        int[] counts = {0, 0, 0, 0, -1, 0, 0, 0, 0};
        for (int i = 0; i < counts.length; i++) {
            due("count(" + i + ") of a new object", x.count(i), counts[i]);
        }
        none("bench(0)", x.bench(0));
        none("image()", x.image());
        none("held(1, 0, 0)", x.held(1, 0, 0));
        due("cat(0, 0) throws", throwsNoSuch(x, 0, 0), true);
        due("NONE", CatCourt.NONE, -1);
        due("HIDDEN", CatCourt.HIDDEN, -1000000);
    }

    // 2: feed
    private static void feeding() {
        CatCourt x = new CatCourt();
        due("feed of zeros", x.feed(0, 0, 0, 0, 0), 0);
        due("feed, zeros left out", x.feed('c' << 24, ';', 'a' << 8, 0, 0), 3);
        due("fault(0) of c;a", x.fault(0), -1);
        due("feed of bytes above 127", x.feed(-1, 0, 0, 0, 0), 7);
        due("fault(0) at 255", x.fault(0), 3);
        x.end(0);
        due("the highest byte comes first", x.feed('c' << 24 | ';' << 16 | 'a' << 8, 0, 0, 0, 0), 3);
        due("fault(0) of c;a again", x.fault(0), -1);
        x.end(0);
        for (int i = 1; i <= 12; i++) {
            due("feed up to 240", x.feed(-1, -1, -1, -1, -1), 20 * i);
        }
        none("feed beyond 240", x.feed(0, 0, 0, 0, 1));
        due("count(3) after a refused feed", x.count(3), 240);
        due("feed of nothing at 240", x.feed(0, 0, 0, 0, 0), 240);
        x.end(239);
        none("two bytes at 239", x.feed(1, 0, 0, 0, 1));
        due("count(3) stays 239", x.count(3), 239);
        due("one byte at 239", x.feed(0, 0, 1, 0, 0), 240);
        int[][] each = {{-1, 0, 0, 0, 0}, {0, -1, 0, 0, 0}, {0, 0, -1, 0, 0}, {0, 0, 0, -1, 0}, {0, 0, 0, 0, -1}};
        x.end(237);
        for (int[] v : each) {
            none("four bytes at 237", x.feed(v[0], v[1], v[2], v[3], v[4]));
        }
        x.end(0);
        for (int i = 0; i < 5; i++) {
            due("four bytes", x.feed(each[i][0], each[i][1], each[i][2], each[i][3], each[i][4]), 4 * i + 4);
        }
    }

    // 3: end
    private static void ending() {
        CatCourt x = new CatCourt();
        feed(x, "c;ax");
        due("end(5)", x.end(5), false);
        due("end(-1)", x.end(-1), false);
        due("end(MIN)", x.end(LEAST), false);
        due("count(3)", x.count(3), 4);
        due("end(4)", x.end(4), true);
        due("end(3)", x.end(3), true);
        due("fault(0)", x.fault(0), -1);
        due("end(4) behind the end", x.end(4), false);
        due("end(0)", x.end(0), true);
        due("count(3)", x.count(3), 0);
        due("end(0) of nothing", x.end(0), true);
    }

    // 4: fault
    private static void faults() {
        due("fault(2)", new CatCourt().fault(2), -2);
        due("fault(-1)", new CatCourt().fault(-1), -2);
        String[] good = {"c;a", " c ; a ", "a;b;c", "c p 1 t09;ag 7", "bm27n99;cc99f9;ag99k1d1",
            times(8, "c", ";") + ";" + times(6, "a", ";") + ";b"};
        for (String text : good) {
            none("fault of " + text, fault(0, text));
        }
        Object[][] bad = {{"", 0}, {"   ", 3}, {"c", 1}, {"c;", 2}, {"c;a;", 4}, {"c;a; ", 5}, {";c;a", 0}, {"c;;a", 2},
            {"c;b", 3}, {"a;b", 3}, {"x", 0}, {"C;a", 0}, {"cp;a", 2}, {"cp", 2}, {"cp1p2;a", 3}, {"cg1;a", 1},
            {"bf1", 1}, {"ap1", 1}, {"bp10;c;a", 3}, {"bp100;c;a", 4}, {"bp 1 0;c;a", 5}, {"bh10", 3}, {"bm28", 3},
            {"bm99", 3}, {"bm271", 4}, {"bn100", 4}, {"ak2", 2}, {"ak23", 3}, {"ak234", 4}, {"ak01;c", -1},
            {"ak001;c", 4}, {"ad9", 2}, {"ag100", 4}, {"cc999", 4}, {"b;c;b;a", 4}, {"c a", 2}, {"c1", 1},
            {times(9, "c", ";"), 16}, {times(7, "a", ";"), 12}, {"c;a" + (char) 233, 3}, {"c\t;a", 1},
            {times(8, "c", ";") + ";" + times(6, "a", ";") + ";b;", 30}};
        for (Object[] b : bad) {
            due("fault of '" + b[0] + "'", fault(0, (String) b[0]), (Integer) b[1]);
        }
        String[] goodLaws = {"y:0", " y : 9999 ", "y:d=1?2", "y:!d=1?2;y:3", "y:(d=1|w<2)&!(g>k)?h-f*m/c",
            "y:[[[[[[d]]]]]]", "y:!!!!!!d=1?1", "y:((((((d=1))))))?1", "y:[d]+[w]=2&[1]>0?1", "y:!(!(!(d=1)))?1",
            "y:d+1=2*w-3?[4]", "y:!d=[w]&[[[[[[d]]]]]]=1?1"};
        for (String text : goodLaws) {
            none("fault of law " + text, fault(1, text));
        }
        Object[][] badLaws = {{"", 0}, {" ", 1}, {"y", 1}, {"y:", 2}, {"x:1", 0}, {"y1", 1}, {"y:1;", 4}, {"y:1;;", 4},
            {"y:1?2", 3}, {"y:d=1", 5}, {"y:d=1;", 5}, {"y:d=1?", 6}, {"y:d=1=1?2", 5}, {"y:d&1", 3}, {"y:(1)", 4},
            {"y:(d=1)", 7}, {"y:(d=1)+1", 7}, {"y:(d=1)=1?1", 7}, {"y:!1?2", 4}, {"y:!(d=1?", 7}, {"y:-1", 2},
            {"y:1+", 4}, {"y:1+-1", 4}, {"y:12345", 6}, {"y:00001", 6}, {"y:1 2", 4}, {"y:1d", 3}, {"y:a", 2},
            {"y:[1", 4}, {"y:[1)", 4}, {"y:[d=1]", 4}, {"y:[(d=1)]", 3}, {"y:d=(1)", 4}, {"y:d=1?(2)", 6},
            {"y:d=1?2?3", 7}, {"y:d=1?2=3", 7}, {"y:d=1&?", 6}, {"y:d=1||w=1?1", 6}, {"y:[[[[[[[d]]]]]]]", 8},
            {"y:!!!!!!!d=1?1", 8}, {"y:(((((((d=1", 8}, {"y:!(!(!([[d", 8}, {"y:!d=[[[[[[w", 10}, {"y:d<=1?1", 4}};
        for (Object[] b : badLaws) {
            due("fault of law '" + b[0] + "'", fault(1, (String) b[0]), (Integer) b[1]);
        }
    }

    // 5: text
    private static void texts() {
        CatCourt x = new CatCourt();
        none("text(0) of nothing", x.text(0));
        feed(x, "c;c;a");
        none("text(2)", x.text(2));
        none("text(1) of a court", x.text(1));
        due("the tape stays", x.count(3), 5);
        due("text(0)", x.text(0), 2);
        due("the tape is empty", x.count(3), 0);
        for (int i = 0; i < 4; i++) {
            feed(x, "y:" + i);
            due("text(1)", x.text(1), i);
        }
        feed(x, "y:4");
        none("a fifth law", x.text(1));
        due("its text stays", x.count(3), 3);
        due("four laws", x.count(2), 4);
        x.end(0);
        x.law(2);
        x.see(0, 0, 0);
        x.fish(0);
        x.hear(1, 0, 1);
        x.image();
        feed(x, "c;");
        none("text(0) with a fault", x.text(0));
        due("the court stays", x.count(0), 2);
        x.end(0);
        feed(x, "c;a;a");
        due("another court", x.text(0), 1);
        int[] counts = {1, 2, 4, 0, 2, 1, 0, 0, 0};
        for (int i = 0; i < counts.length; i++) {
            due("count(" + i + ") of another court", x.count(i), counts[i]);
        }
        none("no image of this court", x.back());
        none("nothing to be undone", x.undo());
        due("no fish of the other court", x.cat(0, 4), 0);
    }

    // 6 to 8: what the text told
    private static void told() {
        CatCourt x = court("c;a");
        int[] usual = {3, 2, 1, 0, 3, 4, 0};
        promise = 6;
        for (int i = 0; i < 7; i++) {
            due("bench(" + i + ")", x.bench(i), usual[i]);
        }
        CatCourt y = court("bp9t8u7l6n55h3m27;ct2l3c88f7;cu4p5;ad1;ak1g0");
        int[] bench = {9, 8, 7, 6, 55, 3, 27};
        for (int i = 0; i < 7; i++) {
            due("bench(" + i + ")", y.bench(i), bench[i]);
        }
        none("bench(7)", y.bench(7));
        none("bench(-1)", y.bench(-1));
        none("bench without a court", new CatCourt().bench(4));
        promise = 7;
        int[][] cats = {{1, 2, 1, 3, 7, 88, 0}, {5, 1, 4, 1, 0, 0, 0}};
        for (int c = 0; c < 2; c++) {
            for (int i = 0; i < 7; i++) {
                due("cat(" + c + ", " + i + ")", y.cat(c, i), cats[c][i]);
            }
        }
        y.retire(1, true);
        due("cat(1, 6)", y.cat(1, 6), 1);
        int[][] wrongCats = {{2, 0}, {-1, 0}, {0, 7}, {0, -1}, {MOST, MOST}, {LEAST, 0}, {0, LEAST}};
        for (int[] w : wrongCats) {
            due("cat(" + w[0] + ", " + w[1] + ") throws", throwsNoSuch(y, w[0], w[1]), true);
        }
        promise = 8;
        int[][] accused = {{50, 0, 1}, {0, 1, 0}};
        for (int a = 0; a < 2; a++) {
            for (int i = 0; i < 3; i++) {
                due("accused(" + a + ", " + i + ")", y.accused(a, i), accused[a][i]);
            }
        }
        none("accused(2, 0)", y.accused(2, 0));
        none("accused(-1, 0)", y.accused(-1, 0));
        none("accused(0, 3)", y.accused(0, 3));
        none("accused(0, -1)", y.accused(0, -1));
    }

    // 9: law
    private static void lawThatHolds() {
        CatCourt x = new CatCourt();
        due("law(NONE)", x.law(-1), true);
        due("law(0)", x.law(0), false);
        tellLaw(x, "y:7");
        tellLaw(x, "y:8");
        due("law(1)", x.law(1), true);
        due("law(1) again", x.law(1), true);
        due("law(2)", x.law(2), false);
        due("law(-2)", x.law(-2), false);
        due("the law that holds", x.count(4), 1);
        tellCourt(x, "c;a");
        due("mood by law 1", x.mood(0, 0, 0, 0), 8);
        x.law(0);
        due("mood by law 0", x.mood(0, 0, 0, 0), 7);
        x.law(-1);
        due("mood by none", x.mood(0, 0, 0, 0), 1);
    }

    // a law that is chosen, or what a trial varied, is seen by all that comes then
    private static void afterOthers() {
        CatCourt x = court("bh6m5;cp1t0u0l1;ak0;ak0");
        tellLaw(x, "y:d=0?1;y:d=3?m");
        tellLaw(x, "y:d=0?1");
        for (int i = 0; i < 12; i++) {
            x.law(1);
            due("held by law 1", x.held(1, 0, 0), ALL);
            x.law(0);
            vary(x);
            int got = i == 0 ? x.held(1, 0, 0) : i == 1 ? x.right(1, 0) : i == 2 ? x.mean(1, 0, 0)
                : i == 3 ? x.quiet(1, 0, 0) : i == 4 ? x.ask(1, 0, 1) : i == 5 ? x.bar(1, 0, 1)
                : i == 6 ? x.brothers(1, 0, 1) : i == 7 ? x.free(1) : i == 8 ? x.odds(0, 0, 0, 0)
                : i == 9 ? x.noisy(0, 1) : i == 10 ? x.mood(0, 0, 3, 0) : x.alike(0, 0, 0, 1);
            int[] want = {166666666, 83333333 + 416666667, 499, 833333334, 500000000, 500000000, 722222222, 694444446,
                166666666, 0, 5, -1};
            due("by law 0, call " + i, got, want[i]);
        }
    }

    private static void vary(CatCourt x) {
        x.moonlit(1, 0, 0);
        x.appeals(1, 0, 3);
        x.mercy(1, 0, 0, 0);
        x.rests(0, -1);
        x.drank(-1);
        x.fits(0);
    }

    // 10: mood
    private static void moods() {
        CatCourt x = court("bh9;cp2t3u4l5f6;ak1d1;a");
        int[][] guilty = {{5, 9, 4, 16}, {4, 9, 4, 8}};
        int[][] not = {{3, 9, 4, 16}, {2, 9, 4, 8}};
        for (int a = 0; a < 2; a++) {
            for (int d = 0; d < 4; d++) {
                due("mood(0, " + a + ", " + d + ", 1)", x.mood(0, a, d, 1), guilty[a][d]);
                due("mood(0, " + a + ", " + d + ", 0)", x.mood(0, a, d, 0), not[a][d]);
            }
        }
        int[][] bad = {{1, 0, 0, 0}, {-1, 0, 0, 0}, {0, 2, 0, 0}, {0, -1, 0, 0}, {0, 0, 4, 0}, {0, 0, -1, 0},
            {0, 0, 0, 2}, {0, 0, 0, -1}};
        for (int[] b : bad) {
            none("mood of wrong ones", x.mood(b[0], b[1], b[2], b[3]));
            promise = 11;
            none("odds of wrong ones", x.odds(b[0], b[1], b[2], b[3]));
            promise = 10;
        }
        String where = "bh7m13;cp2t3u4l5f6c42;ak1;ad1";
        Object[][] laws = {{"y:d", 2}, {"y:w", 4}, {"y:g", 1}, {"y:k", 1}, {"y:h", 7}, {"y:f", 6}, {"y:m", 13},
            {"y:c", 42}, {"y:100", 99}, {"y:0-1", 0}, {"y:d=3?9", 0}, {"y:d=2?9;y:8", 9}, {"y:d<2?9;y:8", 8},
            {"y:7/2", 3}, {"y:20-7/2*2", 14}, {"y:[0-7]/2+9", 6}, {"y:7/0+5", 5}, {"y:8-3-2", 3}, {"y:64/4/2", 8},
            {"y:2+3*4", 14}, {"y:[2+3]*4", 20}, {"y:9999*9999-9999*9999+5", 5},
            {"y:[9999*9999+9]/[9999*9]", 11}, {"y:9999*9999/9999-90", 10},
            {"y:[0-9999*9999-7]+9999*100+103", 3}, {"y:0=0&1=0|0=0?6", 6}, {"y:0=0|1=0&1=0?6", 6},
            {"y:(0=0|0=0)&1=0?6", 0}, {"y:!1=0?6", 6}, {"y:!1=1?6", 0}, {"y:!1=0&1=0?6", 0}, {"y:!(1=0&1=0)?6", 6}, {"y:!!1=1?6", 6},
            {"y:2>1?6", 6}, {"y:1>1?6", 0}, {"y:1<1?6", 0}, {"y:1>2?1;y:1>3?2;y:2>1?3;y:4", 3}, {"y:0012+00", 12}};
        for (Object[] l : laws) {
            due("mood by " + l[0], under((String) l[0], where).mood(0, 0, 2, 1), (Integer) l[1]);
        }
        due("a dog, beyond 99", under("y:500", where).mood(0, 1, 3, 0), 198);
        due("a dog, another deed", under("y:500", where).mood(0, 1, 2, 0), 99);
    }

    // 11: odds
    private static void oddsOfDeeds() {
        CatCourt x = court(PLAIN);
        int[] guilty = {750000000, 0, 0, 250000000};
        int[] other = {666666666, 333333334, 0, 0};
        for (int d = 0; d < 4; d++) {
            due("odds(0, 0, " + d + ", 1)", x.odds(0, 0, d, 1), guilty[d]);
            due("odds(1, 0, " + d + ", 1)", x.odds(1, 0, d, 1), other[d]);
            due("odds(1, 0, " + d + ", 0)", x.odds(1, 0, d, 0), d == 1 ? ALL : 0);
        }
        CatCourt y = court("bh0;cp0t0u0l0;ag50");
        for (int d = 0; d < 4; d++) {
            due("odds with no mood, " + d, y.odds(0, 0, d, 0), d == 3 ? ALL : 0);
        }
    }

    // 12: held
    private static void holding() {
        CatCourt x = court(PLAIN);
        due("held(1, 0, 1)", x.held(1, 0, 1), 750000000);
        due("held(1, 0, 0)", x.held(1, 0, 0), 500000000);
        due("held(2, 0, 1)", x.held(2, 0, 1), 666666666);
        due("held(2, 0, 0)", x.held(2, 0, 0), 0);
        due("held(3, 0, 1)", x.held(3, 0, 1), 916666666);
        due("held, nothing needed", court("bn0;c;a").held(1, 0, 0), ALL);
        due("held, too much needed", court("bn99;c;a").held(1, 0, 0), 0);
        due("held by eight with all points", court("bp9t9u9l9n72;" + times(8, "c", ";") + ";a").held(255, 0, 1), ALL);
        due("held by eight, one more", court("bp9t9u9l9n73;" + times(8, "c", ";") + ";a").held(255, 0, 1), 0);
        x.retire(1, true);
        int[][] bad = {{0, 0, 0}, {2, 0, 0}, {3, 0, 0}, {4, 0, 0}, {-1, 0, 0}, {LEAST, 0, 0}, {256, 0, 0}, {1, 2, 0},
            {1, -1, 0}};
        for (int[] b : bad) {
            promise = 12;
            none("held of wrong ones", x.held(b[0], b[1], b[2]));
            promise = 13;
            none("right of wrong ones", x.right(b[0], b[1]));
            promise = 19;
            none("hear of wrong ones", x.hear(b[0], b[1], 1));
            promise = 25;
            none("mercy of wrong ones", x.mercy(b[0], b[1], 100, 0));
            promise = 26;
            none("appeals of wrong ones", x.appeals(b[0], b[1], 0));
            promise = 31;
            none("mean of wrong ones", x.mean(b[0], b[1], 0));
            promise = 33;
            none("quiet of wrong ones", x.quiet(b[0], b[1], 0));
            promise = 34;
            none("bar of wrong ones", x.bar(b[0], b[1], 0));
            promise = 35;
            none("moonlit of wrong ones", x.moonlit(b[0], b[1], 0));
            promise = 36;
            none("brothers of wrong ones", x.brothers(b[0], b[1], b[1] == 0 ? 1 : 0));
        }
        promise = 12;
        none("held(1, 0, 2)", x.held(1, 0, 2));
        none("held(1, 0, -1)", x.held(1, 0, -1));
        promise = 31;
        none("mean(1, 0, 2)", x.mean(1, 0, 2));
        promise = 33;
        none("quiet(1, 0, 2)", x.quiet(1, 0, 2));
    }

    // 13: right
    private static void rightness() {
        CatCourt x = court(PLAIN);
        due("right(1, 0)", x.right(1, 0), 625000000);
        due("right(3, 0)", x.right(3, 0), 458333333 + 250000000);
        // of accused 1: 20 by 100 of 666666666, cut, and 80 by 100 of 500000000
        due("right(1, 1)", x.right(1, 1), 133333333 + 400000000);
    }

    // 14 to 18: acts
    private static void acts() {
        CatCourt x = court("bm20;cf7;c;a;ak1");
        promise = 14;
        due("fish(0)", x.fish(0), 8);
        due("fish(0)", x.fish(0), 9);
        none("fish(0) of nine", x.fish(0));
        none("fish(2)", x.fish(2));
        none("fish(-1)", x.fish(-1));
        due("acts", x.count(8), 2);
        x.retire(1, true);
        due("fish of one that is retired", x.fish(1), 1);
        promise = 15;
        none("nights(0)", x.nights(0));
        none("nights(29)", x.nights(29));
        none("nights(-3)", x.nights(-3));
        none("nights without a court", new CatCourt().nights(1));
        due("nights(3)", x.nights(3), 23);
        due("fish of cat 0", x.cat(0, 4), 6);
        due("fish of cat 1", x.cat(1, 4), 0);
        due("nights(5)", x.nights(5), 0);
        due("nights(28)", x.nights(28), 0);
        due("fish of cat 0", x.cat(0, 4), 0);
        promise = 16;
        due("heat(4), as it is", x.heat(4), false);
        due("heat(0)", x.heat(0), true);
        due("bench(5)", x.bench(5), 0);
        due("heat(9)", x.heat(9), true);
        due("heat(10)", x.heat(10), false);
        due("heat(-1)", x.heat(-1), false);
        due("bench(5)", x.bench(5), 9);
        due("heat without a court", new CatCourt().heat(0), false);
        promise = 17;
        due("milk(0, false), as it is", x.milk(0, false), false);
        due("milk(0, true)", x.milk(0, true), true);
        due("milk(0, true) again", x.milk(0, true), false);
        due("milk(1, false)", x.milk(1, false), true);
        due("milk(2, true)", x.milk(2, true), false);
        due("milk(-1, true)", x.milk(-1, true), false);
        due("accused(0, 1)", x.accused(0, 1), 1);
        due("accused(1, 1)", x.accused(1, 1), 0);
        promise = 18;
        due("retire(1, true) again", x.retire(1, true), false);
        due("retire(0, false), as it is", x.retire(0, false), false);
        due("retire(0, true)", x.retire(0, true), true);
        due("none is left", x.count(5), 0);
        due("retire(1, false)", x.retire(1, false), true);
        due("cat(1, 6)", x.cat(1, 6), 0);
        due("retire(2, true)", x.retire(2, true), false);
        due("retire(-1, true)", x.retire(-1, true), false);
        due("acts", x.count(8), 13);
    }

    // 19: hear
    private static void hearing() {
        // from seed 0, x is the number that is added, at first
        long first = (1442695040888963407L >>> 33) % 100;
        long next = 1442695040888963407L * 6364136223846793005L + 1442695040888963407L;
        long second = (next >>> 33) % 1000;
        CatCourt x = court("bp9t5u2l0n9h0m0;cp0t0u0l0;ag" + first);
        due("a draw that is not below guilt", x.hear(1, 0, 0), 0);
        due("it leaves", x.log(0, 2), 3);
        CatCourt y = court("bp9t5u2l0n9h0m0;cp0t0u0l0;ag" + (first + 1));
        due("a draw below guilt: it purrs", y.hear(1, 0, 0), 1);
        due("it purrs", y.log(0, 2), 0);
        // it treads by as many of 99 as make the draw just below its odds, or just not
        int below = 1;
        while (1000 * below / 99 <= second) {
            below++;
        }
        CatCourt z = under("y:d=1?" + below + ";y:d=3?" + (99 - below), "bp0t1u0l0n1;c;ag0");
        due("a draw below the odds", z.hear(1, 0, 0), 1);
        due("it treads", z.log(0, 2), 1);
        CatCourt o = under("y:d=1?" + (below - 1) + ";y:d=3?" + (100 - below), "bp0t1u0l0n1;c;ag0");
        due("a draw not below the odds", o.hear(1, 0, 0), 0);
        due("it leaves", o.log(0, 2), 3);
        CatCourt w = court("bn4;cc98;cp0t1u0l0;cp0t0u9l0;ag0;ag99");
        w.retire(0, true);
        int verdict = w.hear(6, 1, 12345);
        int points = w.bench(w.log(0, 2)) + w.bench(w.log(1, 2));
        due("the verdict by points", verdict, points >= 4 ? 1 : 0);
        due("cats by numbers: the later one is the latest", w.log(0, 0), 2);
        due("the one ahead", w.log(1, 0), 1);
        due("on whom", w.log(1, 1), 1);
        due("one case more", w.cat(1, 5), 1);
        due("none more for who was not asked", w.cat(0, 5), 98);
        w.retire(0, false);
        w.hear(1, 0, 1);
        w.hear(1, 0, 2);
        due("99 cases at most", w.cat(0, 5), 99);
        // the seed alone decides: some seeds hold, others do not, and each does the same again
        CatCourt s = court("bn3;cp1t1u1l1;ag50");
        int held = 0;
        for (int seed = -20; seed < 20; seed++) {
            int one = s.hear(1, 0, seed * 1000003L);
            s.undo();
            due("the same seed again", s.hear(1, 0, seed * 1000003L), one);
            s.undo();
            held += one;
        }
        due("some hold, some do not", held > 0 && held < 40, true);
        // by c, the odds are as the case began
        CatCourt v = under("y:c=0&d=0?1;y:c>0&d=1?1", "bp1t0u0l0n2;c;c;ag50");
        due("all purr in the first case", v.hear(3, 0, 77), 1);
        due("all tread in the second", v.hear(3, 0, 77), 0);
        due("treads", v.log(0, 2), 1);
        // three deeds with the same odds together are 999999999 and more: no cat leaves
        CatCourt u = under("y:d<3?1", "bp0t0u0l1n1;c;ag0");
        int left = 0;
        for (int seed = 0; seed < 400; seed++) {
            left += u.hear(1, 0, seed * 7919L);
        }
        due("it never leaves with odds of 0", left, 0);
    }

    // 20: undo
    private static void undoing() {
        CatCourt x = court("cf1;c;a;a");
        none("undo()", x.undo());
        none("undo without a court", new CatCourt().undo());
        x.fish(0);
        x.nights(2);
        x.heat(7);
        x.milk(1, true);
        x.retire(1, true);
        x.hear(1, 0, 3);
        due("undo()", x.undo(), 5);
        due("log", x.count(6), 0);
        due("cases", x.cat(0, 5), 0);
        due("undo()", x.undo(), 4);
        due("cat(1, 6)", x.cat(1, 6), 0);
        due("undo()", x.undo(), 3);
        due("accused(1, 1)", x.accused(1, 1), 0);
        due("undo()", x.undo(), 2);
        due("bench(5)", x.bench(5), 4);
        due("undo()", x.undo(), 1);
        due("bench(6)", x.bench(6), 0);
        due("cat(0, 4)", x.cat(0, 4), 2);
        due("undo()", x.undo(), 0);
        due("cat(0, 4)", x.cat(0, 4), 1);
        none("undo()", x.undo());
        for (int i = 0; i < 45; i++) {
            x.nights(1);
        }
        due("forty acts at most", x.count(8), 40);
        for (int i = 39; i >= 0; i--) {
            due("undo()", x.undo(), i);
        }
        none("undo()", x.undo());
        due("five nights stay", x.bench(6), 5);
        // refused calls are no acts
        x.heat(4);
        x.fish(9);
        x.hear(4, 0, 1);
        due("refused ones are no acts", x.count(8), 0);
        // laws and what was seen are no acts
        x.law(-1);
        x.see(0, 0, 0);
        x.image();
        due("no acts", x.count(8), 0);
        // a log of 60 comes back whole
        CatCourt y = court("c;c;c;c;c;c;c;c;a");
        for (int i = 0; i < 8; i++) {
            y.hear(255, 0, i);
        }
        due("sixty in the log", y.count(6), 60);
        int[] before = new int[60];
        for (int i = 0; i < 60; i++) {
            before[i] = 10 * y.log(i, 0) + y.log(i, 2);
        }
        y.hear(127, 0, 99);
        due("the latest", y.log(0, 0), 6);
        due("seven further back", y.log(7, 0) * 10 + y.log(7, 2), before[0]);
        y.undo();
        for (int i = 0; i < 60; i++) {
            due("the log again", 10 * y.log(i, 0) + y.log(i, 2), before[i]);
        }
    }

    // 21, 42, 43: the log
    private static void logs() {
        promise = 21;
        // cat 0 always purrs, cat 1 always turns, cat 2 leaves
        CatCourt x = under("y:w=9?1", "bp3u5l0;cp9;cu9;cl9;ag0;ag0");
        none("log(0, 0)", x.log(0, 0));
        promise = 43;
        none("harsh()", x.harsh());
        promise = 21;
        x.hear(5, 0, 1);
        x.hear(2, 1, 1);
        int[][] log = {{1, 1, 2}, {2, 0, 3}, {0, 0, 0}};
        for (int i = 0; i < 3; i++) {
            for (int what = 0; what < 3; what++) {
                due("log(" + i + ", " + what + ")", x.log(i, what), log[i][what]);
            }
        }
        none("log(3, 0)", x.log(3, 0));
        none("log(-1, 0)", x.log(-1, 0));
        none("log(0, 3)", x.log(0, 3));
        none("log(0, -1)", x.log(0, -1));
        none("log(MAX, 0)", x.log(MOST, 0));
        promise = 42;
        due("often(0, 0)", x.often(0, 0), 1);
        due("often(0, 1)", x.often(0, 1), 0);
        x.hear(2, 0, 1);
        due("often(1, 2)", x.often(1, 2), 2);
        none("often(3, 0)", x.often(3, 0));
        none("often(-1, 0)", x.often(-1, 0));
        none("often(0, 4)", x.often(0, 4));
        none("often(0, -1)", x.often(0, -1));
        none("often without a court", new CatCourt().often(0, 0));
        promise = 43;
        due("harsh()", x.harsh(), 1);
        x.undo();
        x.undo();
        due("harsh()", x.harsh(), 0);
        x.undo();
        x.hear(4, 0, 1);
        due("harsh, with no points: the lowest", x.harsh(), 0);
        none("harsh without a court", new CatCourt().harsh());
        // of several the lowest
        CatCourt y = under("y:w=9?1", "bp4t0u2l0;cu9;cp9;cp9;a");
        y.hear(6, 0, 1);
        due("harsh: of several the lowest", y.harsh(), 1);
        y.hear(1, 0, 1);
        y.hear(1, 0, 1);
        due("harsh: still of several the lowest", y.harsh(), 0);
    }

    // 22: ask
    private static void asking() {
        // accused who surely is not guilty: the more a cat purrs, the worse
        CatCourt x = court("bh0;cp9t0u0l0;cp0t9u0l0;cp0t0u9l0;cp0t0u0l9;ag0");
        due("ask(1, 0, 0): the least of those that are right", x.ask(1, 0, 0), 2);
        due("ask(1, 0, 1)", x.ask(1, 0, 1), ALL);
        due("ask(2, 0, 0)", x.ask(2, 0, 0), 10);
        due("ask(2, 0, 1)", x.ask(2, 0, 1), ALL);
        due("ask(3, 0, 0)", x.ask(3, 0, 0), 7);
        due("ask(3, 0, 1)", x.ask(3, 0, 1), 0);
        due("ask(4, 0, 0)", x.ask(4, 0, 0), 15);
        none("ask(5, 0, 0)", x.ask(5, 0, 0));
        none("ask(0, 0, 0)", x.ask(0, 0, 0));
        none("ask(-1, 0, 0)", x.ask(-1, 0, 0));
        none("ask(1, 1, 0)", x.ask(1, 1, 0));
        none("ask(1, 0, 2)", x.ask(1, 0, 2));
        none("ask(1, 0, -1)", x.ask(1, 0, -1));
        // 3, 2, 1 and 0 points: below four are 0 with 3 (9) and 1 with 2 (6), and others above them as bits
        CatCourt y = court("bh0n4;cp9t0u0l0;cp0t9u0l0;cp0t0u9l0;cp0t0u0l9;ag0");
        due("ask: the least as bits, not by the lowest cat", y.ask(2, 0, 0), 6);
        x.retire(1, true);
        due("ask(1, 0, 0) without one", x.ask(1, 0, 0), 4);
        none("ask(4, 0, 0)", x.ask(4, 0, 0));
    }

    // 23: three
    private static void threeToOne() {
        // alone 750 to 500; both purr: 562 to 250 of 1000; three need all nine points: 421 to 125
        String cats = "cp1t0u0l1;cp1t0u0l1;cp1t0u0l1;a";
        none("three(0)", court("bh0n3;" + cats).three(0));
        due("three(0): three of them", court("bh0n9;" + cats).three(0), 7);
        none("three(0): not held at all", court("bh0n10;" + cats).three(0));
        due("three(0): held if guilty alone", court("bh0n3;cl9;cp0t0u0l1;cp0t0u0l1;a").three(0), 2);
        CatCourt x = court("bh0n3;cl9;cp0t0u0l1;cp0t0u0l1;a");
        x.retire(1, true);
        due("three(0) without one", x.three(0), 4);
        none("three(1)", x.three(1));
        none("three(-1)", x.three(-1));
        // exactly three to one counts
        due("exactly three", under("y:d=0?1+2*g;y:d=3?9-2*g", "bn3;c;a").three(0), 1);
        none("a little less", under("y:d=0?10+19*g;y:d=3?90-19*g", "bn3;c;a").three(0));
        // if guilty 1, 2, 2 and 3 points, none otherwise: four by 0 with 3 (9), 1 with 2 (6), and others
        String law = "y:g=1&w=9?1;y:g=0&d=3?1";
        due("of several the least as bits", under(law, "bn4;cu9;ct9;ct9;cp9;a").three(0), 6);
        due("all eight", under(law, "bn24;" + times(8, "cp9", ";") + ";a").three(0), 255);
        due("seven of eight", under(law, "bn21;" + times(8, "cp9", ";") + ";a").three(0), 127);
        x.retire(0, true);
        x.retire(2, true);
        none("three, all retired", x.three(0));
    }

    // 24: spare
    private static void sparing() {
        CatCourt x = court("bh0;cp0t0u0l9;cp9t0u0l0;cp0t0u0l9;ag0");
        due("spare(0, 0)", x.spare(0, 0), 1);
        due("spare(0, 1)", x.spare(0, 1), ALL);
        x.retire(1, true);
        due("spare(0, 0): of several the lowest", x.spare(0, 0), 0);
        none("spare(1, 0)", x.spare(1, 0));
        none("spare(-1, 0)", x.spare(-1, 0));
        none("spare(0, 2)", x.spare(0, 2));
        x.retire(0, true);
        none("spare with one cat", x.spare(0, 0));
    }

    // 25: mercy
    private static void mercies() {
        // alone: purrs 1 to treads 0 + fish
        CatCourt x = court("bh0n3;cp1t0u0l0;cp1t0u0l0;c;c;c;a");
        due("mercy(1, 0, 100, 0)", x.mercy(1, 0, 100, 0), 0);
        due("mercy(1, 0, 100, 1)", x.mercy(1, 0, 100, 1), 0);
        due("mercy(1, 0, 50, 0)", x.mercy(1, 0, 50, 0), 1);
        due("mercy(1, 0, 49, 0)", x.mercy(1, 0, 49, 0), 2);
        due("mercy(1, 0, 25, 0)", x.mercy(1, 0, 25, 0), 3);
        none("mercy(1, 0, 24, 0)", x.mercy(1, 0, 24, 0));
        none("mercy(1, 0, 24, 1)", x.mercy(1, 0, 24, 1));
        CatCourt y = court("bh0n6;cp1t0u0l0;cp1t0u0l0;cp9t0u0l0;a");
        // both purr: 1 by (1 + f) times 1 by (1 + g); one fish: 50, two: 25 as 1 and 1, 33 as 0 and 2
        due("mercy(3, 0, 50, 1): the least row", y.mercy(3, 0, 50, 1), 1);
        due("mercy(3, 0, 40, 0)", y.mercy(3, 0, 40, 0), 2);
        due("mercy(3, 0, 40, 1): the higher cat has both", y.mercy(3, 0, 40, 1), 2);
        due("mercy(3, 0, 30, 1)", y.mercy(3, 0, 30, 1), 11);
        due("mercy(3, 0, 13, 0)", y.mercy(3, 0, 13, 0), 4);
        due("mercy(3, 0, 12, 1)", y.mercy(3, 0, 12, 1), 22);
        due("mercy(3, 0, 7, 1)", y.mercy(3, 0, 7, 1), 33);
        none("mercy(3, 0, 5, 0)", y.mercy(3, 0, 5, 0));
        due("mercy(5, 0, 30, 1)", y.mercy(5, 0, 30, 1), 21);
        due("mercy(5, 0, 29, 1): the lowest cat is the highest digit", y.mercy(5, 0, 29, 1), 30);
        // nine fish: more than nine then
        due("beyond nine", under("y:d=0&f<11?1;y:d=3&f>10?1", "bn1l0p1;cf9;a").mercy(1, 0, 0, 0), 2);
        String full = "y:d=0&f<3?1;y:d=3&f>2?1";
        due("three cats, all they can have", under(full, "bn1;c;c;c;a").mercy(7, 0, 0, 1), 333);
        due("four cats, all they can have", under(full, "bn1;c;c;c;c;a").mercy(15, 0, 0, 1), 3333);
        due("twelve fish", under(full, "bn1;c;c;c;c;a").mercy(15, 0, 0, 0), 12);
        due("some of eight", under(full, "bn1;c;cf1;c;cf2;c;cf3;c;cf9;a").mercy(170, 0, 0, 1), 2100);
        due("its fish are as they were", y.cat(0, 4), 0);
        none("mercy of five cats", x.mercy(31, 0, 100, 0));
        due("mercy of four cats", x.mercy(30, 0, 100, 0), 0);
        none("mercy, b 101", x.mercy(1, 0, 101, 0));
        none("mercy, b -1", x.mercy(1, 0, -1, 0));
        none("mercy, what 2", x.mercy(1, 0, 50, 2));
        none("mercy, accused 1", x.mercy(1, 1, 50, 0));
    }

    // 26: appeals
    private static void appealing() {
        // of heat h, in tenths: held 1 - h by 10
        CatCourt x = under("y:d=0?10-h;y:d=3?h", "bh2;c;a");
        due("appeals(1, 0, 0)", x.appeals(1, 0, 0), 800000000);
        due("appeals(1, 0, 1)", x.appeals(1, 0, 1), 720000000);
        due("appeals(1, 0, 2)", x.appeals(1, 0, 2), 720000000);
        due("appeals(1, 0, 9)", x.appeals(1, 0, 9), 720000000);
        none("appeals(1, 0, 10)", x.appeals(1, 0, 10));
        none("appeals(1, 0, -1)", x.appeals(1, 0, -1));
        due("the room is as it was", x.bench(5), 2);
        CatCourt y = under("y:d=0?1;y:d=3?2", "bh2;c;a");
        due("appeals, cut", y.appeals(1, 0, 1), 111111110);
    }

    // 27: alike
    private static void alikeness() {
        CatCourt x = court(PLAIN);
        // cat 0 on 0: 750, 0, 0, 250; cat 1 on 1 (milk): purr 3, tread 1
        due("alike(0, 0, 1, 1)", x.alike(0, 0, 1, 1), 562500000);
        // cat 0 on 1: purr 4, leaves 2; cat 1 on 0: purr 2, tread 1
        due("alike(0, 1, 1, 0)", x.alike(0, 1, 1, 0), 444444443);
        none("alike, cats alike", x.alike(0, 0, 0, 1));
        none("alike, accused alike", x.alike(0, 1, 1, 1));
        none("alike(2, ..)", x.alike(2, 0, 1, 1));
        none("alike(.., 2)", x.alike(0, 0, 1, 2));
        none("alike(.., -1, ..)", x.alike(0, -1, 1, 1));
        none("alike(.., -1, 1)", x.alike(0, 0, -1, 1));
        x.retire(0, true);
        due("alike of one that is retired", x.alike(0, 0, 1, 1), 562500000);
    }

    // 28: rests
    private static void resting() {
        // milk makes purrs likelier: it washes; cat 0 purrs more
        CatCourt x = court("bh0;cp9t0u0l1;cp1t0u0l9;cp9t0u0l1;a");
        due("rests(0, NONE)", x.rests(0, -1), 2);
        due("rests(0, 0)", x.rests(0, 0), 0);
        due("rests(0, 1)", x.rests(0, 1), 2);
        none("rests(0, 2)", x.rests(0, 2));
        none("rests(0, -2)", x.rests(0, -2));
        none("rests(1, -1)", x.rests(1, -1));
        x.retire(0, true);
        due("rests(0, 0) without one", x.rests(0, 0), 2);
        due("rests(0, NONE) without one", x.rests(0, -1), 1);
        x.retire(1, true);
        x.retire(2, true);
        due("rests(0, NONE) with none", x.rests(0, -1), 0);
        // by a law, milk helps with both cats
        CatCourt y = under("y:d=0?5-2*k+w;y:d=3?5", "bh0;cp1;cp2;ak0");
        due("rests with milk", y.rests(0, -1), 1);
        due("the one", y.rests(0, 0), 11);
        // it makes no difference: with and without
        CatCourt z = under("y:d=0?w;y:d=3?5", "cp3;cp3;ak1");
        due("four", z.rests(0, -1), 4);
        int[] four = {0, 1, 10, 11};
        for (int i = 0; i < 4; i++) {
            due("rests(0, " + i + ")", z.rests(0, i), four[i]);
        }
        // chasing one another: cat 0 purrs at milk alone, cat 1 without it alone
        CatCourt w = under("y:d=0&(w=1&k=1|w=2&k=0)?1;y:d=3?1", "cp1;cp2;a");
        due("no rest", w.rests(0, -1), 0);
        due("milk is as it was", w.accused(0, 1), 0);
    }

    // 29, 30: surely, noisy
    private static void sureAndNoisy() {
        promise = 29;
        CatCourt x = court(PLAIN);
        due("surely(0, 0)", x.surely(0, 0), 6);
        due("surely(1, 0)", x.surely(1, 0), 12);
        due("surely, all may be", court("c;a").surely(0, 0), 0);
        due("surely: leaves alone", under("y:0", "c;a").surely(0, 0), 7);
        none("surely(2, 0)", x.surely(2, 0));
        none("surely(-1, 0)", x.surely(-1, 0));
        none("surely(0, 2)", x.surely(0, 2));
        none("surely(0, -1)", x.surely(0, -1));
        promise = 30;
        due("noisy(0, 0)", x.noisy(0, 0), 1);
        due("noisy(0, 1)", x.noisy(0, 1), 666666666);
        x.retire(1, true);
        due("noisy(0, 0)", x.noisy(0, 0), 0);
        due("noisy(0, 1)", x.noisy(0, 1), 250000000);
        none("noisy(2, 0)", x.noisy(2, 0));
        none("noisy(-1, 0)", x.noisy(-1, 0));
        none("noisy(0, 2)", x.noisy(0, 2));
        x.retire(0, true);
        none("noisy, all retired", x.noisy(0, 0));
        CatCourt y = under("y:d=0?w*[1-g];y:d=3?5", "cp5;cp5;cp1;a");
        due("noisy: of several the lowest, less if guilty too", y.noisy(0, 0), 0);
        due("by how much", y.noisy(0, 1), 500000000);
        due("noisy, all as far", under("y:1", "c;c;a").noisy(0, 0), 0);
        due("noisy, by nothing", under("y:1", "c;c;a").noisy(0, 1), 0);
    }

    // 31 to 33: mean, likely, quiet
    private static void meanLikelyQuiet() {
        promise = 31;
        CatCourt x = court(PLAIN);
        due("mean(1, 0, 1)", x.mean(1, 0, 1), 2250);
        due("mean(2, 0, 0)", x.mean(2, 0, 0), 2000);
        due("mean(3, 0, 1)", x.mean(3, 0, 1), 4916);
        due("mean of all points", court("bp9t9u9l9;" + times(8, "c", ";") + ";a").mean(255, 0, 0), 72000);
        promise = 32;
        due("likely(0, 0, 1)", x.likely(0, 0, 1), 0);
        due("likely(1, 0, 0)", x.likely(1, 0, 0), 1);
        due("likely: of several the first", x.likely(0, 0, 0), 0);
        due("likely with a dog", court("bh0;cp3l2;ad1").likely(0, 0, 0), 3);
        due("likely, all 0", under("y:0", "c;a").likely(0, 0, 0), 0);
        none("likely(2, 0, 0)", x.likely(2, 0, 0));
        none("likely(0, 2, 0)", x.likely(0, 2, 0));
        none("likely(0, 0, 2)", x.likely(0, 0, 2));
        none("likely(-1, 0, 0)", x.likely(-1, 0, 0));
        none("likely(0, -1, 0)", x.likely(0, -1, 0));
        none("likely(0, 0, -1)", x.likely(0, 0, -1));
        promise = 33;
        due("quiet(1, 0, 1)", x.quiet(1, 0, 1), 250000000);
        due("quiet(2, 0, 1)", x.quiet(2, 0, 1), 333333334);
        due("quiet(3, 0, 1), cut", x.quiet(3, 0, 1), 83333333);
        due("quiet(2, 0, 0)", x.quiet(2, 0, 0), ALL);
    }

    // 34, 35: bar, moonlit
    private static void barAndMoon() {
        promise = 34;
        CatCourt x = court("bh0p5l2;cp1t0u0l1;ag50;ag0;ag99");
        // 5 points by 750 if guilty, by 500 if not
        due("bar(1, 0, 0)", x.bar(1, 0, 0), 3);
        due("bar(1, 0, 1)", x.bar(1, 0, 1), 625000000);
        due("bar(1, 1, 0)", x.bar(1, 1, 0), 6);
        due("bar(1, 1, 1)", x.bar(1, 1, 1), ALL);
        due("bar(1, 2, 0)", x.bar(1, 2, 0), 0);
        due("bar(1, 2, 1)", x.bar(1, 2, 1), 990000000);
        none("bar(1, 0, 2)", x.bar(1, 0, 2));
        none("bar(1, 0, -1)", x.bar(1, 0, -1));
        due("bar of eight", court("bp9t9u9l9;" + times(8, "c", ";") + ";ag0").bar(255, 0, 0), 73);
        promise = 35;
        due("moonlit without the moon", x.moonlit(1, 0, 0), 0);
        due("moonlit(1, 0, 1)", x.moonlit(1, 0, 1), x.right(1, 0));
        // it tells the truth while the moon is 9 or 20, and none otherwise
        CatCourt y = under("y:(m=9|m=20)&d=3*[1-g]?1;y:(m=9|m=20)?0;y:1", "bm3;c;a");
        due("moonlit(1, 0, 0)", y.moonlit(1, 0, 0), 9);
        due("moonlit(1, 0, 1)", y.moonlit(1, 0, 1), ALL);
        due("the moon is as it was", y.bench(6), 3);
        due("moonlit: the last moon", under("y:m=27&d=3*[1-g]?1;y:m=27?0;y:1", "c;a").moonlit(1, 0, 0), 27);
        none("moonlit(1, 0, 2)", y.moonlit(1, 0, 2));
        none("moonlit(1, 0, -1)", y.moonlit(1, 0, -1));
    }

    // 36, 44: brothers, free
    private static void brothersAndFree() {
        promise = 36;
        CatCourt x = court(PLAIN);
        // of 0: 375000000 and 250000000; of 1: 133333333 and 400000000
        long one = 625000000L;
        long other = 533333333L;
        long both = one * other / ALL + (ALL - one) * (ALL - other) / ALL;
        due("brothers(1, 0, 1)", x.brothers(1, 0, 1), both);
        due("brothers(1, 1, 0)", x.brothers(1, 1, 0), both);
        none("brothers(1, 0, 0)", x.brothers(1, 0, 0));
        none("brothers(1, 0, 2)", x.brothers(1, 0, 2));
        none("brothers(1, 2, 0)", x.brothers(1, 2, 0));
        none("brothers(1, 0, -1)", x.brothers(1, 0, -1));
        promise = 44;
        long there = ALL - one;
        due("free(1)", x.free(1), there - there * other / ALL);
        none("free(0)", x.free(0));
        none("free(4)", x.free(4));
        none("free(-1)", x.free(-1));
        x.retire(1, true);
        none("free(2)", x.free(2));
        none("free without a court", new CatCourt().free(1));
        due("free, never held", court("bn99;c;a;a;a").free(1), ALL);
        due("free, always held", court("bn0;c;a;a;a").free(1), 0);
    }

    // 37, 38: see, guess
    private static void seeing() {
        promise = 37;
        CatCourt x = court(PLAIN);
        none("see(2, 0, 0)", x.see(2, 0, 0));
        none("see(-1, 0, 0)", x.see(-1, 0, 0));
        none("see(0, 2, 0)", x.see(0, 2, 0));
        none("see(0, -1, 0)", x.see(0, -1, 0));
        none("see(0, 0, 4)", x.see(0, 0, 4));
        none("see(0, 0, -1)", x.see(0, 0, -1));
        none("see without a court", new CatCourt().see(0, 0, 0));
        due("nothing seen", x.count(7), 0);
        promise = 38;
        due("guess with nothing seen", x.guess(1), 200000);
        x.see(0, 0, 0);
        due("guess(0): 750 to 500", x.guess(0), 600000);
        due("guess of another", x.guess(1), 200000);
        x.see(1, 0, 1);
        // 750 by 333.333334 to 500 by 1000
        due("guess(0)", x.guess(0), 333333);
        x.retire(0, true);
        due("guess with one retired", x.guess(0), 333333);
        x.see(0, 1, 1);
        none("guess(1): neither can be", x.guess(1));
        none("guess(2)", x.guess(2));
        none("guess(-1)", x.guess(-1));
        CatCourt y = under("y:d=0?g;y:d=3?1", "c;ag0;ag99");
        y.see(0, 0, 0);
        none("guess: guilt of 0, and not so if not guilty", y.guess(0));
        y.see(0, 1, 0);
        due("guess: surely guilty", y.guess(1), 1000000);
        promise = 37;
        for (int i = 3; i <= 16; i++) {
            due("see", y.see(0, 0, 3), i);
        }
        none("a seventeenth", y.see(0, 0, 3));
        due("sixteen", y.count(7), 16);
    }

    // 39, 40: drank, sure
    private static void drinking() {
        promise = 39;
        none("drank without a court", new CatCourt().drank(-1));
        promise = 40;
        none("sure without a court", new CatCourt().sure());
        promise = 39;
        // it purrs at milk alone, and treads at guilt without milk alone
        CatCourt x = under("y:d=0?k;y:d=1?g*[1-k];y:d=2?[1-g]*k;y:0", "c;a;a;ak1");
        due("drank(NONE)", x.drank(-1), 8);
        due("drank(5)", x.drank(5), 5);
        none("drank(8)", x.drank(8));
        none("drank(-2)", x.drank(-2));
        promise = 40;
        due("sure()", x.sure(), 0);
        x.see(0, 1, 0);
        due("sure()", x.sure(), 2);
        promise = 39;
        due("drank(NONE)", x.drank(-1), 4);
        int[] four = {2, 3, 6, 7};
        for (int i = 0; i < 4; i++) {
            due("drank(" + i + ")", x.drank(i), four[i]);
        }
        none("drank(4)", x.drank(4));
        x.see(0, 2, 1);
        due("drank: its own milk does not count", x.drank(-1), 2);
        due("drank(1)", x.drank(1), 3);
        due("milk is as it was", x.accused(2, 1), 1);
        // turns if not guilty with milk: with purrs that is one way, and treads are another
        x.see(0, 1, 2);
        due("both by one guilt", x.drank(-1), 2);
        x.see(0, 1, 1);
        due("not both", x.drank(-1), 0);
        none("drank(0)", x.drank(0));
        promise = 40;
        none("sure()", x.sure());
        CatCourt z = under("y:d=0&k=1?1;y:d=1&k=0?1", "c;a;a");
        z.see(0, 0, 0);
        z.see(0, 1, 1);
        due("sure(), with milk or without", z.sure(), 1);
        // each deed can be, but by no one guilt
        CatCourt y = under("y:d=0?g;y:d=1?1-g", "c;a");
        y.see(0, 0, 0);
        due("sure()", y.sure(), 0);
        y.see(0, 0, 1);
        none("sure(): not by one guilt", y.sure());
    }

    // 41: fits
    private static void fitting() {
        due("fits without a court", new CatCourt().fits(0), -1000000);
        CatCourt x = court(PLAIN);
        due("fits(2)", x.fits(2), -1000000);
        due("fits(-1)", x.fits(-1), -1000000);
        none("fits(0) with no law", x.fits(0));
        due("fits(1) with no law", x.fits(1), 0);
        x.see(0, 0, 0);
        x.see(1, 0, 1);
        x.see(1, 0, 0);
        x.see(0, 0, 3);
        due("fits(1) with no law: guilty or not", x.fits(1), 3);
        none("fits(0) with no law", x.fits(0));
        tellLaw(x, "y:d=1?1");
        due("fits(0)", x.fits(0), 0);
        due("fits(1)", x.fits(1), 1);
        tellLaw(x, "y:d=g*3?1");
        due("fits(0)", x.fits(0), 1);
        due("fits(1)", x.fits(1), 3);
        tellLaw(x, "y:d=[1-g]*3?1");
        due("fits: of several the lowest", x.fits(0), 1);
        x.law(2);
        due("whatever holds", x.fits(0), 1);
        due("it still holds", x.count(4), 2);
    }

    // 45, 46: image, back
    private static void images() {
        promise = 46;
        none("back without a court", new CatCourt().back());
        promise = 45;
        none("image without a court", new CatCourt().image());
        CatCourt x = under("y:w=9?1", "cp9f3;cu9;a;a");
        promise = 46;
        none("back without an image", x.back());
        promise = 45;
        x.fish(0);
        x.hear(3, 1, 5);
        due("image()", x.image(), 2);
        due("acts stay", x.count(8), 2);
        x.fish(1);
        x.nights(5);
        x.heat(8);
        x.milk(0, true);
        x.retire(1, true);
        x.hear(1, 0, 6);
        x.see(0, 0, 2);
        promise = 46;
        due("back()", x.back(), 2);
        int[] got = {x.cat(0, 4), x.cat(1, 4), x.cat(0, 5), x.cat(1, 6), x.accused(0, 1), x.bench(5), x.bench(6),
            x.log(0, 0), x.log(1, 2), x.count(8), x.count(7), x.count(4)};
        int[] want = {4, 0, 1, 0, 0, 4, 0, 1, 0, 0, 1, 0};
        for (int i = 0; i < got.length; i++) {
            due("as in the image, " + i, got[i], want[i]);
        }
        none("undo()", x.undo());
        x.nights(1);
        due("back() again", x.back(), 2);
        due("the moon", x.bench(6), 0);
        x.heat(1);
        x.image();
        x.heat(2);
        x.back();
        due("the image instead of the one ahead", x.bench(5), 1);
        x.heat(3);
        x.fish(0);
        due("acts since", x.undo(), 1);
        tellCourt(x, "c;a");
        none("back: no image of this court", x.back());
    }

    // 47: count
    private static void counts() {
        CatCourt x = court("c;c;c;a;a");
        tellLaw(x, "y:1");
        feed(x, "abcde");
        x.law(0);
        x.retire(2, true);
        x.hear(3, 0, 1);
        x.see(0, 0, 0);
        int[] want = {3, 2, 1, 5, 0, 2, 2, 1, 2};
        for (int i = 0; i < want.length; i++) {
            due("count(" + i + ")", x.count(i), want[i]);
        }
        due("count(9)", x.count(9), -1000000);
        due("count(-1)", x.count(-1), -1000000);
        due("count(MIN)", x.count(LEAST), -1000000);
    }

    private static void run(int number) {
        promise = number;
        switch (number) {
            case 1: newObject(); break;
            case 2: feeding(); break;
            case 3: ending(); break;
            case 4: faults(); break;
            case 5: texts(); break;
            case 6: told(); break;
            case 9: lawThatHolds(); afterOthers(); break;
            case 10: moods(); break;
            case 11: oddsOfDeeds(); break;
            case 12: holding(); break;
            case 13: rightness(); break;
            case 14: acts(); break;
            case 19: hearing(); break;
            case 20: undoing(); break;
            case 21: logs(); break;
            case 22: asking(); break;
            case 23: threeToOne(); break;
            case 24: sparing(); break;
            case 25: mercies(); break;
            case 26: appealing(); break;
            case 27: alikeness(); break;
            case 28: resting(); break;
            case 29: sureAndNoisy(); break;
            case 31: meanLikelyQuiet(); break;
            case 34: barAndMoon(); break;
            case 36: brothersAndFree(); break;
            case 37: seeing(); break;
            case 39: drinking(); break;
            case 41: fitting(); break;
            case 45: images(); break;
            case 47: counts(); break;
            default: break;
        }
    }

    public static void main(String[] args) {
        for (int number = 1; number <= 47; number++) {
            run(number);
        }
        System.out.println(wrong == 0 ? "all promises hold" : wrong + " answers are not as promised");
        if (wrong != 0) {
            System.exit(1);
        }
    }
}
