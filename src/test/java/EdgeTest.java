/** Promise by promise, each sentence that names an edge, with an answer reckoned by hand (BoundsTest has the bounds). */
public final class EdgeTest {
    private static final int ALL = 1000000000;
    private static final String EIGHT = "c;c;c;c;c;c;c;c";
    /** A CAT does what its WEIGHT of 9 says. */
    private static final String SURE = "y:w=9?1";
    /** It PURRS at who is GUILTY and LEAVES who is not, if it has had 9 CASES; others PURR or LEAVE by half. */
    private static final String TRUTH = "y:c=9&d=0?g;y:c=9&d=3?1-g;y:c<9&(d=0|d=3)?1";

    private static Story story(int promise, String sentence) {
        return Story.of("promise " + promise + ", " + sentence);
    }

    private static Story court(int promise, String sentence, String court) {
        return Story.of("promise " + promise + ", " + sentence, court);
    }

    private static Story under(int promise, String sentence, String law, String court) {
        return Story.under("promise " + promise + ", " + sentence, law, court);
    }

    // ---- 1 to 5

    private static void newObject() {
        Story s = story(1, "No COURT");
        int[] counts = {0, 0, 0, 0, -1, 0, 0, 0, 0};
        for (int i = 0; i < counts.length; i++) {
            s.due("count " + i, counts[i]);
        }
        s.due("fault 0", 0).due("fault 1", 0).due("end 0", 1).due("law -1", 1).due("feed 0 0 0 0 0", 0);
        s.refused("count -1", "count 9", "image", "back", "undo", "text 0", "text 1");
    }

    private static String feed(int place, int sign) {
        int[] v = new int[5];
        v[place / 4] = sign << 24 - 8 * (place % 4);
        return "feed " + v[0] + " " + v[1] + " " + v[2] + " " + v[3] + " " + v[4];
    }

    private static void feeding() {
        String text = "bp1t2u3l4n5;cp6;ag77";
        Story s = story(2, "Twenty bytes more, of each number the highest first").feed(text).due("count 3", 20)
            .due("text 0", 1).row("bench", 1, 2, 3, 4, 5, 4, 0).due("cat 0 0", 6).due("accused 0 0", 77);
        for (int place = 0; place < 20; place++) {
            s.due(feed(place, text.charAt(place)), place + 1);
        }
        s.due("text 0", 1).due("bench 4", 5).due("accused 0 0", 77);
        Story t = story(2, "bytes of 0 are left out");
        for (int place = 0; place < 20; place++) {
            t.due(feed(19 - place, text.charAt(place)), place + 1);
        }
        t.due("fault 0", -1).due("feed 0 0 0 0 0", 20).due("fault 0", -1).due("text 0", 1).due("bench 3", 4);
        story(2, "bytes of 0 between others").due("feed " + ('c' << 16 | ';') + " 0 0 " + ('a' << 24) + " 0", 3)
            .due("fault 0", -1);
        story(2, "bytes above 127").due("feed -1 -2147483648 255 65280 128", 4 + 1 + 1 + 1 + 1).due("fault 0", 0)
            .due("end 0", 1).due("feed " + ('c' << 24 | ';' << 16 | 'a' << 8 | 255) + " 0 0 0 0", 4).due("fault 0", 3);
        Story full = story(2, "NONE: more than 240");
        for (int i = 1; i <= 12; i++) {
            full.due("feed -1 -1 -1 -1 -1", 20 * i);
        }
        full.refused("feed -1 -1 -1 -1 -1", "feed 1 0 0 0 0", "feed 0 0 0 0 1", "feed 0 0 -2147483648 0 0")
            .due("feed 0 0 0 0 0", 240).due("end 239", 1).refused("feed 257 0 0 0 0", "feed 1 0 0 0 1", "feed -1 0 0 0 0")
            .due("feed 0 256 0 0 0", 240).due("end 220", 1).due("feed -1 -1 -1 -1 -1", 240).due("end 221", 1)
            .refused("feed -1 -1 -1 -1 -1").due("feed -1 -1 -1 -1 16777215", 240);
    }

    private static void ending() {
        story(3, "False: n").due("end 0", 1).refused("end 1", "end -1").feed("c;a").refused("end 4", "end -1", "end 240")
            .due("end 3", 1).due("fault 0", -1).due("end 2", 1).due("count 3", 2).refused("end 3").due("end 0", 1)
            .refused("end 1");
        story(3, "The TAPE has its first n bytes alone").feed("c;axyz").due("end 3", 1).due("fault 0", -1).feed(";b")
            .due("count 3", 5).due("fault 0", -1).due("text 0", 1);
        story(3, "what stood behind them is gone").feed("c;      ").due("fault 0", 8).due("end 2", 1).due("fault 0", 2)
            .tape("bn99").due("end 3", 1).due("fault 0", 3).tape("y:1   ").due("end 2", 1).due("fault 1", 2)
            .tape("y:1234").due("end 5", 1).due("fault 1", -1).tape("c;a;").due("end 3", 1).due("fault 0", -1);
    }

    private static void faults() {
        story(4, "-2: no such sort").refused("fault -1", "fault 2").feed("c;a").refused("fault -1", "fault 2", "fault 3");
        story(4, "NONE: none").feed("c;a").due("fault 0", -1).due("fault 1", 0).due("fault 0", -1).tape("y:1")
            .due("fault 1", -1).due("fault 0", 0).due("fault 1", -1).due("count 3", 3).due("count 2", 0)
            .due("count 0", 0);
    }

    private static void texts() {
        story(5, "NONE: a FAULT, no such sort").feed("c;ax").refused("text 0", "text 1", "text 2", "text -1")
            .due("end 3", 1).refused("text 1", "text 2", "text -1").due("text 0", 1).refused("text 0", "text 1");
        Story laws = story(5, "NONE: there are four LAWS");
        for (int i = 0; i < 4; i++) {
            laws.feed("y:" + i).due("count 2", i).due("text 1", i).due("count 3", 0).due("count 4", -1);
        }
        laws.feed("y:4").due("fault 1", -1).refused("text 1").due("count 3", 3).due("law 3", 1).tape("c;c;a")
            .due("text 0", 2).due("count 2", 4).due("mood 0 0 0 0", 3).feed("y:4").refused("text 1");
        Story other = under(5, "all that was of another one is gone but LAWS, which holds", SURE, "bh1m2p9;cp9f3;ct9;ak1;a")
            .times(1, "fish 0").times(1, "hear 3 0 1").times(1, "heat 9").times(1, "nights 5").times(1, "milk 0 false")
            .times(1, "retire 1 true").times(3, "see 0 0 0").due("image", 2).times(1, "heat 3").law("y:5");
        other.tape("cu9;a").due("text 0", 1);
        int[] counts = {1, 1, 2, 0, 0, 1, 0, 0, 0};
        for (int i = 0; i < counts.length; i++) {
            other.due("count " + i, counts[i]);
        }
        other.row("bench", 3, 2, 1, 0, 3, 4, 0).row("cat 0", 1, 1, 9, 1, 0, 0, 0).row("accused 0", 50, 0, 0)
            .due("mood 0 0 2 0", 1).due("mood 0 0 0 0", 0).refused("back", "undo", "log 0 0", "cat 1 0", "harsh")
            .due("guess 0", 500000).due("fits 1", 0);
        court(5, "the same COURT again", "cf5;a").times(1, "fish 0").due("image", 0).tape("cf5;a").due("text 0", 1)
            .due("cat 0 4", 5).due("count 8", 0).refused("back", "undo");
        court(5, "a LAW's text leaves the COURT", "cf5;a").times(1, "fish 0").times(1, "hear 1 0 1").times(1, "see 0 0 1")
            .due("image", 1).feed("y:1").due("text 1", 0).due("cat 0 4", 6).due("count 6", 1).due("count 7", 1)
            .due("count 8", 2).due("count 4", -1).due("back", 1);
    }

    // ---- 6 to 13

    private static void standing() {
        court(6, "NONE: no such what", "c;a").row("bench", 3, 2, 1, 0, 3, 4, 0).refused("bench 7", "bench -1");
        court(7, "NoSuchElementException: no such ones", "cp2t3u4l5f6c7;c;a").row("cat 0", 2, 3, 4, 5, 6, 7, 0)
            .refused("cat 0 7", "cat 0 -1", "cat 2 0", "cat -1 0", "cat 2 7").due("retire 0 true", 1).due("cat 0 6", 1)
            .due("retire 0 false", 1).due("cat 0 6", 0);
        story(7, "no COURT").refused("cat 0 0", "cat -1 -1", "cat 7 6");
        court(8, "NONE: no such ones", "c;ag1k1d0;a").row("accused 0", 1, 1, 0).row("accused 1", 50, 0, 0)
            .refused("accused 0 3", "accused 0 -1", "accused 2 0", "accused -1 0");
        story(9, "NONE: none; False: no such one").due("law -1", 1).refused("law 0", "law -2", "law 3").law("y:7")
            .due("law 0", 1).refused("law 1", "law -2").law("y:8").law("y:9").law("y:10").due("law 3", 1)
            .refused("law 4", "law -2").due("count 4", 3).court("c;a").due("count 4", 3).due("mood 0 0 0 0", 10)
            .due("law 0", 1).due("mood 0 0 0 0", 7).due("law 0", 1).due("law -1", 1).due("count 4", -1)
            .due("mood 0 0 0 0", 1);
        court(10, "guilty 0, 1", "cp1;a").row("mood 0 0 0", 1, 3, -1).refused("mood 0 0 0 2", "mood 0 0 0 -1",
            "mood 0 0 4 0", "mood 0 0 -1 0", "mood 1 0 0 0", "mood 0 1 0 0");
        court(10, "also of one that is RETIRED", "cp1;a").due("retire 0 true", 1).due("mood 0 0 0 1", 3)
            .due("odds 0 0 0 1", 428571428);
        court(11, "NONE: no such ones", "bh0;cp1t1u1l1;a").due("odds 0 0 0 0", 250000000).due("odds 0 0 3 0", 250000000)
            .refused("odds 0 0 4 0", "odds 0 0 -1 0", "odds 0 0 0 2", "odds 0 0 0 -1", "odds 1 0 0 0", "odds 0 1 0 0");
    }

    private static void sets() {
        String[] calls = {"held # 0 1", "right # 0", "hear # 0 1", "mercy # 0 100 0", "appeals # 0 0", "mean # 0 1",
            "quiet # 0 1", "bar # 0 0", "moonlit # 0 0", "brothers # 0 1", "free #"};
        int[] promises = {12, 13, 19, 25, 26, 31, 33, 34, 35, 36, 44};
        for (int i = 0; i < calls.length; i++) {
            Story s = court(promises[i], "as for HELD: an empty set, one with somebody RETIRED or who is not there",
                "c;c;c;a;a").due("retire 1 true", 1);
            for (int set : new int[] {0, 2, 3, 6, 7, 8, 9, 13, 16, 128, 256, 257, -1, -5, -8}) {
                s.refused(calls[i].replace("#", "" + set));
            }
            s.wouldTake(calls[i].replace("#", "1"), calls[i].replace("#", "4"), calls[i].replace("#", "5"));
            s.due("retire 1 false", 1).wouldTake(calls[i].replace("#", "7"), calls[i].replace("#", "2"));
            Story all = court(promises[i], "all eight", EIGHT + ";a;a");
            all.refused(calls[i].replace("#", "256"), calls[i].replace("#", "511"));
            if (promises[i] == 25) {
                all.refused("mercy 255 0 100 0", "mercy 31 0 100 0").wouldTake("mercy 240 0 100 0", "mercy 15 0 100 0");
            } else {
                all.wouldTake(calls[i].replace("#", "255"), calls[i].replace("#", "128"));
            }
            for (int cat = 0; cat < 8; cat++) {
                all.due("retire " + cat + " true", 1);
            }
            all.refused(calls[i].replace("#", "1"), calls[i].replace("#", "255"), calls[i].replace("#", "0"));
        }
    }

    // ---- 14 to 21

    private static void byHand() {
        court(14, "NONE: no such CAT, it has nine", "cf8;c;a").due("fish 0", 9).refused("fish 0", "fish 2", "fish -1")
            .due("cat 0 4", 9).due("fish 1", 1).due("nights 1", 1).due("cat 0 4", 8).due("cat 1 4", 0).due("fish 0", 9)
            .refused("fish 0");
        court(14, "of one that is RETIRED", "c;a").due("retire 0 true", 1).due("fish 0", 1).due("cat 0 4", 1);
        Story nights = court(15, "MOON that many on (28: round), FISH of all that many less (0 at least)",
            "bm26;cf9;cf5;c;a").refused("nights 0", "nights 29", "nights -1").due("retire 1 true", 1);
        nights.due("nights 1", 27).due("cat 0 4", 8).due("cat 1 4", 4).due("cat 2 4", 0).due("nights 1", 0)
            .due("bench 6", 0).due("nights 3", 3).due("cat 0 4", 4).due("cat 1 4", 0).due("nights 4", 7)
            .due("cat 0 4", 0).due("nights 28", 7).due("nights 27", 6).due("nights 22", 0).due("nights 28", 0)
            .due("count 8", 9);
        court(15, "FISH of all, of nothing else", "cf9;cf9;cf9;cf9;cf9;cf9;cf9;cf9;ag9k1d1;ag9k1d1;ag9k1d1;ag9k1d1")
            .due("nights 3", 3).row("cat 7", 1, 1, 1, 1, 6, 0, 0).row("cat 0", 1, 1, 1, 1, 6, 0, 0)
            .row("accused 0", 9, 1, 1).row("accused 1", 9, 1, 1).row("accused 3", 9, 1, 1).due("nights 9", 12)
            .due("cat 7 4", 0).row("accused 0", 9, 1, 1).row("accused 1", 9, 1, 1);
        court(15, "one less and one more than the FISH", "bm27;cf9;a").due("nights 8", 7).due("cat 0 4", 1)
            .due("nights 2", 9).due("cat 0 4", 0).due("undo", 1).due("cat 0 4", 1).due("bench 6", 7);
        court(15, "the most", "bm27;cf9;a").due("nights 28", 27).due("cat 0 4", 0);
        court(16, "False: out of bounds, it is so", "bh4;c;a").refused("heat 4", "heat -1", "heat 10").due("heat 0", 1)
            .refused("heat 0", "heat -1").due("bench 5", 0).due("heat 9", 1).refused("heat 9", "heat 10")
            .due("bench 5", 9).due("count 8", 2);
        court(17, "False: no such ACCUSED, it is so", "c;ak1;a").refused("milk 0 true", "milk 1 false", "milk 2 true",
            "milk -1 true", "milk 2 false", "milk -1 false").due("milk 0 false", 1).refused("milk 0 false")
            .due("milk 1 true", 1).refused("milk 1 true").due("accused 0 1", 0).due("accused 1 1", 1).due("count 8", 2);
        court(18, "False: no such CAT, it is so", "c;c;a").refused("retire 0 false", "retire 2 true", "retire -1 true",
            "retire 2 false").due("retire 0 true", 1).refused("retire 0 true").due("count 5", 1).due("retire 1 true", 1)
            .due("count 5", 0).due("count 0", 2).due("retire 0 false", 1).refused("retire 0 false").due("count 5", 1);
    }

    private static void hearing() {
        under(19, "the VERDICT (1 HELD, 0 not)", SURE, "bp3t2n5;cp9;ct9;a").due("hear 3 0 1", 1).due("hear 1 0 1", 0)
            .due("hear 2 0 1", 0);
        under(19, "NEEDED one more", SURE, "bp3t2n6;cp9;ct9;a").due("hear 3 0 1", 0);
        under(19, "NEEDED nothing", SURE, "bl0n0;cl9;a").due("hear 1 0 1", 1);
        under(19, "any seed", SURE, "bp3n3;cp9;a").due("hear 1 0 " + Long.MAX_VALUE, 1)
            .due("hear 1 0 " + Long.MIN_VALUE, 1).due("hear 1 0 0", 1).due("hear 1 0 -1", 1);
        under(19, "refused, with a full LOG", SURE, "cp9;c;a").times(60, "hear 1 0 1").due("retire 1 true", 1)
            .refused("hear 2 0 1", "hear 3 0 1", "hear 0 0 1", "hear 1 1 1", "hear 1 -1 1", "hear 4 0 1");
        court(20, "how many still can be. NONE: none", "c;a").refused("undo").due("nights 1", 1).due("nights 1", 2)
            .due("undo", 1).due("undo", 0).refused("undo").due("bench 6", 0).refused("undo");
        court(20, "a refused one is none", "cf9;a").refused("fish 0", "heat 4", "milk 0 false", "retire 0 false",
            "nights 0", "hear 2 0 1").due("count 8", 0).refused("undo");
        Story log = under(21, "the latest (i 0), the one ahead of it (1)", SURE, "cp9;ct9;cu9;a;a").refused("log 0 0")
            .times(1, "hear 1 1 1").refused("log 1 0", "log -1 0", "log 0 3", "log 0 -1").row("log 0", 0, 1, 0);
        log.times(1, "hear 6 0 1").row("log 0", 2, 0, 2).row("log 1", 1, 0, 1).row("log 2", 0, 1, 0)
            .refused("log 3 0", "log 2 3").due("undo", 1).refused("log 1 0").due("undo", 0).refused("log 0 0");
    }

    // ---- 22 to 28

    private static void asking() {
        for (int n = 1; n <= 8; n++) {
            court(22, "of several the least as bits", EIGHT + ";a").due("ask " + n + " 0 0", (1 << n) - 1)
                .same("ask " + n + " 0 1", "right " + ((1 << n) - 1) + " 0");
        }
        court(22, "NONE: not so many CATS", "c;c;c;a").due("ask 3 0 0", 7).refused("ask 4 0 0", "ask 8 0 0", "ask 9 0 0",
            "ask 0 0 0", "ask -1 0 0").due("retire 0 true", 1).due("ask 2 0 0", 6).refused("ask 3 0 0")
            .due("retire 1 true", 1).due("ask 1 0 0", 4).refused("ask 2 0 0").due("retire 2 true", 1)
            .refused("ask 1 0 0", "ask 0 0 0");
        court(22, "NONE: no such ones", "c;a").refused("ask 1 1 0", "ask 1 -1 0", "ask 1 0 2", "ask 1 0 -1");
        // those with nine CASES know, all others PURR by half; three points of one are NEEDED
        under(22, "the most RIGHT, by the highest", TRUTH, "bn3;c;c;c;c;c;c;c;cc9;a").due("ask 1 0 0", 128)
            .due("ask 1 0 1", ALL).due("ask 2 0 0", 129).due("ask 2 0 1", 750000000).due("retire 7 true", 1)
            .due("ask 1 0 0", 1).due("ask 1 0 1", 500000000);
        // if GUILTY 1, 2, 2 and 3 POINTS, none otherwise: four of two by 0 and 3 (9), by 1 and 2 (6), and others
        String points = "y:g=1&w=9?1;y:g=0&d=3?1";
        under(22, "the least as bits, not the one with the lowest CAT", points, "bn4;cu9;ct9;ct9;cp9;a")
            .due("ask 2 0 0", 6).due("ask 2 0 1", ALL);
        under(23, "the least as bits, not the one with the lowest CAT", points, "bn4;cu9;ct9;ct9;cp9;a")
            .due("three 0", 6);
        under(22, "two that know", TRUTH, "bn6;c;c;cc9;c;cc9;a").due("ask 2 0 0", 20).due("ask 2 0 1", ALL)
            .due("ask 1 0 1", 500000000).due("ask 1 0 0", 1);
    }

    private static void threeToOne() {
        under(23, "three times, or more", "y:d=0?10+20*g;y:d=3?90-20*g", "bn3;c;a").due("three 0", 1)
            .due("held 1 0 1", 300000000).due("held 1 0 0", 100000000);
        under(23, "in parts, three times", "y:d=0?1+2*g;y:d=3?8-2*g", "bn3;c;a").due("held 1 0 1", 333333333)
            .due("held 1 0 0", 111111111).due("three 0", 1);
        under(23, "in parts, two less", "y:d=0?8-2*g;y:d=3?1+2*g", "bp0l3n3;c;a").due("held 1 0 1", 333333334)
            .due("held 1 0 0", 111111112).refused("three 0");
        under(23, "and above 0", SURE, "bn4;cp9;a").due("held 1 0 1", 0).refused("three 0");
        under(23, "HELD if not by none", "y:d=0?g;y:d=3?1", "bn3;c;a").due("three 0", 1);
        under(23, "both HELD always", SURE, "bn3;cp9;cp9;a").refused("three 0");
        under(23, "the fewest CATS, be they the highest", TRUTH, "bn3;c;c;c;cc9;a").due("three 0", 8)
            .due("retire 3 true", 1).refused("three 0");
        // one that knows will do with one that PURRS by half, as both must PURR
        under(23, "two of them", TRUTH, "bn6;c;cc9;cc9;a").due("three 0", 3);
        under(23, "two of them, the lower ones never PURR", "y:w=9&d=0?g;y:d=3?1", "bn6;c;c;cp9;c;cp9;a").due("three 0", 20);
        under(23, "of several the least", TRUTH, "bn3;c;cc9;cc9;a").due("three 0", 2);
        under(23, "the highest of eight alone", TRUTH, "bn3;c;c;c;c;c;c;c;cc9;a").due("three 0", 128);
        // it PURRS, if GUILTY, by 1 of 100 or of 10: of all parts 10, then 1
        under(23, "above 0: one part", "y:d=0?g;y:d=3?c", "bn15;cc99;cc99;cc99;cc99;cc9;a").due("held 31 0 1", 1)
            .due("held 31 0 0", 0).due("three 0", 31);
        under(23, "above 0: none, as it is cut", "y:d=0?g;y:d=3?c", "bn15;cc99;cc99;cc99;cc99;cc10;a")
            .due("held 31 0 1", 0).refused("three 0");
        under(23, "all eight", TRUTH, "bn24;" + EIGHT.replace("c", "cc9") + ";a").due("three 0", 255);
        under(23, "one POINT too much", TRUTH, "bn25;" + EIGHT.replace("c", "cc9") + ";a").refused("three 0");
        court(23, "NONE: no such ACCUSED", "bh0;cp0t1u0l0;a;a").due("three 1", 1).refused("three 2", "three -1")
            .due("retire 0 true", 1).refused("three 0");
    }

    private static void sparing() {
        under(24, "without which all others are RIGHT most", TRUTH, "bn3;c;c;cc9;a").due("spare 0 0", 0)
            .due("spare 0 1", 750000000).due("retire 0 true", 1).due("spare 0 0", 1).due("spare 0 1", ALL)
            .due("retire 1 true", 1).refused("spare 0 0", "spare 0 1");
        court(24, "NONE: fewer than two CATS", "c;a").refused("spare 0 0", "spare 0 1");
        court(24, "two CATS", "c;c;a").due("spare 0 0", 0).same("spare 0 1", "right 2 0").refused("spare 0 2",
            "spare 0 -1", "spare 1 0", "spare -1 0").due("retire 0 true", 1).refused("spare 0 0").due("retire 1 true", 1)
            .refused("spare 0 0");
        under(24, "of several the lowest, and the highest", SURE, "bn3;cl9;cl9;cl9;cl9;cl9;cl9;cl9;cp9;ag0;ag99")
            .due("spare 0 0", 7).due("spare 0 1", ALL).due("spare 1 0", 0).due("spare 1 1", 990000000)
            .due("retire 7 true", 1).due("spare 0 0", 0);
    }

    private static void mercy() {
        // it PURRS by 1 of 1, 2, 3 or 4 with so many FISH less one
        String half = "y:d=0?1;y:d=3?f";
        under(25, "no more than b by 100 of all parts", half, "bn3;cf1;a").due("held 1 0 0", 500000000)
            .due("mercy 1 0 50 0", 0).due("mercy 1 0 49 0", 1).due("mercy 1 0 34 0", 1).due("mercy 1 0 33 0", 2)
            .due("mercy 1 0 25 0", 2).due("mercy 1 0 24 0", 3).due("mercy 1 0 20 0", 3).refused("mercy 1 0 19 0",
            "mercy 1 0 19 1", "mercy 1 0 0 0").due("mercy 1 0 100 0", 0).due("mercy 1 0 100 1", 0);
        under(25, "a little more than 99 by 100", "y:d<2?99;y:d=2?1", "bp3t3u0n3;c;a").due("held 1 0 0", 994974874)
            .refused("mercy 1 0 99 0").due("mercy 1 0 100 0", 0);
        under(25, "a little more than 1 by 100", "y:d=0?1;y:d=3?98", "bn3;c;a").due("held 1 0 0", 10101010)
            .refused("mercy 1 0 1 0").due("mercy 1 0 2 0", 0);
        under(25, "1 by 100", "y:d=0?1;y:d=3?99", "bn3;c;a").due("mercy 1 0 1 0", 0).refused("mercy 1 0 0 0");
        under(25, "b 0 .. 100", SURE, "bn3;cp9;cl9;a").due("mercy 1 0 100 0", 0).refused("mercy 1 0 99 0",
            "mercy 1 0 101 0", "mercy 2 0 -1 0").due("mercy 2 0 0 0", 0).due("mercy 2 0 0 1", 0);
        String more = "y:d=0&f<12?1;y:d=3&f>11?1";
        under(25, "0 .. 3 more for each CAT (also above 9)", more, "bn3;cf9;cf8;a").due("mercy 1 0 0 0", 3)
            .due("mercy 1 0 0 1", 3).refused("mercy 2 0 0 0", "fish 0").due("cat 0 4", 9);
        String three = "y:d=0&f<3?1;y:d=3&f>2?1";
        under(25, "4 CATS at most", three, "bn1;c;c;c;c;c;a").due("mercy 15 0 0 0", 12).due("mercy 15 0 0 1", 3333)
            .due("mercy 30 0 0 1", 3333).due("mercy 7 0 0 1", 333).due("mercy 3 0 0 1", 33).due("mercy 16 0 0 1", 3)
            .refused("mercy 31 0 0 0", "mercy 31 0 100 0").due("mercy 29 0 100 0", 0);
        under(25, "the lowest CAT of them the highest", three, "bn1;cf3;cf2;cf1;c;a").due("mercy 15 0 0 1", 123)
            .due("mercy 15 0 0 0", 6).due("mercy 11 0 0 1", 13).due("mercy 5 0 0 1", 2).due("mercy 6 0 0 1", 12);
        under(25, "the least with that FISH", three, "bn6;c;c;c;c;a").due("mercy 15 0 0 0", 9)
            .due("mercy 15 0 0 1", 333).due("mercy 3 0 0 1", 3).due("mercy 7 0 0 1", 33);
        under(25, "the least in all, be the row greater", "y:d=0&f<w?1;y:d=3&!f<w?1", "bn2p1;cp2l2;cp3l3;a")
            .due("mercy 3 0 0 0", 2).due("mercy 3 0 0 1", 20);
        court(25, "NONE: no such ones", "c;a").refused("mercy 1 1 50 0", "mercy 1 -1 50 0", "mercy 1 0 50 2",
            "mercy 1 0 50 -1");
    }

    private static void appeals() {
        String law = "y:d=0?10-h;y:d=3?h";
        int[] parts = {100000000, 20000000, 6000000, 2400000, 1200000, 720000, 504000, 403200, 362880, 362880};
        Story s = under(26, "each in a room 1 colder", law, "bh9n3;c;a");
        for (int k = 0; k <= 9; k++) {
            s.due("appeals 1 0 " + k, parts[k]);
        }
        s.refused("appeals 1 0 10", "appeals 1 0 -1", "appeals 1 1 0", "appeals 1 -1 0").due("bench 5", 9);
        Story zero = under(26, "0 at least", "y:d=0?5-h;y:d=3?5+h", "bh1n3;c;a");
        // 4 of 10, then 5 of 10 again and again
        int left = 400000000;
        for (int k = 0; k <= 9; k++) {
            zero.due("appeals 1 0 " + k, left);
            left /= 2;
        }
        under(26, "cut in turn", "y:d=0?1;y:d=3?2", "bn3;c;a").due("appeals 1 0 0", 333333333)
            .due("appeals 1 0 1", 111111110).due("appeals 1 0 2", 37037036);
        under(26, "if not GUILTY", "y:d=0?g;y:d=3?1-g", "bn3;c;a").due("appeals 1 0 0", 0).due("appeals 1 0 9", 0);
        under(26, "HELD always", SURE, "bn3;cp9;a").due("appeals 1 0 9", ALL);
    }

    private static void alike() {
        court(27, "NONE: no such ones, CATS alike, ACCUSED alike", "c;c;a;a").refused("alike 0 0 0 1", "alike 1 1 1 0",
            "alike 0 0 1 0", "alike 0 1 1 1", "alike 0 0 0 0", "alike 2 0 1 1", "alike -1 0 1 1", "alike 0 0 2 1",
            "alike 0 0 -1 1", "alike 0 2 1 1", "alike 0 -1 1 1", "alike 0 0 1 2", "alike 0 0 1 -1");
        under(27, "always and never", SURE, "cp9;cp9;ct9;a;a").due("alike 0 0 1 1", ALL).due("alike 0 0 2 1", 0)
            .due("alike 1 1 0 0", ALL);
        under(27, "for each DEED cut, together", "y:d<3?1", "c;c;a;a").due("alike 0 0 1 1", 111111110 * 2 + 111111111);
        under(27, "g is 1 and no more", "y:d=0&g=1?1;y:d=1&g>1?1;y:d=2&g=0?1", "c;c;a;a").due("alike 0 0 1 1", ALL);
        under(27, "g is 1 of both", "y:d=0&g=1?1;y:d=1&g=0?1;y:d=2&g>1?1", "c;c;a;a").due("alike 0 0 1 1", ALL);
        under(27, "both GUILTY", "y:d=0?g;y:d=1?[1-g]*[w-1];y:d=2?[1-g]*[2-w]", "ct1;ct2;a;a").due("alike 0 0 1 1", ALL);
    }

    private static void rests() {
        Story s = under(28, "how many (i NONE), the i-th (rising)", SURE, "cp9;cp9;cp9;cp9;cp9;cp9;cp9;cp9;a")
            .due("rests 0 -1", 16);
        for (int i = 0; i < 16; i++) {
            s.due("rests 0 " + i, i < 8 ? i : 10 + i - 8);
        }
        s.refused("rests 0 16", "rests 0 -2", "rests 1 -1", "rests 1 0", "rests -1 -1").due("retire 0 true", 1)
            .due("rests 0 -1", 14).due("rests 0 0", 1).due("rests 0 7", 11).refused("rests 0 14");
        for (int cat = 1; cat < 8; cat++) {
            s.due("retire " + cat + " true", 1);
        }
        s.due("rests 0 -1", 0).refused("rests 0 0");
        under(28, "no less with the other MILK", "y:d=0?1+k;y:d=3?2", "bn3;c;c;ak1").due("rests 0 -1", 2)
            .due("rests 0 0", 0).due("rests 0 1", 1).due("accused 0 1", 1);
        under(28, "with MILK alone", "y:d=0?2-k;y:d=3?2", "bn3;c;c;a").due("rests 0 -1", 2).due("rests 0 0", 10)
            .due("rests 0 1", 11).refused("rests 0 2").due("accused 0 1", 0);
        under(28, "no more with another CAT", "y:d=0?w;y:d=3?5", "bn3;cp1;cp3;cp2;a").due("rests 0 -1", 2)
            .due("rests 0 0", 1).due("rests 0 1", 11);
        under(28, "GUILTY", "y:d=0?w*g;y:d=3?1-g+w", "bn3;cp1l9;cp9l1;a").due("rests 0 0", 1);
        under(28, "none", "y:d=0&(w=1&k=1|w=2&k=0)?1;y:d=3?1", "bn3;cp1;cp2;a").due("rests 0 -1", 0)
            .refused("rests 0 0");
    }

    // ---- 29 to 36

    private static void surelyNoisy() {
        Story s = under(29, "SURELY, as bits", SURE, "cp9;ct9;cu9;cl9;cp9t9u9l9;a").due("surely 0 0", 14)
            .due("surely 1 0", 13).due("surely 2 0", 11).due("surely 3 0", 7).due("surely 4 0", 0);
        s.refused("surely 5 0", "surely -1 0", "surely 0 1", "surely 0 -1").due("retire 0 true", 1).due("surely 0 0", 14);
        under(29, "GUILTY or not", "y:d=0?g;y:d=1?1-g", "c;a").due("surely 0 0", 12);
        under(29, "not even if GUILTY", "y:d=0?w*g;y:d=3?1", "cp1;cp2;a").due("surely 0 0", 6).due("surely 1 0", 6);
        under(29, "not even if not", "y:d=0?w*[1-g];y:d=3?1", "cp1;a").due("surely 0 0", 6);
        under(29, "all MOODS 0", "y:0", "c;a").due("surely 0 0", 7);
        Story noisy = under(30, "furthest apart (of several the lowest); by how much", "y:d=0?w*g;y:d=3?1",
            "cp1;cp3;cp3;a").due("noisy 0 0", 1).due("noisy 0 1", 750000000);
        noisy.refused("noisy 0 2", "noisy 0 -1", "noisy 1 0", "noisy -1 0").due("retire 1 true", 1).due("noisy 0 0", 2)
            .due("retire 2 true", 1).due("noisy 0 0", 0).due("noisy 0 1", 500000000).due("retire 0 true", 1)
            .refused("noisy 0 0", "noisy 0 1");
        under(30, "more if not", "y:d=0?w*[1-g];y:d=3?1", "cp1;cp9;a").due("noisy 0 0", 1).due("noisy 0 1", 900000000);
        under(30, "by nothing", SURE, "cp9;cp9;a").due("noisy 0 0", 0).due("noisy 0 1", 0);
        under(30, "by all", "y:d=0?g;y:d=3?1-g", "c;a").due("noisy 0 1", ALL);
    }

    private static void meanLikelyQuiet() {
        under(31, "together, by 10 to the 6, cut", "y:d<3?1", "bp1t2u3l9;c;a").due("mean 1 0 0", 2000)
            .due("mean 1 0 1", 2000).refused("mean 1 0 2", "mean 1 0 -1", "mean 1 1 0", "mean 1 -1 0");
        under(31, "cut", "y:d<3?1", "bp0t0u1l9;c;a").due("mean 1 0 0", 333);
        under(31, "cut, one part less than a million", "y:d<3?1", "bp3t0u0l9;c;a").due("mean 1 0 0", 999);
        court(31, "no POINTS", "bp0t0u0l0;c;a").due("mean 1 0 0", 0);
        court(31, "all POINTS", "bp9t9u9l9;" + EIGHT + ";a").due("mean 255 0 0", 72000).due("mean 1 0 0", 9000);
        for (int mask = 1; mask < 16; mask++) {
            String cat = "cp" + (mask & 1) + "t" + (mask >> 1 & 1) + "u" + (mask >> 2 & 1) + "l" + (mask >> 3);
            under(32, "the greatest MOOD (of several the first)", "y:w", cat + ";a")
                .due("likely 0 0 0", Integer.numberOfTrailingZeros(mask));
        }
        under(32, "the last DEED", "y:d", "c;a").due("likely 0 0 0", 3).due("likely 0 0 1", 3).due("see 0 0 3", 1)
            .due("fits 1", 1);
        under(32, "all MOODS 0", "y:0", "c;a").due("likely 0 0 0", 0).due("likely 0 0 1", 0);
        under(32, "with a DOG", "y:d=0?99;y:d=3?50", "c;a;ad1").due("likely 0 0 0", 0).due("likely 0 1 0", 3);
        under(32, "with a DOG, as much", "y:d=0?98;y:d=3?49", "c;ad1").due("likely 0 0 0", 0)
            .refused("likely 1 0 0", "likely -1 0 0", "likely 0 1 0", "likely 0 -1 0", "likely 0 0 2", "likely 0 0 -1");
        court(32, "one that is RETIRED", "cp0t9;a").due("retire 0 true", 1).due("likely 0 0 0", 1);
        under(33, "none PURRS: never, always", SURE, "cp9;cl9;ct9;a").due("quiet 1 0 0", 0).due("quiet 3 0 0", 0)
            .due("quiet 2 0 0", ALL).due("quiet 6 0 1", ALL).refused("quiet 1 0 2", "quiet 1 0 -1", "quiet 1 1 0",
            "quiet 1 -1 0");
        under(33, "in turn, cut", "y:d=0?2;y:d=3?1", "c;c;c;a").due("quiet 1 0 0", 333333334)
            .due("quiet 3 0 0", 111111111).due("quiet 7 0 0", 37037037);
    }

    private static void barMoon() {
        for (int points = 0; points <= 9; points++) {
            Story s = under(34, "the NEEDED (0 .. 99), of several the least", SURE,
                "bp" + points + ";" + EIGHT.replace("c", "cp9") + ";ag49;ag50;ag51;ag0;ag99");
            // always so many POINTS: HELD up to that
            s.due("bar 255 0 0", 8 * points + 1).due("bar 255 0 1", 510000000).due("bar 255 1 0", 0)
                .due("bar 255 1 1", 500000000).due("bar 255 2 0", 0).due("bar 1 3 0", points + 1).due("bar 1 3 1", ALL)
                .due("bar 1 4 0", 0).due("bar 1 4 1", 990000000).due("bench 4", 3);
        }
        court(34, "NONE: no such what", "c;a").refused("bar 1 0 2", "bar 1 0 -1", "bar 1 1 0", "bar 1 -1 0");
        under(34, "the least that tells GUILTY from not", "y:d=0?g;y:d=1?1-g", "bp7t4n99;c;a").due("bar 1 0 0", 5)
            .due("bar 1 0 1", ALL).due("bench 4", 99);
        for (int moon : new int[] {0, 1, 13, 26, 27}) {
            under(35, "the MOON (0 .. 27)", "y:m=" + moon + "&d=0?g;y:m=" + moon + "&d=3?1-g;y:!m=" + moon + "?1",
                "bm5n3;c;a").due("moonlit 1 0 0", moon).due("moonlit 1 0 1", ALL).due("bench 6", 5);
        }
        under(35, "no MOON beyond", "y:(m>27|m<0)&d=0?g;y:(m>27|m<0)&d=3?1-g;y:1", "bm5n3;c;a").due("moonlit 1 0 0", 0)
            .due("moonlit 1 0 1", 500000000);
        under(35, "of several the least", "y:m>20&d=0?g;y:m>20&d=3?1-g;y:!m>20?1", "bm27n3;c;a")
            .due("moonlit 1 0 0", 21).refused("moonlit 1 0 2", "moonlit 1 0 -1", "moonlit 1 1 0", "moonlit 1 -1 0");
        court(35, "all MOONS alike", "bm20;c;a").due("moonlit 1 0 0", 0).same("moonlit 1 0 1", "right 1 0");
    }

    private static void brothers() {
        court(36, "NONE: ACCUSED alike, no such ones", "c;a;a").refused("brothers 1 0 0", "brothers 1 1 1",
            "brothers 1 0 2", "brothers 1 2 0", "brothers 1 -1 0", "brothers 1 0 -1");
        under(36, "both HELD, neither", SURE, "bn3;cp9;cl9;a;a").due("brothers 1 0 1", ALL).due("brothers 2 0 1", ALL);
        // HELD if GUILTY alone: 333333333; 50 and 99 by 100 of that, cut
        under(36, "each cut", "y:d=0?g;y:d=3?2", "bn3;c;ag50;ag99;ag0").due("brothers 1 0 1",
            166666666L * 329999999 / ALL + (ALL - 166666666L) * (ALL - 329999999) / ALL)
            .due("brothers 1 0 2", ALL - 166666666).due("brothers 1 2 0", ALL - 166666666);
        // HELD 333333333, GUILTY or not: 1 and 99 by 100 of that, each cut
        under(36, "each part cut", "y:d=0?1;y:d=3?2", "bn3;c;ag1;ag50").due("brothers 1 0 1",
            (3333333L + 329999999) * (166666666L * 2) / ALL
            + (ALL - 3333333L - 329999999) * (ALL - 166666666L * 2) / ALL);
    }

    // ---- 37 to 44

    private static void seeing() {
        Story s = court(37, "NONE: there are 16", "c;c;a;a");
        for (int i = 1; i <= 16; i++) {
            s.due("see " + i % 2 + " " + i / 2 % 2 + " " + i % 4, i).due("count 7", i);
        }
        s.refused("see 0 0 0", "see 1 1 3").due("undo", -1).due("count 7", 16);
        court(37, "NONE: no such ones", "c;a").refused("see 1 0 0", "see -1 0 0", "see 0 1 0", "see 0 -1 0", "see 0 0 4",
            "see 0 0 -1").due("retire 0 true", 1).due("see 0 0 3", 1).due("count 8", 1);
        court(38, "nothing SEEN", "c;ag0;ag1;ag99").due("guess 0", 0).due("guess 1", 10000).due("guess 2", 990000)
            .refused("guess 3", "guess -1");
        String tells = "y:d=0?g;y:d=1?1-g";
        under(38, "both 0: NONE", tells, "c;ag50;ag0;ag99").due("see 0 0 0", 1).due("guess 0", 1000000).due("see 0 1 0", 2)
            .refused("guess 1").due("see 0 2 1", 3).due("guess 2", 0).due("see 0 0 1", 4).refused("guess 0")
            .due("see 0 1 1", 5).refused("guess 1");
        // PURRS by 1 of 397: 2518891 parts, then 6344, then 15, then none
        Story small = under(38, "each cut, down to 0", "y:d=0?1;y:99", "c;ad1").due("odds 0 0 0 0", 2518891);
        for (int i = 1; i <= 3; i++) {
            small.due("see 0 0 0", i).due("guess 0", 500000);
        }
        small.due("see 0 0 0", 4).refused("guess 0").due("drank -1", 2);
        String one = "cc99;cc99;cc99;cc99;cc9;ag1;ag99";
        Story guilty = under(38, "both 0, but not one part if GUILTY", "y:d=0?g;y:d=3?c", one);
        Story not = under(38, "both 0, but not one part if not", "y:d=0?1-g;y:d=3?c", one);
        for (int cat = 0; cat < 5; cat++) {
            guilty.due("see " + cat + " 0 0", cat + 1).due("guess 0", 1000000);
            not.due("see " + cat + " 1 0", cat + 1).due("guess 1", 0);
        }
        guilty.due("see 4 0 0", 6).refused("guess 0");
        not.due("see 4 1 0", 6).refused("guess 1");
        under(38, "of 10 to the 6, cut", "y:d=0?1+g;y:d=3?1", "c;ag50").due("see 0 0 0", 1)
            .due("guess 0", 666666666L * 1000000 / (666666666 + 500000000));
        under(38, "what was SEEN of another does not count", tells, "c;a;a").due("see 0 1 0", 1).due("guess 0", 500000);
    }

    private static void drinking() {
        String milk = "y:d=0?k;y:d=1?1-k";
        Story s = under(39, "how many (i NONE), the i-th (rising)", milk, "c;a;a;a;a;a;a").due("drank -1", 64);
        for (int i = 0; i < 64; i += 9) {
            s.due("drank " + i, i);
        }
        s.refused("drank 64", "drank -2", "drank 1000").due("sure", 0);
        for (int i = 0; i < 6; i++) {
            s.due("see 0 " + i + " 0", i + 1).due("drank -1", 32 >> i).due("sure", (2 << i) - 1);
        }
        s.due("drank 0", 63).refused("drank 1").due("see 0 5 1", 7).due("drank -1", 0).refused("drank 0", "sure");
        under(39, "the others without", milk, "c;ak1;ak1").due("see 0 0 1", 1).due("see 0 1 1", 2).due("drank -1", 1)
            .due("drank 0", 0).due("sure", 0).due("accused 0 1", 1);
        under(39, "one ACCUSED", milk, "c;a").due("drank -1", 2).due("drank 1", 1).refused("drank 2");
        under(39, "either GUILTY, or not, all SEEN of it", "y:d=0?g;y:d=1?1-g", "c;a;a").due("see 0 0 0", 1)
            .due("see 0 1 1", 2).due("drank -1", 4).due("see 0 0 1", 3).due("drank -1", 0).refused("sure", "drank 0");
        under(39, "as the COURT is now", "y:d=0?f*k;y:d=1?1", "c;a").due("see 0 0 0", 1).due("drank -1", 0).refused("sure")
            .due("fish 0", 1).due("drank -1", 1).due("drank 0", 1).due("sure", 1).due("nights 1", 1).due("drank -1", 0)
            .refused("sure").due("undo", 1).due("sure", 1);
        under(39, "k is 1 and no more", "y:d=0&k=1?1;y:d=1&k=0?1;y:d=2&k>1?1", "c;a;a").due("see 0 0 0", 1)
            .due("see 0 1 1", 2).due("drank -1", 1).due("drank 0", 1).due("sure", 1).due("see 0 0 2", 3).refused("sure");
        under(39, "g is 1 and no more", "y:d=0&g=1?1;y:d=1&g=0?1;y:d=2&g>1?1", "c;a;a").due("see 0 0 0", 1)
            .due("see 0 1 1", 2).due("drank -1", 4).due("fits 1", 2).due("surely 0 0", 12).due("see 0 0 2", 3)
            .due("drank -1", 0).due("fits 1", 2);
        story(39, "no COURT").refused("drank -1", "drank 0", "sure");
        under(40, "who is in all", milk, "c;a;a;a").due("see 0 2 0", 1).due("see 0 0 1", 2).due("sure", 4)
            .due("drank -1", 2).due("drank 0", 4).due("drank 1", 6);
    }

    private static void fitting() {
        story(41, "HIDDEN: no COURT").refused("fits 0", "fits 1", "fits 2").law("y:1").refused("fits 0", "fits 1");
        Story s = court(41, "NONE alone, if none is told", "bh0;cp9;ct9;a").refused("fits 2", "fits -1").due("fits 0", -1)
            .due("fits 1", 0).due("see 0 0 0", 1).due("see 1 0 0", 2).due("fits 0", -1).due("fits 1", 1);
        s.law("y:d=3?1").due("fits 0", 0).due("fits 1", 0).law("y:w").due("fits 0", 1).due("fits 1", 1).law("y:w")
            .due("fits 0", 1).law("y:d=0?1").due("fits 0", 3).due("fits 1", 2).due("law 0", 1).due("fits 0", 3)
            .due("count 4", 0).refused("fits 2", "fits -1");
        Story all = under(41, "GUILTY or if not", "y:d=0?g;y:d=1?1-g", "c;a");
        for (int i = 0; i < 16; i++) {
            all.due("see 0 0 " + i % 2, i + 1).due("fits 1", i + 1);
        }
        under(41, "the first DEED of several", "y:1", "c;a").due("see 0 0 1", 1).due("fits 1", 0).due("see 0 0 0", 2)
            .due("fits 1", 1);
        under(41, "all MOODS 0", "y:0", "c;a").due("see 0 0 3", 1).due("fits 1", 0).due("see 0 0 0", 2).due("fits 1", 1);
    }

    private static void logged() {
        Story s = under(42, "how often a CAT did a DEED", SURE, "bp5t9u2l0;cp9;ct9;cu9;cl9;a").row("often 0", 0, 0, 0, 0)
            .refused("often 0 4", "often 0 -1", "often 4 0", "often -1 0");
        s.times(3, "hear 9 0 1").row("often 0", 3, 0, 0, 0).row("often 3", 0, 0, 0, 3).row("often 1", 0, 0, 0, 0);
        story(42, "no COURT").refused("often 0 0");
        Story harsh = under(43, "the most POINTS in the LOG (of several the lowest)", SURE,
            "bp5t9u3l0;cl9;cu9;cp9;ct9;cp9;a").refused("harsh").times(1, "hear 1 0 1").due("harsh", 0)
            .times(1, "hear 2 0 1").due("harsh", 1).times(1, "hear 16 0 1").due("harsh", 4).times(1, "hear 4 0 1")
            .due("harsh", 2).times(1, "hear 2 0 1").due("harsh", 1).times(1, "hear 8 0 1").due("harsh", 3);
        harsh.due("undo", 5).due("harsh", 1).due("retire 1 true", 1).due("harsh", 1);
        under(43, "NONE: an empty LOG", SURE, "cp9;a").refused("harsh").times(1, "hear 1 0 1").due("harsh", 0)
            .due("undo", 0).refused("harsh");
        under(43, "only the 60 latest", SURE, "bp9t1;cp9;ct9;a").times(6, "hear 1 0 1").times(54, "hear 2 0 1")
            .due("harsh", 0).times(1, "hear 2 0 1").due("harsh", 1);
    }

    private static void free() {
        court(44, "never and always HELD", "bn99;c;a;a;a;a;a;a").due("free 1", ALL).court("bn0;c;a;a;a;a;a;a")
            .due("free 1", 0).court("bn0;c;a").due("free 1", 0).court("bn99;c;a").due("free 1", ALL);
        // HELD 333333333, GUILTY or not: 166666666 and 166666666 by halves
        long there = ALL;
        StringBuilder court = new StringBuilder("bn3;c");
        for (int people = 1; people <= 6; people++) {
            court.append(";a");
            there -= there * 333333332 / ALL;
            under(44, "for each in turn of what is there", "y:d=0?1;y:d=3?2", court.toString()).due("free 1", there);
        }
        under(44, "each by its GUILT", "y:d=0?g;y:d=3?1-g", "bn3;c;ag10;ag0;ag50").due("free 1", 450000000);
    }

    // ---- 45 to 47

    private static void images() {
        story(45, "NONE: no COURT").refused("image", "back").law("y:1").refused("image", "back");
        court(46, "refused, ACTS stay", "c;a").due("fish 0", 1).times(1, "hear 1 0 1").times(1, "see 0 0 0").refused("back")
            .due("undo", 1).due("undo", 0).refused("undo", "back");
        court(46, "NONE: no IMAGE of this COURT", "c;a").refused("back").due("image", 0).due("back", 0).due("back", 0)
            .court("c;a").refused("back");
        String[] acts = {"fish 0", "nights 1", "heat 9", "milk 0 true", "retire 0 true", "hear 3 0 1"};
        String[] seen = {"cat 0 4", "bench 6", "bench 5", "accused 0 1", "cat 0 6", "cat 0 5"};
        for (int i = 0; i < acts.length; i++) {
            Story s = under(46, "they are so again (no ACT can be UNDONE then): " + acts[i], SURE, "bh4;cp9f2c5;ct9f1;a;a")
                .times(1, "hear 1 1 1").due("image", 1);
            long before = s.answer(seen[i]);
            s.times(2, "hear 2 0 3").times(1, acts[i]).due("count 8", 4).due("back", 1).due(seen[i], before)
                .due("count 8", 0).refused("undo").row("log 0", 0, 1, 0).refused("log 1 0").due("cat 1 5", 0);
        }
        under(45, "instead of the one ahead; how long the LOG is", SURE, "cp9;a").due("image", 0).times(2, "hear 1 0 1")
            .due("image", 2).times(60, "hear 1 0 1").due("image", 60).due("count 8", 40).due("undo", 39).due("undo", 38)
            .due("count 6", 60).due("back", 60).due("cat 0 5", 62).refused("undo");
        court(45, "an IMAGE is no ACT and stays behind UNDO", "c;a").due("fish 0", 1).due("image", 0).due("count 8", 1)
            .due("undo", 0).due("cat 0 4", 0).due("back", 0).due("cat 0 4", 1).refused("undo").due("fish 0", 2)
            .due("undo", 0).due("back", 0).due("cat 0 4", 1);
        court(46, "what it does not keep", "c;a").law("y:1").due("image", 0).due("see 0 0 0", 1).due("law 0", 1).feed("c;a")
            .due("back", 0).due("count 7", 1).due("count 4", 0).due("count 3", 3).due("count 2", 1);
        Story refused = court(46, "a refused text leaves the IMAGE", "c;a").due("image", 0).due("fish 0", 1).feed("c;");
        refused.refused("text 0").due("back", 0).due("cat 0 4", 0);
    }

    private static void counts() {
        Story s = court(47, "HIDDEN for others", "c;c;a").refused("count 9", "count -1", "count 10", "count 100");
        int[] counts = {2, 1, 0, 0, -1, 2, 0, 0, 0};
        for (int i = 0; i < counts.length; i++) {
            s.due("count " + i, counts[i]);
        }
        s.due("retire 0 true", 1).due("count 5", 1).due("count 0", 2).due("retire 1 true", 1).due("count 5", 0)
            .due("count 8", 2).law("y:1").due("count 2", 1).due("law 0", 1).due("count 4", 0).due("law -1", 1)
            .due("count 4", -1).feed("x").due("count 3", 1);
    }

    public static void main(String[] args) {
        newObject();
        feeding();
        ending();
        faults();
        texts();
        standing();
        sets();
        byHand();
        hearing();
        asking();
        threeToOne();
        sparing();
        mercy();
        appeals();
        alike();
        rests();
        surelyNoisy();
        meanLikelyQuiet();
        barMoon();
        brothers();
        seeing();
        drinking();
        fitting();
        logged();
        free();
        images();
        counts();
        System.exit(Story.close("all edges hold"));
    }
}
