import java.math.BigInteger;

/** Each sentence of the Terms that names a bound: what is taken last, what is wrong first, the empty and the full. */
public final class TermsTest {
    private static final int ALL = 1000000000;

    private static String many(int n, String text) {
        StringBuilder s = new StringBuilder();
        for (int i = 0; i < n; i++) {
            s.append(i == 0 ? "" : ";").append(text);
        }
        return s.toString();
    }

    private static String signs(int n, char sign) {
        StringBuilder s = new StringBuilder();
        for (int i = 0; i < n; i++) {
            s.append(sign);
        }
        return s.toString();
    }

    private static void good(String about, int sort, String... texts) {
        for (String text : texts) {
            Story s = Story.of(about + " '" + text + "'").feed(text).due("fault " + sort, -1);
            long got = s.answer("text " + sort);
            s.due("count " + (sort == 0 ? 0 : 2), sort == 0 ? got : got + 1).due("count 3", 0);
        }
    }

    /** A text and the byte at which it is wrong: it is also refused, and the court and the law stay. */
    private static void bad(String about, int sort, Object... textsAndPlaces) {
        for (int i = 0; i < textsAndPlaces.length; i += 2) {
            String text = (String) textsAndPlaces[i];
            Story.under(about + " '" + text + "'", "y:w+f", "bh3;cp5f3;c;ag7;a").feed(text)
                .due("fault " + sort, (Integer) textsAndPlaces[i + 1]).refused("text " + sort);
        }
    }

    // ---- the court's text

    private static void clauses() {
        String about = "A COURT: CLAUSES with ; between, in any order";
        good(about, 0, "c;a", "a;c", "b;c;a", "b;a;c", "c;b;a", "a;b;c", "c;a;b", "a;c;b", "a;c;a;b;c;a");
        bad(about, 0, ";c;a", 0, "c;;a", 2, "c;a;", 4, "c;a;;", 4, "c;a;;b", 4, "ca", 1, "c a", 2, "c,a", 1, "c:a", 1,
            "d;c;a", 0, "y;c;a", 0, "B;c;a", 0, "C;a", 0, "c;A", 2, "c;a;x", 4, "1;c;a", 0, (char) 226 + ";c;a", 0);
        bad("the length, if it ends too early, without a CAT or an ACCUSED", 0, "", 0, " ", 1, "    ", 4, "b", 1,
            "c", 1, "a", 1, "b;c", 3, "b;a", 3, "c;c", 3, "a;a", 3, "b;", 2, "c;", 2, "c; ", 3, "c ", 2, "c;a;b;", 6,
            "bp", 2, "bp ", 3, "c;ag", 4, "c;a;cp", 6, "c;a;cp  ", 8, many(8, "c"), 15, many(6, "a"), 11,
            "bp1t2u3l4n5h6m7;cp1t2u3l4f5c6", 29, "ag1k0d1;bn9", 11);
    }

    private static void howMany() {
        good("b one at most", 0, "b;c;a", "c;a;b");
        bad("a second b at it", 0, "b;b", 2, "b;b;c;a", 2, "b;c;a;b", 6, "b;c;a;  b", 8, "bp1;c;bt1;a", 6,
            "c;a;b;bp", 6);
        good("c 1 .. 8", 0, many(1, "c") + ";a", many(7, "c") + ";a", many(8, "c") + ";a", "a;" + many(8, "c") + ";b");
        bad("a ninth c at it", 0, many(9, "c"), 16, many(9, "c") + ";a", 16, many(8, "c") + ";a;c", 18,
            "b;a;" + many(8, "c") + "; c", 21, many(8, "c") + ";a;cc", 18);
        good("a 1 .. 6", 0, "c;" + many(1, "a"), "c;" + many(5, "a"), "c;" + many(6, "a"), many(6, "a") + ";b;c");
        bad("a seventh a at it", 0, many(7, "a"), 12, "c;" + many(7, "a"), 14, many(6, "a") + ";c;a", 14,
            "c;b;" + many(6, "a") + "; ag", 17);
        String full = many(8, "c") + ";" + many(6, "a") + ";b";
        good("all that there can be", 0, full);
        bad("and more", 0, full + ";b", 30, full + ";c", 30, full + ";a", 30, full + ";", 30);
        for (int cats = 1; cats <= 8; cats++) {
            int people = 1 + cats % 6;
            Story.of("c 1 .. 8, a 1 .. 6", many(cats, "c") + ";" + many(people, "a")).due("count 0", cats)
                .due("count 1", people).due("count 5", cats).due("cat " + (cats - 1) + " 0", 1)
                .due("cat " + cats + " 0", Story.THROWS).due("accused " + (people - 1) + " 0", 50)
                .due("accused " + people + " 0", -1);
        }
    }

    private static final String[][] KINDS = {{"b", "ptulnhm", ";c;a", "bench "}, {"c", "ptulfc", ";a", "cat 0 "},
        {"a", "gkd", ";c", "accused 0 "}};
    private static final int[][] MOST = {{9, 9, 9, 9, 99, 9, 27}, {9, 9, 9, 9, 9, 99}, {99, 1, 1}};
    private static final int[][] USUAL = {{3, 2, 1, 0, 3, 4, 0}, {1, 1, 1, 1, 0, 0}, {50, 0, 0}};

    private static void items() {
        for (int kind = 0; kind < KINDS.length; kind++) {
            String[] k = KINDS[kind];
            Story usual = Story.of("what an ITEM is without", k[0] + k[2]);
            for (int i = 0; i < k[1].length(); i++) {
                usual.due(k[3] + i, USUAL[kind][i]);
                item(k, i, MOST[kind][i]);
            }
        }
    }

    private static void item(String[] k, int i, int most) {
        char letter = k[1].charAt(i);
        String head = k[0] + letter;
        String about = "of " + k[0] + ": " + letter + " 0 .. " + most;
        String[] taken = {"0", "00", "" + most, most > 9 ? "09" : "0" + most};
        for (String number : taken) {
            Story.of(about, head + number + k[2]).due(k[3] + i, Integer.parseInt(number));
        }
        for (int over = most + 1; over < 100; over += over < 12 ? 1 : 29) {
            String text = head + over;
            bad("a number out of bounds is wrong at its last digit: " + about, 0, text, text.length() - 1,
                text + k[2], text.length() - 1, text + "x", text.length() - 1);
        }
        bad("a third digit itself, whatever stands ahead of it: " + about, 0, head + "000" + k[2], 4, head + "001", 4,
            head + most / 10 + most % 10 + "0" + k[2], 4, head + "100", 4, head + "999" + k[2], 4, head + "9999", 4);
        bad("a letter that was there", 0, head + "1" + letter + "1" + k[2], 3, head + "1 " + letter, 4,
            head + "01" + letter, 4);
        bad("a letter and a number", 0, head + k[2], 2, head + letter + k[2], 2, head + "-1" + k[2], 2, head, 2,
            head + "x", 2, head + " ", 3);
        good("a letter that was there in another CLAUSE alone", 0,
            k[0].equals("b") ? head + "1;c;a" : head + "1;" + head + "1" + k[2]);
    }

    private static void lettersOfOthers() {
        for (String[] k : KINDS) {
            for (char letter = 1; letter < 256; letter++) {
                boolean isBlank = letter == ' ' || letter == ';';
                if (!isBlank && k[1].indexOf(letter) < 0 && (letter < 128 || letter % 16 == 0)) {
                    Story.of("ITEMS of " + k[0] + ": no letter " + (int) letter).feed(k[0] + letter + "1" + k[2])
                        .due("fault 0", 1).due("text 0", -1);
                }
            }
        }
        good("all ITEMS, in any order", 0, "bm27h9n99l9u9t9p9;cc99f9l9u9t9p9;ad1k1g99", "bn0p0;ag0d0;cf0p0");
    }

    // ---- a law's text

    private static void lawClauses() {
        String about = "LAWS: CLAUSES with ; between, one at least";
        good(about, 1, "y:1", "y:1;y:2", "y:d=1?1;y:2", many(59, "y:1") + ";y:12");
        bad(about, 1, "", 0, " ", 1, "y", 1, "y ", 2, "y:", 2, "y: ", 3, ";y:1", 0, "y:1;", 4, "y:1; ", 5, "y:1;;y:1", 4,
            "y:1y:1", 3, "x:1", 0, "Y:1", 0, "y;1", 1, "y1", 1, ":1", 0, "1", 0, "y::1", 2, "y:1;x", 4, "y:1,y:1", 3,
            "y:y", 2, "c;a", 0);
        String then = "perhaps CONDITION ?, then SUM";
        good(then, 1, "y:d", "y:d=1?2", "y:d<1?2", "y:d>1?2", "y:(d=1)?2", "y:!d=1?2", "y:[d]=[1]?[2]");
        bad(then, 1, "y:?1", 2, "y:d?1", 3, "y:d=1", 5, "y:d=1 ", 6, "y:d=1;y:1", 5, "y:d=1?", 6, "y:d=1?;", 6,
            "y:d=1?2?3", 7, "y:d=1?2=3", 7, "y:d=1?d=1?1", 7, "y:d=1?!d=1?1", 6, "y:d=1?(2)", 6, "y:d=1??", 6);
        bad("a CLAUSE that goes on with ! or ( behind its : has a CONDITION", 1, "y:(d)", 4, "y:(d)=1?1", 4, "y:(1)+1", 4,
            "y:(d=1)", 7, "y:(d=1);", 7, "y:(d=1)+1", 7, "y:(d=1)=1?1", 7, "y:!d", 4, "y:!d?1", 4, "y:!d=1", 6,
            "y:!d=1;", 6, "y:!d=1+", 7, "y:!", 3, "y:(", 3);
    }

    private static void conditions() {
        String about = "CONDITION: TRUTHS with | between; TRUTH: UNITS with & between";
        good(about, 1, "y:d=1|d=2?1", "y:d=1&d=2?1", "y:d=1|d=2|d=3&d=1&d=2?1", "y:(d=1|d=2)&(d=3)?1",
            "y:d=1&!d=2|(d=1)?1");
        bad(about, 1, "y:|d=1?1", 2, "y:&d=1?1", 2, "y:d=1|?1", 6, "y:d=1&?1", 6, "y:d=1||d=1?1", 6, "y:d=1&&d=1?1", 6,
            "y:d=1|&d=1?1", 6, "y:d=1|d?1", 7, "y:d=1&d", 7, "y:d|d=1?1", 3, "y:d&d=1?1", 3, "y:d=1|", 6, "y:(d=1|)", 7,
            "y:(d=1&", 7);
        String unit = "UNIT: ! UNIT, ( CONDITION ), or SUM, one of = < >, SUM";
        good(unit, 1, "y:!d=1?1", "y:!!d=1?1", "y:!(d=1)?1", "y:((d=1))?1", "y:d+1<2*w?1", "y:(d>1)?1");
        bad(unit, 1, "y:d==1?1", 4, "y:d<=1?1", 4, "y:d>=1?1", 4, "y:d<>1?1", 4, "y:d=1=1?1", 5, "y:d=1<1?1", 5,
            "y:d!=1?1", 3, "y:()?1", 3, "y:(d=1?1", 6, "y:(d=1]?1", 6, "y:d=1)?1", 5, "y:d=!1?1", 4, "y:d=(1)?1", 4,
            "y:=1?1", 2, "y:d=?1", 4, "y:d=", 4, "y:!=1?1", 3, "y:(d=1)(d=1)?1", 7, "y:(d=1)!d=1?1", 7, "y:!(d)?1", 5);
    }

    private static void sums() {
        String about = "SUM: TERMS with + or - between; TERM: ATOMS with * or / between";
        good(about, 1, "y:1+2-3", "y:1*2/3", "y:1+2*3-4/5", "y:[1+2]*[3-4]", "y:[[1]]", "y:[d]");
        bad(about, 1, "y:+1", 2, "y:-1", 2, "y:*1", 2, "y:/1", 2, "y:1+", 4, "y:1-", 4, "y:1*", 4, "y:1/", 4, "y:1++1", 4,
            "y:1--1", 4, "y:1*-1", 4, "y:1/+1", 4, "y:1+*1", 4, "y:1%1", 3, "y:1^1", 3, "y:1 + ", 6, "y:1+;", 4);
        String atom = "ATOM: a number (1 to 4 digits), a letter (d w g k h f m c), [ SUM ]";
        good(atom, 1, "y:0", "y:9999", "y:0000", "y:0001", "y:d", "y:w", "y:g", "y:k", "y:h", "y:f", "y:m", "y:c",
            "y:[0]", "y:1111+2222=3333?4444");
        bad(atom, 1, "y:[", 3, "y:[]", 3, "y:[1", 4, "y:[1)", 4, "y:[1=1]", 4, "y:[1?1]", 4, "y:1]", 3, "y:(1]", 4, "y:[(1)]", 3,
            "y:[!1]", 3, "y:1d", 3, "y:d1", 3, "y:dw", 3, "y:[1][1]", 5, "y:1[1]", 3, "y:d(", 3, "y:.5", 2, "y:D", 2);
        bad("a fifth one in a LAW itself, whatever stands ahead of it", 1, "y:00000", 6, "y:12345", 6, "y:99999", 6,
            "y:999999", 6, "y:1+00001", 8, "y:[12345]", 7, "y:12345=1?1", 6, "y:1=12345?1", 8, "y:1=1?12345", 10,
            "y:12345x", 6, "y:10000", 6);
        for (char letter = 1; letter < 256; letter++) {
            if ("dwgkhfmc0123456789[(! ".indexOf(letter) < 0 && (letter < 128 || letter % 16 == 0)) {
                Story.of(atom + ": no " + (int) letter).feed("y:" + letter).due("fault 1", 2).due("text 1", -1);
            }
        }
    }

    /** All ways to put six of ( [ ! within one another, each with one more within. */
    private static void nesting() {
        String about = "at most six of ( [ ! within one another, a seventh at it";
        for (int squares = 0; squares <= 6; squares++) {
            for (int way = 0; way < 1 << 6 - squares; way++) {
                StringBuilder open = new StringBuilder("y:");
                StringBuilder close = new StringBuilder();
                for (int i = 0; i < 6 - squares; i++) {
                    boolean isRound = (way >> i & 1) == 1;
                    open.append(isRound ? '(' : '!');
                    close.insert(0, isRound ? ")" : "");
                }
                String inner = signs(squares, '[') + "d" + signs(squares, ']');
                Story.of(about + " " + open + inner).feed(open + inner + "=1" + close + "?1").due("fault 1", -1)
                    .due("text 1", 0);
                Story.of(about + " " + open + inner).feed(open + "1=" + inner + close + "?1").due("fault 1", -1)
                    .tape(open + signs(squares + 1, '[') + "d").due("fault 1", 8).due("text 1", -1)
                    .tape(open + "1=" + signs(squares + 1, '[') + "d").due("fault 1", 10).due("text 1", -1);
                if (squares == 0) {
                    Story.of(about).feed(open + "(d=1").due("fault 1", 8).tape(open + "!d=1").due("fault 1", 8);
                }
            }
        }
        String six = "[[[[[[d]]]]]]";
        good("six within one another, not six in all", 1, "y:" + six + "+" + six + "=" + six + "?" + six,
            "y:!d=1&!d=1&!d=1&!d=1&!d=1&!d=1&!d=1?1", "y:(d=1)&(d=1)&(d=1)&(d=1)&(d=1)&(d=1)&(d=1)?1",
            "y:[d]+[d]+[d]+[d]+[d]+[d]+[d]", "y:!d=1&" + six + "=1?1", "y:((((((d=1))))))|!!!!!!d=1?1",
            "y:!d=[[[[[d]]]]]&" + six + "=1?" + six, many(9, "y:" + six));
        bad("a seventh at it", 1, "y:" + signs(7, '['), 8, "y:" + signs(7, '('), 8, "y:" + signs(7, '!'), 8,
            "y:!d=[[[[[[d", 10, "y:d=1?[[[[[[[d", 12, "y:d=1|[[[[[[[d", 12, "y: [ [ [ [ [ [ [d", 15,
            "y:" + six + "+[[[[[[[d", 22, "y:1;y:[[[[[[[", 12);
    }

    private static void blanks() {
        String about = "Blanks may stand between all signs of both, not within numbers";
        String spread = "  b  p  1  t  2  ;  c  f  9  ;  a  g  99  k  1  ";
        Story.of(about, spread).due("bench 0", 1).due("bench 1", 2).due("cat 0 4", 9).due("accused 0 0", 99)
            .due("accused 0 1", 1);
        Story.under(about, "  y  :  !  (  d  =  1  &  [  w  +  1  ]  *  2  >  3  |  g  <  k  )  ?  12  /  5  ;  y  :  7 ",
            "c;a").row("mood 0 0 0", 2, 2).row("mood 0 0 1", 7, 7);
        bad(about, 0, "bn1 2;c;a", 4, "bn1 ;c;a 1", 9, "cc9 9", 4, "ag 5 0", 5, "b p 1 0", 6);
        bad(about, 1, "y:1 2", 4, "y:12 34", 5, "y:1 2345", 4, "y: 1 0 ", 5);
        for (int blank : new int[] {9, 10, 13, 31, 33, 160, 255}) {
            bad("Blanks (32)", 0, "c" + (char) blank + ";a", 1, (char) blank + "c;a", 0, "c;a" + (char) blank, 3);
            bad("Blanks (32)", 1, "y" + (char) blank + ":1", 1, "y:1" + (blank == 33 ? "!" : (char) blank), 3);
        }
        String whole = signs(237, ' ');
        good("a full TAPE of blanks and a text", 0, whole + "c;a", "c;a" + whole);
        good("a full TAPE of blanks and a text", 1, whole + "y:1", "y:1" + whole);
        bad("a full TAPE of blanks", 0, signs(240, ' '), 240);
        bad("a full TAPE of blanks", 1, signs(240, ' '), 240, signs(239, ' ') + "y", 240);
    }

    // ---- what a law is worth

    private static void worth(String about, Object... lawsAndMoods) {
        for (int i = 0; i < lawsAndMoods.length; i += 2) {
            String law = (String) lawsAndMoods[i];
            Story.under(about + " " + law, law, "bh7m13;cp2t3u4l5f6c42;ak1;ad1").due("mood 0 0 2 1",
                (Integer) lawsAndMoods[i + 1]);
        }
    }

    private static void numbers() {
        worth("Behind each sign numbers are within -1,000,000 .. 1,000,000",
            "y:9999*100+100-9999*100-90", 10, "y:9999*100+99-9999*100-90", 9, "y:9999*100+101-9999*100-90", 10,
            "y:9999*100+9999-9999*100-90", 10, "y:0-9999*100-100+9999*100+110", 10, "y:0-9999*100-99+9999*100+110", 11,
            "y:0-9999*100-101+9999*100+110", 10, "y:1000*1000-9999*100-90", 10, "y:1001*1000-9999*100-90", 10,
            "y:999*1001-9999*100-90", 9, "y:[0-1001]*1000+9999*100+110", 10, "y:[0-1000]*1000+9999*100+110", 10,
            "y:[0-999]*1001+9999*100+110", 11, "y:9999*9999*9999*9999-9999*100-90", 10,
            "y:[0-9999*9999]*[9999*9999]+9999*100+110", 10, "y:[0-9999*9999]*[0-9999*9999]-9999*100-90", 10,
            "y:9999*9999-1-9999*100-90", 9, "y:[9999*9999+9]-[9999*9999]+4", 4, "y:9999*9999/[9999*9999]", 1);
        worth("/ cuts towards 0", "y:7/2", 3, "y:[0-7]/2+9", 6, "y:7/[0-2]+9", 6, "y:[0-7]/[0-2]", 3, "y:1/2+5", 5,
            "y:[0-1]/2+5", 5, "y:8/8", 1, "y:7/8+5", 5, "y:[0-8]/8+5", 4, "y:9999/1-9990", 9, "y:6/3", 2, "y:5/3", 1);
        worth("by 0 gives 0", "y:7/0+5", 5, "y:0/0+5", 5, "y:[0-7]/0+5", 5, "y:5/[d-d]", 0, "y:5/[d-2]+1", 1,
            "y:3+8/0*9", 3);
        worth("- and / go from the left", "y:8-3-2", 3, "y:64/4/2", 8, "y:7/2*2", 6, "y:2*7/2", 7, "y:9-2+3", 10,
            "y:8-[3-2]", 7, "y:64/[4/2]", 32, "y:2+3*4", 14, "y:9-6/3", 7);
    }

    private static void truths() {
        worth("the SUM of the first CLAUSE whose CONDITION holds", "y:d=2?5;y:d=2?6", 5, "y:d=1?5;y:d=2?6", 6,
            "y:d=1?5;y:7;y:d=2?6", 7, "y:7;y:8", 7, "y:d=2?0;y:8", 0, "y:d=1?4;y:d=3?5;y:d<2?6;y:d>2?7;y:9", 9);
        worth("0 without", "y:d=1?5", 0, "y:d=1?5;y:d=3?6", 0, "y:!d=2?9", 0);
        Story.of("0 without, whatever was told ahead of it", "c;a").law("y:d=7?1;y:d=8?2+3*4-5;y:9").law("y:6")
            .holding("y:d=9?1").row("mood 0 0 0", 0, 0).due("law 0", 1).due("mood 0 0 0 0", 9).due("law 1", 1)
            .due("mood 0 0 0 0", 6);
        worth("= < >", "y:2=2?1", 1, "y:2=3?1", 0, "y:3=2?1", 0, "y:2<2?1", 0, "y:2<3?1", 1, "y:3<2?1", 0, "y:2>2?1", 0,
            "y:3>2?1", 1, "y:2>3?1", 0, "y:0-1<0?1", 1, "y:0-1>0?1", 0);
        worth("| between TRUTHS, & between UNITS", "y:0=0|0=1?1", 1, "y:0=1|0=0?1", 1, "y:0=1|0=1?1", 0, "y:0=0|0=0?1", 1,
            "y:0=0&0=0?1", 1, "y:0=0&0=1?1", 0, "y:0=1&0=0?1", 0, "y:0=1&0=1?1", 0, "y:0=0|0=0&0=1?1", 1,
            "y:(0=0|0=0)&0=1?1", 0, "y:0=1&0=1|0=0?1", 1, "y:0=1&(0=1|0=0)?1", 0);
        worth("! of a UNIT alone", "y:!0=0?1", 0, "y:!0=1?1", 1, "y:!!0=0?1", 1, "y:!0=1&0=0?1", 1, "y:!0=0&0=1?1", 0,
            "y:!(0=0&0=1)?1", 1, "y:!0=0|0=0?1", 1, "y:!(0=0|0=0)?1", 0, "y:!!!!!!0=0?1", 1, "y:!!!!!0=0?1", 0);
        worth("a number of digits with 0 ahead", "y:0009", 9, "y:0000", 0, "y:0012+00", 12);
    }

    // ---- moods and odds

    private static void moods() {
        worth("held within 0 .. 99", "y:0-1", 0, "y:0-9999*999", 0, "y:0", 0, "y:1", 1, "y:98", 98, "y:99", 99, "y:100", 99,
            "y:9999*9999", 99);
        int[] taken = {0, 1, 49, 50, 99, 100, 9999};
        for (int worth : taken) {
            int held = Math.min(99, worth);
            Story.under("twice that if it LEAVES one with a DOG", "y:" + worth, "c;a;ad1")
                .due("mood 0 0 3 0", held).due("mood 0 1 3 0", 2 * held).due("mood 0 1 3 1", 2 * held)
                .due("mood 0 1 2 0", held).due("mood 0 1 0 1", held).due("mood 0 1 1 0", held);
        }
        for (int heat = 0; heat <= 9; heat++) {
            Story.of("none at first: a third of HEAT more, cut, if it LEAVES", "bh" + heat + ";cl2;a;ad1")
                .due("mood 0 0 3 0", 2 + heat / 3).due("mood 0 1 3 1", 2 * (2 + heat / 3)).due("mood 0 0 2 1", 1);
        }
        for (int fish = 0; fish <= 9; fish++) {
            Story.of("FISH more, if it TREADS", "ct3f" + fish + ";a").due("mood 0 0 1 0", 3 + fish)
                .due("mood 0 0 2 0", 1).due("mood 0 0 0 0", 1);
        }
        Story.of("w, with 2 more for g and 1 more for k, if it PURRS", "bh0;cp0t0u0l0;cp9t9u9l9;a;ak1")
            .row("mood 0 0 0", 0, 2).row("mood 0 1 0", 1, 3).row("mood 1 0 0", 9, 11).row("mood 1 1 0", 10, 12)
            .row("mood 0 1 1", 0, 0).row("mood 0 1 2", 0, 0).row("mood 0 1 3", 0, 0).row("mood 1 1 3", 9, 9);
    }

    private static void letters() {
        String low = "bh0m0;cp0t1u2l3f0c0;ak0";
        String high = "bh9m27;cp9t8u7l6f9c99;ak1";
        for (int deed = 0; deed < 4; deed++) {
            for (int guilty = 0; guilty < 2; guilty++) {
                String call = "mood 0 0 " + deed + " " + guilty;
                Story.under("d the DEED", "y:d", low).due(call, deed);
                Story.under("w its WEIGHT", "y:w", low).due(call, deed);
                Story.under("w its WEIGHT", "y:w", high).due(call, 9 - deed);
                Story.under("g GUILTY (1, 0)", "y:g", low).due(call, guilty);
                Story.under("k MILK", "y:k", low).due(call, 0).due("milk 0 true", 1).due(call, 1);
                Story.under("k MILK", "y:k", high).due(call, 1).due("milk 0 false", 1).due(call, 0);
                Story.under("h HEAT", "y:h", low).due(call, 0).due("heat 9", 1).due(call, 9);
                Story.under("h HEAT", "y:h", high).due(call, 9).due("heat 0", 1).due(call, 0);
                Story.under("f FISH", "y:f", low).due(call, 0).due("fish 0", 1).due(call, 1);
                Story.under("f FISH", "y:f", high).due(call, 9).due("nights 4", 3).due(call, 5);
                Story.under("m MOON", "y:m", low).due(call, 0).due("nights 27", 27).due(call, 27);
                Story.under("m MOON", "y:m", high).due(call, 27).due("nights 1", 0).due(call, 0);
                Story.under("c CASES", "y:c", low).due(call, 0).times(1, "hear 1 0 5").due(call, 1);
                Story.under("c CASES", "y:c", high).due(call, 99).times(1, "hear 1 0 5").due(call, 99);
            }
        }
    }

    private static void odds() {
        for (int mask = 0; mask < 16; mask++) {
            int count = Integer.bitCount(mask);
            int last = mask == 0 ? 3 : 31 - Integer.numberOfLeadingZeros(mask);
            long[] want = new long[4];
            for (int deed = 0; deed < 4; deed++) {
                want[deed] = (mask >> deed & 1) == 1 ? ALL / count : 0;
            }
            want[last] = mask == 0 ? ALL : ALL - (count - 1) * (ALL / count);
            String cat = "cp" + (mask & 1) + "t" + (mask >> 1 & 1) + "u" + (mask >> 2 & 1) + "l" + (mask >> 3);
            Story s = Story.under("ODDS: the last DEED with a MOOD above 0 has all that is over (all 0: it LEAVES)",
                "y:w", cat + ";a");
            for (int deed = 0; deed < 4; deed++) {
                s.due("odds 0 0 " + deed + " 0", want[deed]).due("odds 0 0 " + deed + " 1", want[deed]);
            }
        }
        Story.under("ODDS with all MOODS at their most, and a DOG", "y:99", "c;ad1").due("odds 0 0 0 0", 200000000)
            .due("odds 0 0 1 0", 200000000).due("odds 0 0 2 0", 200000000).due("odds 0 0 3 0", 400000000);
        Story.under("the least MOOD above 0 among the most", "y:d=0?1;y:99", "c;ad1").due("odds 0 0 0 0", 2518891)
            .due("odds 0 0 1 0", 249370277).due("odds 0 0 2 0", 249370277).due("odds 0 0 3 0", 498740555);
    }

    private static void helds() {
        // the one PURRS (1 POINT) and TREADS by 333333333 each and TURNS by what is over
        String about = "of each parts by 10 to the 9 times ODDS, cut, but the last one with ODDS above 0";
        Story.under(about, "y:d<3?1", "bp1t0u0l9n1;c;c;a").due("held 1 0 0", 333333333).due("held 3 0 0", 555555555);
        Story.under(about, "y:d<3?1", "bp1t0u0l9n2;c;c;a").due("held 1 0 0", 0).due("held 3 0 0", 111111110);
        Story.under(about, "y:d<3?1", "bp0t0u1l9n2;c;c;a").due("held 3 0 0", 111111112);
        Story.under(about, "y:0", "bp9t9u9l1n2;c;c;a").due("held 3 0 0", ALL).due("held 1 0 1", 0);
        // five PURR by 1 of 100 or of 10, one part in all: the sixth TREADS by none of it and LEAVES by what is over
        Story.under("what is over of one part", "y:d=0&w=9?1;y:d=1&w=9?1;y:d=3?c",
            "bt0n15;cp9c99;cp9c99;cp9c99;cp9c99;cp9c9;ct9c1;a").due("held 31 0 0", 1).due("held 63 0 0", 1)
            .due("held 32 0 0", 0).due("odds 5 0 1 0", 500000000);
        for (int needed = 0; needed < 100; needed += needed < 9 || needed > 90 ? 1 : 9) {
            // cat 0 surely brings 3 POINTS, cat 1 surely brings 4
            Story.under("POINTS together are NEEDED or more", "y:w=9?1", "bp3t4n" + needed + ";cp9;ct9;a")
                .due("held 1 0 0", needed <= 3 ? ALL : 0).due("held 2 0 0", needed <= 4 ? ALL : 0)
                .due("held 3 0 1", needed <= 7 ? ALL : 0).due("right 3 0", ALL / 2);
        }
        Story.of("eight with nine POINTS each", "bp9t9u9l9n72;" + many(8, "c") + ";a").due("held 255 0 1", ALL)
            .due("held 127 0 1", 0);
        Story.of("NEEDED one more", "bp9t9u9l9n73;" + many(8, "c") + ";a").due("held 255 0 1", 0);
        Story.of("no POINTS, nothing NEEDED", "bp0t0u0l0n0;c;a").due("held 1 0 0", ALL);
        Story.of("no POINTS, one NEEDED", "bp0t0u0l0n1;c;a").due("held 1 0 0", 0);
        // PURRS if GUILTY (666666666 of it), TREADS or not: 1 by 3
        Story.under("RIGHT: each cut", "y:d=0?2*g;y:d=1?1", "bp1t0n1;c;ag1;ag99;ag0;ag33")
            .due("right 1 0", 6666666 + 990000000L).due("right 1 1", 659999999L + 10000000).due("right 1 2", ALL)
            .due("right 1 3", 219999999L + 670000000);
        Story.under("RIGHT: of what is not HELD if not, cut", "y:d=0?1;y:d=1?2", "bp1t0n1;c;ag1;ag50")
            .due("right 1 0", 3333333L + 660000000).due("right 1 1", 166666666L + 333333333);
    }

    // ---- cases

    private static long[] numbersFrom(long seed, int n) {
        BigInteger round = BigInteger.ONE.shiftLeft(64);
        BigInteger x = BigInteger.valueOf(seed).mod(round);
        long[] numbers = new long[n];
        for (int i = 0; i < n; i++) {
            x = x.multiply(new BigInteger("6364136223846793005")).add(new BigInteger("1442695040888963407")).mod(round);
            numbers[i] = x.shiftRight(33).longValueExact();
        }
        return numbers;
    }

    private static final long[] SEEDS = {0, 1, -1, 2, 5, 99, Long.MAX_VALUE, Long.MIN_VALUE, Long.MAX_VALUE - 1,
        4294967296L, -4294967297L, 6364136223846793005L, 123456789012345L, -77777777777L};

    private static void guilt() {
        for (long seed : SEEDS) {
            long draw = numbersFrom(seed, 1)[0] % 100;
            for (long guilt = Math.max(0, draw - 1); guilt <= Math.min(99, draw + 1); guilt++) {
                int guilty = draw < guilt ? 1 : 0;
                Story.under("a draw of 100: below its GUILT it is GUILTY", "y:d=0?g;y:d=3?1-g", "bp1n1;c;ag" + guilt)
                    .due("hear 1 0 " + seed, guilty).due("log 0 2", guilty == 1 ? 0 : 3);
            }
            Story.under("GUILT 0 is never GUILTY", "y:d=0?g;y:d=3?1-g", "bp1n1;c;ag0").due("hear 1 0 " + seed, 0);
        }
    }

    /** Moods of two deeds by which the first one's odds are so many of 1000, cut; null if there are none. */
    private static int[] moodsFor(long thousandths) {
        for (int one = 0; one <= 99; one++) {
            for (int other = 1; other <= 99; other++) {
                if ((long) ALL * one / (one + other) / 1000000 == thousandths) {
                    return new int[] {one, other};
                }
            }
        }
        return null;
    }

    private static void deeds() {
        int tried = 0;
        for (long seed : SEEDS) {
            long draw = numbersFrom(seed, 2)[1] % 1000;
            int[] above = moodsFor(draw + 1);
            int[] at = moodsFor(draw);
            if (above == null || at == null) {
                continue;
            }
            tried++;
            for (int first = 0; first < 3; first++) {
                for (int then = first + 1; then < 4; then++) {
                    String about = "a draw of 1,000 is below ODDS by 1,000,000, cut: " + first + " or " + then;
                    String law = "y:d=" + first + "?%d;y:d=" + then + "?%d";
                    Story.under(about, String.format(law, above[0], above[1]), "c;ag50").times(1, "hear 1 0 " + seed)
                        .due("log 0 2", first);
                    Story.under(about, String.format(law, at[0], at[1]), "c;ag50").times(1, "hear 1 0 " + seed)
                        .due("log 0 2", then);
                }
            }
        }
        Story.of("some seeds have such odds").due("count 3", tried >= 5 ? 0 : 1);
    }

    private static long seedOf(long second) {
        for (long seed = 0; seed < 100000; seed++) {
            if (numbersFrom(seed, 2)[1] % 1000 == second) {
                return seed;
            }
        }
        return -1;
    }

    private static void together() {
        // PURRS by 166666666, TREADS by 333333333: 499 of 1000 with both; then TURNS
        String about = "below ODDS by 1,000,000, cut, of that and the next together";
        Story.under(about, "y:d<3?d+1", "c;ag50").times(1, "hear 1 0 " + seedOf(498)).due("log 0 2", 1)
            .times(1, "hear 1 0 " + seedOf(499)).due("log 0 2", 2).times(1, "hear 1 0 " + seedOf(165)).due("log 0 2", 0)
            .times(1, "hear 1 0 " + seedOf(166)).due("log 0 2", 1).times(1, "hear 1 0 " + seedOf(999)).due("log 0 2", 2)
            .times(1, "hear 1 0 " + seedOf(0)).due("log 0 2", 0);
        Story.under("else it LEAVES", "y:d=0?1;y:d=3?1", "c;ag50").times(1, "hear 1 0 " + seedOf(499)).due("log 0 2", 0)
            .times(1, "hear 1 0 " + seedOf(500)).due("log 0 2", 3).times(1, "hear 1 0 " + seedOf(999)).due("log 0 2", 3)
            .times(1, "hear 1 0 " + seedOf(0)).due("log 0 2", 0);
        Story.under("all MOODS 0: it LEAVES", "y:0", "c;ag50").times(1, "hear 1 0 " + seedOf(0)).due("log 0 2", 3)
            .times(1, "hear 1 0 " + seedOf(999)).due("log 0 2", 3);
    }

    private static void severalCats() {
        for (long seed : SEEDS) {
            long[] x = numbersFrom(seed, 6);
            for (int set : new int[] {1, 2, 5, 11, 26, 31}) {
                int points = 0;
                int drawn = 1;
                int[] log = new int[5];
                for (int cat = 0; cat < 5; cat++) {
                    if ((set >> cat & 1) == 1) {
                        // all four DEEDS by 250 of 1000
                        log[drawn - 1] = 10 * cat + (int) (x[drawn] % 1000 / 250);
                        points += new int[] {7, 5, 2, 1}[log[drawn - 1] % 10];
                        drawn++;
                    }
                }
                for (int needed = points; needed <= points + 1; needed++) {
                    Story s = Story.under("then each CAT of the set by numbers; VERDICT", "y:1",
                        "bp7t5u2l1n" + needed + ";c;c;c;c;c;a");
                    s.due("hear " + set + " 0 " + seed, needed <= points).due("count 6", drawn - 1).due("count 8", 1);
                    for (int i = 0; i < drawn - 1; i++) {
                        s.due("log " + i + " 0", log[drawn - 2 - i] / 10).due("log " + i + " 2", log[drawn - 2 - i] % 10);
                    }
                }
            }
        }
        Story.under("All CATS' ODDS are as the CASE began", "y:d=0&c=0?1;y:d=1&c=1?1;y:d=2&c=2?1", "c;c;c;a")
            .times(1, "hear 7 0 9").row("often 0", 1, 0, 0, 0).row("often 2", 1, 0, 0, 0).times(1, "hear 6 0 9")
            .row("often 2", 1, 1, 0, 0).row("often 0", 1, 0, 0, 0).times(1, "hear 7 0 9").row("often 0", 1, 1, 0, 0)
            .row("often 2", 1, 1, 1, 0);
    }

    private static void fullLog() {
        Story s = Story.under("the LOG has it (60 latest)", "y:w=9?1", "cp9;ct9;cu9;a;a").times(1, "hear 1 0 1");
        for (int i = 2; i <= 60; i++) {
            s.times(1, "hear 2 1 " + i).due("count 6", i);
        }
        s.due("log 59 0", 0).due("log 59 1", 0).due("log 59 2", 0).due("log 58 0", 1).refused("log 60 0");
        s.times(1, "hear 4 1 3").due("count 6", 60).due("log 0 0", 2).due("log 0 1", 1).due("log 0 2", 2)
            .due("log 1 0", 1).due("log 59 0", 1).row("often 0", 0, 0, 0, 0).row("often 1", 0, 59, 0, 0)
            .row("often 2", 0, 0, 1, 0).refused("log 60 0", "log -1 0");
        s.due("undo", 39).due("count 6", 60).due("log 59 0", 0).due("log 0 0", 1).row("often 0", 1, 0, 0, 0);
        Story t = Story.under("a CASE of eight at 59", "y:w=9?1", "cp9;ct9;cu9;cl9;cp9;ct9;cu9;cl9;a");
        t.times(7, "hear 255 0 1").times(1, "hear 7 0 2").due("count 6", 59).times(1, "hear 255 0 3").due("count 6", 60);
        for (int i = 0; i < 8; i++) {
            t.due("log " + i + " 0", 7 - i).due("log " + i + " 2", (7 - i) % 4);
        }
        t.due("log 8 0", 2).due("log 10 0", 0).due("log 11 0", 7).due("log 59 0", 7).due("undo", 8).due("count 6", 59)
            .due("log 0 0", 2).due("log 58 0", 0);
    }

    private static void fullCases() {
        Story.of("it has one CASE more (99 at most)", "cc97;cc99;c;a").times(1, "hear 7 0 1").due("cat 0 5", 98)
            .due("cat 1 5", 99).due("cat 2 5", 1).times(1, "hear 7 0 1").due("cat 0 5", 99).due("cat 2 5", 2)
            .times(1, "hear 3 0 1").due("cat 0 5", 99).due("cat 2 5", 2).due("count 6", 8).due("undo", 2)
            .due("cat 0 5", 99).due("undo", 1).due("cat 0 5", 98).due("undo", 0).due("cat 0 5", 97).due("cat 2 5", 0);
    }

    // ---- acts

    private static void undone() {
        String[] acts = {"fish 0", "nights 1", "heat 1", "milk 0 true", "retire 0 true", "hear 2 0 7"};
        String[] behind = {"cat 0 4", "bench 6", "bench 5", "accused 0 1", "cat 0 6", "count 6"};
        for (int i = 0; i < acts.length; i++) {
            Story s = Story.of("All these (a CASE as one) are ACTS: " + acts[i], "bh4;c;c;a").due(behind[i], i == 2 ? 4 : 0);
            s.times(1, acts[i]).due(behind[i], 1).due("count 8", 1).due("undo", 0).due(behind[i], i == 2 ? 4 : 0)
                .due("count 8", 0).refused("undo");
        }
        Story.of("a CASE of eight is one ACT", many(8, "c") + ";a").times(1, "hear 255 0 1").due("count 8", 1)
            .due("count 6", 8).due("undo", 0).due("count 6", 0);
        Story.of("NIGHTS that change nothing to be seen are an ACT", "c;a").due("nights 28", 0).due("count 8", 1)
            .due("undo", 0);
        Story s = Story.of("the latest 40 can be UNDONE one by one", "c;a");
        for (int i = 1; i <= 41; i++) {
            s.times(1, "nights 1").due("count 8", Math.min(40, i)).due("bench 6", i % 28);
        }
        for (int i = 39; i >= 0; i--) {
            s.due("undo", i).due("bench 6", (i + 1) % 28);
        }
        s.refused("undo").due("bench 6", 1);
        Story.of("those that came behind an UNDONE one", "c;a").times(39, "nights 1").due("undo", 38).due("undo", 37)
            .times(3, "nights 2").due("count 8", 40).due("bench 6", (37 + 6) % 28).due("undo", 39)
            .due("bench 6", (37 + 4) % 28);
        Story.of("round and round", "c;a").times(100, "nights 1").due("count 8", 40).due("undo", 39).times(2, "nights 3")
            .due("count 8", 40).due("bench 6", (99 + 6) % 28).due("undo", 39).due("undo", 38)
            .due("bench 6", 99 % 28);
        Story.of("what is no ACT", "c;a").holding("y:1").times(1, "see 0 0 0").due("image", 0).due("law -1", 1)
            .feed("y:2").due("text 1", 1).due("count 8", 0).refused("undo");
    }

    public static void main(String[] args) {
        clauses();
        howMany();
        items();
        lettersOfOthers();
        lawClauses();
        conditions();
        sums();
        nesting();
        blanks();
        numbers();
        truths();
        moods();
        letters();
        odds();
        helds();
        guilt();
        deeds();
        together();
        severalCats();
        fullLog();
        fullCases();
        undone();
        System.exit(Story.close("the Terms hold"));
    }
}
