import java.util.ArrayList;
import java.util.List;

/**
 * Of each call and each of its arguments: the first and the last value that is taken, and the first that is refused on
 * each side, in a small court, in a full one, and without one; what is refused changes nothing.
 */
public final class BoundsTest {
    private static final String MOST = " " + Integer.MAX_VALUE;
    private static final String LEAST = " " + Integer.MIN_VALUE;

    /**
     * A letter for each argument: c CAT, a ACCUSED, b another ACCUSED, e another CAT, s set, q set of four CATS at most,
     * d DEED, g 0 or 1, t true or false, x a seed, or the least and the most that is taken, with .. between.
     */
    private static final String[] CALLS = {
        "4 fault 0..1", "6 bench 0..6", "7 cat c 0..6", "8 accused a 0..2", "10 mood c a d g", "11 odds c a d g",
        "12 held s a g", "13 right s a", "15 nights 1..28", "19 hear s a x", "23 three a", "24 spare a g",
        "25 mercy q a 0..100 g", "26 appeals s a 0..9", "27 alike c a e b", "29 surely c a", "30 noisy a g",
        "31 mean s a g", "32 likely c a g", "33 quiet s a g", "34 bar s a g", "35 moonlit s a g", "36 brothers s a b",
        "38 guess a", "41 fits g", "42 often c d", "44 free s", "47 count 0..8",
    };

    private final String about;
    private final int cats;
    private final int people;
    private final int serving;
    private final List<String> acts;

    private BoundsTest(String about, int cats, int people, int serving, List<String> acts) {
        this.about = about;
        this.cats = cats;
        this.people = people;
        this.serving = serving;
        this.acts = acts;
    }

    private Story story(String call) {
        Story s = Story.of(about + ": " + call);
        for (String act : acts) {
            if (act.startsWith("COURT ")) {
                s.court(act.substring(6));
            } else if (act.startsWith("LAW ")) {
                s.law(act.substring(4));
            } else if (act.startsWith("TAPE ")) {
                s.tape(act.substring(5));
            } else {
                s.times(1, act);
            }
        }
        return s;
    }

    private int highest(int set) {
        return Integer.highestOneBit(set);
    }

    private String[] good(String sort) {
        int low = Integer.lowestOneBit(serving);
        switch (sort) {
            case "c": return new String[] {"0", "" + (cats - 1)};
            case "e": return new String[] {"1"};
            case "a": return new String[] {"0", "" + (people - 1)};
            case "b": return new String[] {"1"};
            case "s": return new String[] {"" + low, "" + serving, "" + highest(serving)};
            case "q": return new String[] {"" + low, "" + highest(serving), "" + fourOf(serving)};
            case "d": return new String[] {"0", "3"};
            case "g": return new String[] {"0", "1"};
            case "t": return new String[] {"true", "false"};
            case "x": return new String[] {"0", "" + Long.MIN_VALUE, "" + Long.MAX_VALUE};
            default: return sort.split("\\.\\.");
        }
    }

    private static int fourOf(int set) {
        int four = 0;
        for (int i = 0; i < 31; i++) {
            four |= Integer.bitCount(four) < 4 ? set & 1 << i : 0;
        }
        return four;
    }

    private String[] bad(String sort) {
        String edges = LEAST + MOST;
        int retired = (1 << cats) - 1 & ~serving;
        switch (sort) {
            case "c": case "e": return ("-1 " + cats + " " + (cats + 1) + " 8 100" + edges).split(" ");
            case "a": case "b": return ("-1 " + people + " " + (people + 1) + " 6 100" + edges).split(" ");
            case "s": case "q":
                return ("0 -1 " + (1 << cats) + " " + (1 << cats | serving) + " 256 " + (256 | serving) + " -256"
                    + " 65536 " + (65536 | serving) + " -2147483647 " + (retired == 0 ? "0" : "" + retired) + " "
                    + (retired == 0 ? "0" : "" + (serving | retired)) + edges
                    + (sort.equals("q") && Integer.bitCount(serving) > 4 ? " " + serving : "")).split(" ");
            case "d": return ("-1 4 5" + edges).split(" ");
            case "g": return ("-1 2 3" + edges).split(" ");
            case "t": case "x": return new String[0];
            default:
                String[] ends = sort.split("\\.\\.");
                return (Integer.parseInt(ends[0]) - 1 + " " + (Integer.parseInt(ends[1]) + 1) + edges).split(" ");
        }
    }

    /** The call with one argument at each of these values and the others as they may be. */
    private String[] calls(String[] told, int place, String[] values, boolean isLast) {
        String[] calls = new String[values.length];
        for (int i = 0; i < values.length; i++) {
            StringBuilder s = new StringBuilder(told[1]);
            for (int j = 2; j < told.length; j++) {
                String[] good = good(told[j]);
                s.append(' ').append(j == place ? values[i] : good[isLast ? good.length - 1 : 0]);
            }
            calls[i] = s.toString();
        }
        return calls;
    }

    private void check(String signature) {
        String[] told = signature.split(" ");
        for (int place = 2; place < told.length; place++) {
            Story s = story("promise " + told[0]);
            boolean isPaired = told[1].equals("alike") || told[1].equals("brothers");
            if (!told[1].equals("three") && !told[1].equals("guess") && !told[1].equals("mercy")) {
                s.wouldTake(calls(told, place, good(told[place]), false));
            }
            s.refused(calls(told, place, bad(told[place]), false));
            if (!isPaired) {
                s.refused(calls(told, place, bad(told[place]), true));
            }
        }
    }

    private void checkAll() {
        for (String signature : CALLS) {
            check(signature);
        }
        Story s = story("what depends on how it stands");
        long tape = s.answer("count 3");
        long told = s.answer("count 2");
        long log = s.answer("count 6");
        int drank = (int) s.answer("drank -1");
        int asked = Integer.bitCount(serving);
        check("3 end 0.." + tape);
        check("9 law -1.." + (told - 1));
        check("22 ask 1.." + asked + " a g");
        check("5 text 0..1", false);
        check("14 fish c", false);
        check("17 milk a t", false);
        check("18 retire c t", false);
        check("16 heat 0..9", false);
        check("37 see c a d", false);
        check("28 rests a -1.." + (s.answer("rests 0 -1") - 1), false);
        if (log > 0) {
            check("21 log 0.." + (log - 1) + " 0..2");
        }
        if (drank > 0) {
            check("39 drank -1.." + (drank - 1));
        } else {
            story("39").refused("drank 0", "drank -2");
        }
    }

    /** Where it depends on more whether it is taken, what is refused alone. */
    private void check(String signature, boolean isTaken) {
        String[] told = signature.split(" ");
        for (int place = 2; place < told.length; place++) {
            story("promise " + told[0]).refused(calls(told, place, bad(told[place]), isTaken))
                .refused(calls(told, place, bad(told[place]), !isTaken));
        }
    }

    private static BoundsTest small() {
        List<String> acts = new ArrayList<>(List.of("COURT bh0;cp1t0u0l1;cp0t1u0l0;cf9;ag50;ag20k1d1;a", "fish 0",
            "hear 3 0 5", "retire 2 true", "hear 1 1 6", "see 0 0 0", "image", "nights 3", "TAPE c;a"));
        return new BoundsTest("a small court", 3, 3, 3, acts);
    }

    /** As much of all as there can be: 8 CATS, 6 ACCUSED, 4 LAWS, 240 bytes, a LOG of 60, 16 SEEN, 40 ACTS. */
    static List<String> fullActs() {
        List<String> acts = new ArrayList<>();
        acts.add("COURT bp3t2u1l0n4h9m20;cf9p5;cf8t3;cc99;c;cu4;cl7;cp2t2;c;ag50;ag20k1;ad1;ag99;ag0;ak1d1");
        acts.addAll(List.of("LAW y:d=0?w+g;y:1", "LAW y:w+f/2+1", "LAW y:w+1+g*[3-d]", "LAW y:c+d+1", "law 2"));
        for (int i = 0; i < 8; i++) {
            acts.add("hear 255 " + i % 6 + " " + i);
        }
        for (int i = 0; i < 16; i++) {
            acts.add("see " + i % 8 + " " + i % 6 + " " + i % 4);
        }
        acts.add("fish 1");
        acts.add("image");
        for (int i = 0; i < 30; i++) {
            acts.add("heat " + (i % 2 == 0 ? 8 : 9));
        }
        acts.add("retire 7 true");
        StringBuilder tape = new StringBuilder("y:g=1?7");
        while (tape.length() < 240) {
            tape.append(' ');
        }
        acts.add("TAPE " + tape);
        return acts;
    }

    private static BoundsTest full() {
        return new BoundsTest("a full court", 8, 6, 127, fullActs());
    }

    private static void isFull() {
        Story s = full().story("it is full");
        int[] counts = {8, 6, 4, 240, 2, 7, 60, 16, 40};
        for (int i = 0; i < counts.length; i++) {
            s.due("count " + i, counts[i]);
        }
        s.refused("text 0", "text 1", "text 2", "fish 0", "fish 1", "see 0 0 0", "feed 1 0 0 0 0", "feed 0 0 0 0 -1",
            "heat 9", "milk 1 true", "milk 0 false", "retire 7 true", "retire 0 false", "log 60 0", "law 4", "end 241", "hear 255 0 1",
            "hear 128 0 1", "ask 8 0 0");
    }

    private static void withoutCourt() {
        Story s = Story.of("no COURT");
        for (String signature : CALLS) {
            String[] told = signature.split(" ");
            if (!told[1].equals("fault") && !told[1].equals("count")) {
                BoundsTest one = new BoundsTest("no COURT", 1, 1, 1, List.of());
                s.refused(one.calls(told, 2, one.good(told[2]), false));
            }
        }
        s.refused("fish 0", "heat 4", "heat 0", "milk 0 true", "milk 0 false", "retire 0 true", "retire 0 false", "undo",
            "log 0 0", "ask 1 0 0", "rests 0 -1", "rests 0 0", "see 0 0 0", "drank -1", "drank 0", "sure", "harsh", "image",
            "back", "text 0", "text 1");
        Story t = Story.of("no COURT, but a LAW and a TAPE").law("y:1").due("law 0", 1).feed("c;");
        t.refused("bench 0", "cat 0 0", "mood 0 0 0 0", "fits 0", "drank -1", "image", "back", "text 0", "text 1", "end 3",
            "law 1", "heat 1");
    }

    public static void main(String[] args) {
        small().checkAll();
        full().checkAll();
        isFull();
        withoutCourt();
        System.exit(Story.close("all bounds hold"));
    }
}
