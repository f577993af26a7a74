import java.util.ArrayList;
import java.util.List;
import java.util.NoSuchElementException;

/**
 * Calls on a new object, one behind the other, each with the answer that is due. Calls are told as texts, "held 3 0 1".
 * Behind a refused call all other calls must answer as if it had never been: both runs are played again on new objects
 * and looked at from all sides, as one object is good for 512 calls alone.
 */
final class Story {
    static final long THROWS = Long.MIN_VALUE;
    static final long ALL = 1000000000L;
    private static final long FAILS = Long.MIN_VALUE + 1;
    private static final int MOST_CALLS = 512;
    private static final List<List<Call>> LOOKS = looks();

    private static int wrong = 0;
    private static int checks = 0;

    private final String about;
    private final CatCourt x = new CatCourt();
    private int calls = 0;
    private final List<Call> taken = new ArrayList<>();
    private int lookedBehind = -1;
    private List<long[]> seen = null;

    private Story(String about) {
        this.about = about;
    }

    /** A new object, and what of the document it is about. */
    static Story of(String about) {
        return new Story(about);
    }

    static Story of(String about, String court) {
        return new Story(about).court(court);
    }

    static Story under(String about, String law, String court) {
        return new Story(about).court(court).holding(law);
    }

    static int close(String good) {
        System.out.println(wrong == 0 ? good + " (" + checks + " answers)" : wrong + " answers are not as due");
        return wrong == 0 ? 0 : 1;
    }

    // ---- what happens

    Story court(String text) {
        due("end 0", 1);
        feed(text);
        must("text 0", answer("text 0") > 0, text);
        return this;
    }

    /** A law more, which need not hold. */
    Story law(String text) {
        due("end 0", 1);
        feed(text);
        must("text 1", answer("text 1") >= 0, text);
        return this;
    }

    Story holding(String law) {
        law(law);
        return due("law " + (answer("count 2") - 1), 1);
    }

    Story feed(String text) {
        for (int i = 0; i < text.length(); i += 20) {
            int[] v = new int[5];
            for (int j = 0; j < 20 && i + j < text.length(); j++) {
                v[j / 4] |= text.charAt(i + j) << 24 - 8 * (j % 4);
            }
            String call = "feed " + v[0] + " " + v[1] + " " + v[2] + " " + v[3] + " " + v[4];
            must(call, answer(call) > 0, text);
        }
        return this;
    }

    /** The tape has this text alone. */
    Story tape(String text) {
        return due("end 0", 1).feed(text);
    }

    Story due(String call, long want) {
        long got = answer(call);
        must(call, got == want, got + ", due is " + want);
        return this;
    }

    Story due(String call, boolean want) {
        return due(call, want ? 1 : 0);
    }

    /** The same call's answers for 0, 1 and so on behind its other arguments. */
    Story row(String call, long... want) {
        for (int i = 0; i < want.length; i++) {
            due(call + " " + i, want[i]);
        }
        return this;
    }

    Story times(int n, String call) {
        for (int i = 0; i < n; i++) {
            long got = answer(call);
            must(call, got != refusal(call), "refused");
        }
        return this;
    }

    Story refused(String... calls) {
        for (String call : calls) {
            refused(call, refusal(call));
        }
        return this;
    }

    Story refused(String call, long want) {
        Call told = Call.of(call);
        count(call);
        long got = told.on(x);
        must(call, got == want, got + ", due is " + want);
        List<long[]> before = lookBefore();
        List<Call> run = new ArrayList<>(taken);
        run.add(told);
        List<long[]> after = look(run);
        for (int i = 0; i < LOOKS.size(); i++) {
            compare(call, LOOKS.get(i), before.get(i), after.get(i));
        }
        return this;
    }

    /** Each of these calls, on a new object behind what was told so far, is not refused. */
    Story wouldTake(String... others) {
        for (String other : others) {
            CatCourt y = new CatCourt();
            for (Call call : taken) {
                call.on(y);
            }
            long got = Call.of(other).on(y);
            must(other, got != refusal(other) && got != FAILS, got + ", but it is to be taken");
        }
        return this;
    }

    /** The answer is the one of another call, which is to be seen with it. */
    Story same(String call, String other) {
        return due(call, answer(other));
    }

    long answer(String call) {
        Call told = Call.of(call);
        count(call);
        taken.add(told);
        return told.on(x);
    }

    private void count(String call) {
        calls++;
        must(call, calls <= MOST_CALLS, "behind more than 512 calls");
    }

    // ---- how it is judged

    private void must(String call, boolean holds, String what) {
        checks++;
        if (!holds) {
            wrong++;
            if (wrong <= 40) {
                System.out.println(about + ": " + call + " answered " + what + " (call " + calls + ")");
            }
        }
    }

    private static long refusal(String call) {
        switch (call.split(" ")[0]) {
            case "end": case "law": case "heat": case "milk": case "retire": return 0;
            case "fault": return -2;
            case "fits": case "count": return -1000000;
            case "cat": return THROWS;
            default: return -1;
        }
    }

    private void compare(String refused, List<Call> look, long[] before, long[] after) {
        for (int i = 0; i < before.length && i < after.length; i++) {
            if (before[i] != after[i]) {
                must(refused, false, "that it is refused, but then " + look.get(i) + " answered " + after[i]
                    + " instead of " + before[i]);
                return;
            }
        }
        checks++;
    }

    private List<long[]> lookBefore() {
        if (lookedBehind != taken.size()) {
            lookedBehind = taken.size();
            seen = look(taken);
        }
        return seen;
    }

    private static List<long[]> look(List<Call> calls) {
        List<long[]> answers = new ArrayList<>();
        for (List<Call> look : LOOKS) {
            CatCourt x = new CatCourt();
            for (Call call : calls) {
                call.on(x);
            }
            long[] row = new long[Math.max(0, Math.min(look.size(), MOST_CALLS - calls.size()))];
            for (int i = 0; i < row.length; i++) {
                row[i] = look.get(i).on(x);
            }
            answers.add(row);
        }
        return answers;
    }

    // ---- the sides from which it is looked at

    private static List<List<Call>> looks() {
        List<List<Call>> looks = new ArrayList<>();
        looks.add(told(counts(), court()));
        looks.add(told(log()));
        looks.add(told(reckoned()));
        looks.add(told(undone()));
        looks.add(told("back", court(), "undo", logHeads()));
        looks.add(told(laws()));
        looks.add(told("text 0", counts(), court(), "back", "undo"));
        looks.add(told("text 1", "count 2", "count 3", "law 0", "mood 0 0 0 0", "law 1", "mood 0 0 1 1", "law 2",
            "mood 0 0 2 0", "law 3", "mood 0 0 3 1", counts()));
        looks.add(told(cut()));
        return looks;
    }

    private static List<Call> told(String... texts) {
        List<Call> calls = new ArrayList<>();
        for (String text : texts) {
            for (String call : text.split(";")) {
                calls.add(Call.of(call));
            }
        }
        return calls;
    }

    private static String counts() {
        return "count 0;count 1;count 2;count 3;count 4;count 5;count 6;count 7;count 8;fault 0;fault 1";
    }

    private static String court() {
        StringBuilder s = new StringBuilder("harsh");
        for (int what = 0; what < 7; what++) {
            s.append(";bench ").append(what);
            for (int cat = 0; cat < 8; cat++) {
                s.append(";cat ").append(cat).append(' ').append(what);
            }
            for (int accused = 0; accused < 6 && what < 3; accused++) {
                s.append(";accused ").append(accused).append(' ').append(what);
            }
        }
        return s.toString();
    }

    private static String log() {
        StringBuilder s = new StringBuilder("count 6");
        for (int i = 0; i < 61; i++) {
            s.append(";log ").append(i).append(" 0;log ").append(i).append(" 1;log ").append(i).append(" 2");
        }
        for (int cat = 0; cat < 8; cat++) {
            for (int deed = 0; deed < 4; deed++) {
                s.append(";often ").append(cat).append(' ').append(deed);
            }
        }
        return s.toString();
    }

    private static String logHeads() {
        return "count 6;log 0 0;log 0 1;log 0 2;log 7 0;log 7 2;log 58 2;log 59 0;log 59 2";
    }

    private static String reckoned() {
        StringBuilder s = new StringBuilder("sure;drank -1;drank 0;drank 1;drank 31;drank 63;fits 0;fits 1");
        for (int a = 0; a < 6; a++) {
            s.append(";guess ").append(a).append(";three ").append(a).append(";spare ").append(a).append(" 1");
            s.append(";noisy ").append(a).append(" 1;rests ").append(a).append(" -1;rests ").append(a).append(" 0");
            for (int cat = 0; cat < 8; cat++) {
                String pair = cat + " " + a + " ";
                s.append(";mood ").append(pair).append((cat + a) % 4).append(" 1;odds ").append(pair).append("0 0");
            }
        }
        for (int set : new int[] {1, 2, 3, 8, 15, 127, 254, 255}) {
            s.append(";held ").append(set).append(" 0 1;right ").append(set).append(" 1;mean ").append(set);
            s.append(" 0 0;quiet ").append(set).append(" 1 1;bar ").append(set).append(" 0 0;free ").append(set);
            s.append(";brothers ").append(set).append(" 0 1;appeals ").append(set).append(" 0 3");
        }
        s.append(";moonlit 1 0 0;moonlit 3 1 1;mercy 1 0 50 1;mercy 3 1 20 1;ask 1 0 0;ask 2 0 1;ask 4 1 0;ask 8 0 1");
        return s.append(";alike 0 0 1 1;surely 0 0;surely 1 1;likely 0 0 1;likely 1 1 0").toString();
    }

    private static String undone() {
        StringBuilder s = new StringBuilder();
        for (int i = 0; i < 41; i++) {
            s.append("undo;bench 5;bench 6;cat 0 4;cat 1 6;accused 0 1;log 0 0;count 6;");
        }
        return s.append("count 8").toString();
    }

    private static String laws() {
        StringBuilder s = new StringBuilder("fits 0;fits 1");
        for (int law = 3; law >= -1; law--) {
            s.append(";law ").append(law).append(";count 4;odds 0 0 0 0;odds 1 1 1 1");
            for (int deed = 0; deed < 4; deed++) {
                s.append(";mood 0 0 ").append(deed).append(" 0;mood 1 1 ").append(deed).append(" 1");
            }
        }
        return s.toString();
    }

    private static String cut() {
        StringBuilder s = new StringBuilder("count 3");
        for (int n = 240; n >= 0; n = n > 36 ? n - 17 : n - 1) {
            s.append(";end ").append(n).append(";fault 0;fault 1");
        }
        return s.append(";count 3;feed 1664835840 0 0 0 0;text 0").toString();
    }

    // ---- a call

    record Call(String text, String name, long[] v) {
        static Call of(String text) {
            String[] parts = text.split(" ");
            long[] v = new long[6];
            for (int i = 1; i < parts.length; i++) {
                v[i - 1] = parts[i].equals("true") ? 1 : parts[i].equals("false") ? 0 : Long.parseLong(parts[i]);
            }
            return new Call(text, parts[0], v);
        }

        @Override
        public String toString() {
            return text;
        }

        private int v(int i) {
            return (int) v[i];
        }

        /** Nothing but the one exception of the document may come out of a call. */
        long on(CatCourt x) {
            try {
                return number(x);
            } catch (NoSuchElementException e) {
                return name.equals("cat") ? THROWS : FAILS;
            } catch (RuntimeException e) {
                return FAILS;
            }
        }

        private long number(CatCourt x) {
            switch (name) {
                case "end": return x.end(v(0)) ? 1 : 0;
                case "law": return x.law(v(0)) ? 1 : 0;
                case "heat": return x.heat(v(0)) ? 1 : 0;
                case "milk": return x.milk(v(0), v[1] == 1) ? 1 : 0;
                case "retire": return x.retire(v(0), v[1] == 1) ? 1 : 0;
                case "feed": return x.feed(v(0), v(1), v(2), v(3), v(4));
                case "fault": return x.fault(v(0));
                case "text": return x.text(v(0));
                case "bench": return x.bench(v(0));
                case "cat": return x.cat(v(0), v(1));
                case "accused": return x.accused(v(0), v(1));
                case "mood": return x.mood(v(0), v(1), v(2), v(3));
                case "odds": return x.odds(v(0), v(1), v(2), v(3));
                case "held": return x.held(v(0), v(1), v(2));
                case "right": return x.right(v(0), v(1));
                case "fish": return x.fish(v(0));
                case "nights": return x.nights(v(0));
                case "hear": return x.hear(v(0), v(1), v[2]);
                case "undo": return x.undo();
                case "log": return x.log(v(0), v(1));
                case "ask": return x.ask(v(0), v(1), v(2));
                case "three": return x.three(v(0));
                case "spare": return x.spare(v(0), v(1));
                case "mercy": return x.mercy(v(0), v(1), v(2), v(3));
                default: return numberToo(x);
            }
        }

        private long numberToo(CatCourt x) {
            switch (name) {
                case "appeals": return x.appeals(v(0), v(1), v(2));
                case "alike": return x.alike(v(0), v(1), v(2), v(3));
                case "rests": return x.rests(v(0), v(1));
                case "surely": return x.surely(v(0), v(1));
                case "noisy": return x.noisy(v(0), v(1));
                case "mean": return x.mean(v(0), v(1), v(2));
                case "likely": return x.likely(v(0), v(1), v(2));
                case "quiet": return x.quiet(v(0), v(1), v(2));
                case "bar": return x.bar(v(0), v(1), v(2));
                case "moonlit": return x.moonlit(v(0), v(1), v(2));
                case "brothers": return x.brothers(v(0), v(1), v(2));
                case "see": return x.see(v(0), v(1), v(2));
                case "guess": return x.guess(v(0));
                case "drank": return x.drank(v(0));
                case "sure": return x.sure();
                case "fits": return x.fits(v(0));
                case "often": return x.often(v(0), v(1));
                case "harsh": return x.harsh();
                case "free": return x.free(v(0));
                case "image": return x.image();
                case "back": return x.back();
                case "count": return x.count(v(0));
                default: throw new Error("no such call: " + text);
            }
        }
    }
}
