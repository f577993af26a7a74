import java.util.NoSuchElementException;

/** A court in which cats find the guilty: it is guilty if it purrs. */
public final class CatCourt {
    public static final int NONE = -1;
    public static final int HIDDEN = -1000000;

    private static final int ALL = 1000000000;
    private static final int MOST_CATS = 8;
    private static final int MOST_ACCUSED = 6;
    private static final int MOST_LAWS = 4;
    private static final int MOST_BYTES = 240;
    private static final int MOST_SEEN = 16;
    private static final int MOST_ACTS = 40;
    private static final int MOST_LOG = 60;
    private static final int MOST_NEEDED = 99;
    private static final int MOST_FISH = 9;
    private static final int MOST_CASES = 99;
    private static final int MOST_HEAT = 9;
    private static final int MOST_APPEALS = 9;
    private static final int MOST_TREATED = 4;
    private static final int TREATS = 4;
    private static final int MOONS = 28;
    private static final int DEEDS = 4;
    private static final int PURRS = 0;
    private static final int TREADS = 1;
    private static final int LEAVES = 3;

    private static final int NEEDED = 4;
    private static final int HEAT = 5;
    private static final int MOON = 6;
    private static final int FISH = 4;
    private static final int CASES = 5;
    private static final int RETIRED = 6;
    private static final int GUILT = 0;
    private static final int MILK = 1;
    private static final int DOG = 2;

    private static final int BENCH_SIZE = 7;
    private static final int CAT_SIZE = 7;
    private static final int ACCUSED_SIZE = 3;

    private static final int COURT = 0;
    private static final int LAW = 1;
    private static final int END = -1;
    private static final int NO_SORT = -2;

    private static final char[] BENCH_LETTERS = {'p', 't', 'u', 'l', 'n', 'h', 'm'};
    private static final int[] BENCH_MOST = {9, 9, 9, 9, 99, 9, 27};
    private static final int[] BENCH_USUAL = {3, 2, 1, 0, 3, 4, 0};
    private static final char[] CAT_LETTERS = {'p', 't', 'u', 'l', 'f', 'c'};
    private static final int[] CAT_MOST = {9, 9, 9, 9, 9, 99};
    private static final int[] CAT_USUAL = {1, 1, 1, 1, 0, 0};
    private static final char[] ACCUSED_LETTERS = {'g', 'k', 'd'};
    private static final int[] ACCUSED_MOST = {99, 1, 1};
    private static final int[] ACCUSED_USUAL = {50, 0, 0};
    private static final char[] LAW_LETTERS = {'d', 'w', 'g', 'k', 'h', 'f', 'm', 'c'};

    private final Tape tape = new Tape();
    private final CourtText courtText = new CourtText(tape);
    private final LawText lawText = new LawText(tape);
    private final Law[] laws = new Law[MOST_LAWS];
    private int told;
    private int holds = NONE;
    private final Court now = new Court();
    private final Court trial = new Court();
    private final Court kept = new Court();
    private boolean isKept;
    private final Past past = new Past();
    private final int[] seen = new int[MOST_SEEN];
    private int seenCount;
    private final int[] washed = new int[2 * MOST_CATS];
    private final Mind mind = new Mind(now);
    private final Scales scales = new Scales(mind);
    private final Dice dice = new Dice();

    public CatCourt() {
        for (int i = 0; i < laws.length; i++) {
            laws[i] = new Law();
        }
    }

    // ---- the tape and its texts

    public int feed(int a, int b, int c, int d, int e) {
        int more = Tape.bytesOf(a) + Tape.bytesOf(b) + Tape.bytesOf(c) + Tape.bytesOf(d) + Tape.bytesOf(e);
        if (tape.size() + more > MOST_BYTES) {
            return NONE;
        }
        tape.add(a);
        tape.add(b);
        tape.add(c);
        tape.add(d);
        tape.add(e);
        return tape.size();
    }

    public boolean end(int n) {
        return tape.cutTo(n);
    }

    public int fault(int sort) {
        if (sort == COURT) {
            courtText.read();
        } else if (sort == LAW) {
            lawText.read();
        } else {
            return NO_SORT;
        }
        return tape.wrongAt();
    }

    public int text(int sort) {
        if (sort == COURT && courtText.read()) {
            return openCourt();
        }
        if (sort == LAW && told < MOST_LAWS && lawText.read()) {
            return tellLaw();
        }
        return NONE;
    }

    private int openCourt() {
        tape.cutTo(0);
        now.copy(courtText.draft());
        past.forget();
        seenCount = 0;
        isKept = false;
        return now.cats();
    }

    private int tellLaw() {
        if (told < 0 || told >= laws.length) {
            return NONE;
        }
        tape.cutTo(0);
        lawText.giveTo(laws[told]);
        told++;
        return told - 1;
    }

    // ---- what stands in the court

    public int bench(int what) {
        if (now.cats() == 0 || what < 0 || what >= BENCH_SIZE) {
            return NONE;
        }
        return now.ofBench(what);
    }

    public int cat(int cat, int what) throws NoSuchElementException {
        if (!now.hasCat(cat) || what < 0 || what >= CAT_SIZE) {
            throw new NoSuchElementException("no such cat, or nothing such of it");
        }
        return now.ofCat(cat, what);
    }

    public int accused(int accused, int what) {
        if (!now.hasAccused(accused) || what < 0 || what >= ACCUSED_SIZE) {
            return NONE;
        }
        return now.ofAccused(accused, what);
    }

    public boolean law(int law) {
        if (law < NONE || law >= told) {
            return false;
        }
        holds = law;
        return true;
    }

    public int count(int what) {
        switch (what) {
            case 0: return now.cats();
            case 1: return now.people();
            case 2: return told;
            case 3: return tape.size();
            case 4: return holds;
            case 5: return Integer.bitCount(now.serving());
            case 6: return now.logged();
            case 7: return seenCount;
            case 8: return past.size();
            default: return HIDDEN;
        }
    }

    // ---- moods, odds and verdicts

    public int mood(int cat, int accused, int deed, int guilty) {
        if (!isPair(cat, accused) || !isDeed(deed) || !isBit(guilty)) {
            return NONE;
        }
        thinkOf(now);
        return mind.moodOf(cat, accused, deed, guilty);
    }

    public int odds(int cat, int accused, int deed, int guilty) {
        if (!isPair(cat, accused) || !isDeed(deed) || !isBit(guilty)) {
            return NONE;
        }
        thinkOf(now);
        return mind.oddsOf(cat, accused, deed, guilty);
    }

    public int held(int set, int accused, int guilty) {
        if (!isCase(set, accused) || !isBit(guilty)) {
            return NONE;
        }
        thinkOf(now);
        scales.weigh(set, accused);
        return scales.heldBy(set, guilty, now.ofBench(NEEDED));
    }

    public int right(int set, int accused) {
        if (!isCase(set, accused)) {
            return NONE;
        }
        thinkOf(now);
        scales.weigh(set, accused);
        return rightNow(set, accused);
    }

    public int mean(int set, int accused, int guilty) {
        if (!isCase(set, accused) || !isBit(guilty)) {
            return NONE;
        }
        thinkOf(now);
        scales.weigh(set, accused);
        return scales.meanBy(set, guilty);
    }

    public int likely(int cat, int accused, int guilty) {
        if (!isPair(cat, accused) || !isBit(guilty)) {
            return NONE;
        }
        thinkOf(now);
        return mind.likeliest(cat, accused, guilty);
    }

    public int quiet(int set, int accused, int guilty) {
        if (!isCase(set, accused) || !isBit(guilty)) {
            return NONE;
        }
        thinkOf(now);
        int parts = ALL;
        for (int cat = 0; cat < MOST_CATS; cat++) {
            if (isIn(set, cat)) {
                parts = share(parts, ALL - mind.oddsOf(cat, accused, PURRS, guilty));
            }
        }
        return parts;
    }

    public int surely(int cat, int accused) {
        if (!isPair(cat, accused)) {
            return NONE;
        }
        thinkOf(now);
        int never = 0;
        for (int deed = 0; deed < DEEDS; deed++) {
            if (mind.oddsOf(cat, accused, deed, 0) == 0 && mind.oddsOf(cat, accused, deed, 1) == 0) {
                never |= 1 << deed;
            }
        }
        return never;
    }

    public int noisy(int accused, int what) {
        if (now.serving() == 0 || !now.hasAccused(accused) || !isBit(what)) {
            return NONE;
        }
        thinkOf(now);
        int loudest = NONE;
        int furthest = NONE;
        for (int cat = 0; cat < MOST_CATS; cat++) {
            int apart = isIn(now.serving(), cat) ? purrsApart(cat, accused) : NONE;
            if (apart > furthest) {
                loudest = cat;
                furthest = apart;
            }
        }
        return what == 0 ? loudest : furthest;
    }

    private int purrsApart(int cat, int accused) {
        return Math.abs(mind.oddsOf(cat, accused, PURRS, 1) - mind.oddsOf(cat, accused, PURRS, 0));
    }

    public int alike(int one, int first, int other, int second) {
        if (!isPair(one, first) || !isPair(other, second) || one == other || first == second) {
            return NONE;
        }
        thinkOf(now);
        int same = 0;
        for (int deed = 0; deed < DEEDS; deed++) {
            same += share(mind.oddsOf(one, first, deed, 1), mind.oddsOf(other, second, deed, 1));
        }
        return same;
    }

    // ---- acts

    public int fish(int cat) {
        if (!now.hasCat(cat) || now.ofCat(cat, FISH) >= MOST_FISH) {
            return NONE;
        }
        past.keep(now);
        now.setCat(cat, FISH, now.ofCat(cat, FISH) + 1);
        return now.ofCat(cat, FISH);
    }

    public int nights(int n) {
        if (now.cats() == 0 || n < 1 || n > MOONS) {
            return NONE;
        }
        past.keep(now);
        now.setBench(MOON, (now.ofBench(MOON) + n) % MOONS);
        for (int cat = 0; cat < now.cats(); cat++) {
            now.setCat(cat, FISH, Math.max(0, now.ofCat(cat, FISH) - n));
        }
        return now.ofBench(MOON);
    }

    public boolean heat(int v) {
        if (now.cats() == 0 || v < 0 || v > MOST_HEAT || now.ofBench(HEAT) == v) {
            return false;
        }
        past.keep(now);
        now.setBench(HEAT, v);
        return true;
    }

    public boolean milk(int accused, boolean is) {
        int wanted = is ? 1 : 0;
        if (!now.hasAccused(accused) || now.ofAccused(accused, MILK) == wanted) {
            return false;
        }
        past.keep(now);
        now.setAccused(accused, MILK, wanted);
        return true;
    }

    public boolean retire(int cat, boolean is) {
        int wanted = is ? 1 : 0;
        if (!now.hasCat(cat) || now.ofCat(cat, RETIRED) == wanted) {
            return false;
        }
        past.keep(now);
        now.setCat(cat, RETIRED, wanted);
        return true;
    }

    public int hear(int set, int accused, long seed) {
        if (!isCase(set, accused)) {
            return NONE;
        }
        thinkOf(now);
        scales.weigh(set, accused);
        past.keep(now);
        dice.begin(seed);
        int guilty = dice.draw(100) < now.ofAccused(accused, GUILT) ? 1 : 0;
        int points = 0;
        for (int cat = 0; cat < MOST_CATS; cat++) {
            if (isIn(set, cat)) {
                int deed = scales.deedBy(cat, guilty, dice.draw(1000));
                now.setCat(cat, CASES, Math.min(MOST_CASES, now.ofCat(cat, CASES) + 1));
                now.write(entry(cat, accused, deed));
                points += now.ofBench(deed);
            }
        }
        return points >= now.ofBench(NEEDED) ? 1 : 0;
    }

    public int undo() {
        return past.giveBack(now) ? past.size() : NONE;
    }

    public int image() {
        if (now.cats() == 0) {
            return NONE;
        }
        kept.copy(now);
        isKept = true;
        return now.logged();
    }

    public int back() {
        if (!isKept) {
            return NONE;
        }
        now.copy(kept);
        past.forget();
        return now.logged();
    }

    // ---- the log

    public int log(int i, int what) {
        if (i < 0 || i >= now.logged() || what < 0 || what > 2) {
            return NONE;
        }
        return partOf(now.entryAt(i), what);
    }

    public int often(int cat, int deed) {
        if (!now.hasCat(cat) || !isDeed(deed)) {
            return NONE;
        }
        int times = 0;
        for (int i = 0; i < now.logged(); i++) {
            if (catOf(now.entryAt(i)) == cat && deedOf(now.entryAt(i)) == deed) {
                times++;
            }
        }
        return times;
    }

    public int harsh() {
        if (now.logged() == 0) {
            return NONE;
        }
        int harshest = NONE;
        int most = NONE;
        for (int cat = 0; cat < now.cats(); cat++) {
            int points = pointsBroughtBy(cat);
            if (points > most) {
                harshest = cat;
                most = points;
            }
        }
        return harshest;
    }

    private int pointsBroughtBy(int cat) {
        int points = 0;
        for (int i = 0; i < now.logged(); i++) {
            if (catOf(now.entryAt(i)) == cat) {
                points += now.ofBench(deedOf(now.entryAt(i)));
            }
        }
        return points;
    }

    // ---- whom to ask

    public int ask(int n, int accused, int what) {
        int serving = now.serving();
        if (!now.hasAccused(accused) || !isBit(what) || n < 1 || n > Integer.bitCount(serving)) {
            return NONE;
        }
        thinkOf(now);
        scales.weigh(serving, accused);
        int best = 0;
        int most = NONE;
        for (int i = 1; i < 1 << MOST_CATS; i++) {
            int set = mirrored(i);
            if ((set & ~serving) == 0 && Integer.bitCount(set) == n) {
                int right = rightNow(set, accused);
                if (right > most || right == most && set < best) {
                    best = set;
                    most = right;
                }
            }
        }
        return what == 0 ? best : most;
    }

    public int three(int accused) {
        int serving = now.serving();
        if (!now.hasAccused(accused) || serving == 0) {
            return NONE;
        }
        thinkOf(now);
        scales.weigh(serving, accused);
        int best = NONE;
        int fewest = MOST_CATS + 1;
        for (int i = 1; i < 1 << MOST_CATS; i++) {
            int set = mirrored(i);
            int cats = Integer.bitCount(set);
            boolean isBetter = cats < fewest || cats == fewest && set < best;
            if ((set & ~serving) == 0 && isBetter && isThreeToOne(set)) {
                best = set;
                fewest = cats;
            }
        }
        return best;
    }

    private boolean isThreeToOne(int set) {
        long guilty = scales.heldBy(set, 1, now.ofBench(NEEDED));
        return guilty > 0 && guilty >= 3L * scales.heldBy(set, 0, now.ofBench(NEEDED));
    }

    public int spare(int accused, int what) {
        int serving = now.serving();
        if (!now.hasAccused(accused) || !isBit(what) || Integer.bitCount(serving) < 2) {
            return NONE;
        }
        thinkOf(now);
        scales.weigh(serving, accused);
        int spared = NONE;
        int most = NONE;
        for (int cat = 0; cat < MOST_CATS; cat++) {
            int right = isIn(serving, cat) ? rightNow(serving & ~(1 << cat), accused) : NONE;
            if (right > most) {
                spared = cat;
                most = right;
            }
        }
        return what == 0 ? spared : most;
    }

    private int rightNow(int set, int accused) {
        return scales.rightBy(set, now.ofAccused(accused, GUILT), now.ofBench(NEEDED));
    }

    public int bar(int set, int accused, int what) {
        if (!isCase(set, accused) || !isBit(what)) {
            return NONE;
        }
        thinkOf(now);
        scales.weigh(set, accused);
        int best = NONE;
        int most = NONE;
        for (int needed = 0; needed <= MOST_NEEDED; needed++) {
            int right = scales.rightBy(set, now.ofAccused(accused, GUILT), needed);
            if (right > most) {
                best = needed;
                most = right;
            }
        }
        return what == 0 ? best : most;
    }

    public int moonlit(int set, int accused, int what) {
        if (!isCase(set, accused) || !isBit(what)) {
            return NONE;
        }
        trial.copy(now);
        thinkOf(trial);
        int best = NONE;
        int most = NONE;
        for (int moon = 0; moon < MOONS; moon++) {
            trial.setBench(MOON, moon);
            scales.weigh(set, accused);
            int right = rightNow(set, accused);
            if (right > most) {
                best = moon;
                most = right;
            }
        }
        return what == 0 ? best : most;
    }

    // ---- mercy and appeals

    public int mercy(int set, int accused, int b, int what) {
        if (!isCase(set, accused) || b < 0 || b > 100 || !isBit(what) || Integer.bitCount(set) > MOST_TREATED) {
            return NONE;
        }
        weighTreats(set, accused);
        int least = NONE;
        int leastRow = NONE;
        int cats = Integer.bitCount(set);
        for (int treats = 0; treats < 1 << 2 * cats; treats++) {
            int fish = fishIn(treats, cats);
            if ((least == NONE || fish < least) && isMerciful(treats, cats, b)) {
                least = fish;
                leastRow = rowOf(treats, cats);
            }
        }
        return what == 0 ? least : leastRow;
    }

    /** Each cat with each number of fish more is weighed as a cat of its own. */
    private void weighTreats(int set, int accused) {
        trial.copy(now);
        thinkOf(trial);
        scales.begin(0);
        int place = 0;
        for (int cat = 0; cat < MOST_CATS; cat++) {
            if (isIn(set, cat)) {
                for (int more = 0; more < TREATS; more++) {
                    trial.setCat(cat, FISH, now.ofCat(cat, FISH) + more);
                    scales.put(place * TREATS + more, cat, accused, 0);
                }
                place++;
            }
        }
    }

    private boolean isMerciful(int treats, int cats, int b) {
        int set = 0;
        for (int place = 0; place < cats; place++) {
            set |= 1 << place * TREATS + treatAt(treats, cats, place);
        }
        return scales.heldBy(set, 0, now.ofBench(NEEDED)) <= ALL / 100 * b;
    }

    private static int treatAt(int treats, int cats, int place) {
        return treats >> 2 * (cats - 1 - place) & 3;
    }

    private static int fishIn(int treats, int cats) {
        int fish = 0;
        for (int place = 0; place < cats; place++) {
            fish += treatAt(treats, cats, place);
        }
        return fish;
    }

    private static int rowOf(int treats, int cats) {
        int row = 0;
        for (int place = 0; place < cats; place++) {
            row = row * 10 + treatAt(treats, cats, place);
        }
        return row;
    }

    public int appeals(int set, int accused, int k) {
        if (!isCase(set, accused) || k < 0 || k > MOST_APPEALS) {
            return NONE;
        }
        trial.copy(now);
        thinkOf(trial);
        int parts = ALL;
        for (int colder = 0; colder <= k; colder++) {
            trial.setBench(HEAT, Math.max(0, now.ofBench(HEAT) - colder));
            scales.weigh(set, accused);
            parts = share(parts, scales.heldBy(set, 0, now.ofBench(NEEDED)));
        }
        return parts;
    }

    // ---- brothers, and thieves who wash

    public int brothers(int set, int one, int other) {
        if (!isCase(set, one) || !now.hasAccused(other) || one == other) {
            return NONE;
        }
        int first = heldByGuilt(set, one);
        int second = heldByGuilt(set, other);
        return share(first, second) + share(ALL - first, ALL - second);
    }

    public int free(int set) {
        if (!isSet(set)) {
            return NONE;
        }
        int parts = ALL;
        for (int accused = 0; accused < now.people(); accused++) {
            parts -= share(parts, heldByGuilt(set, accused));
        }
        return parts;
    }

    private int heldByGuilt(int set, int accused) {
        thinkOf(now);
        scales.weigh(set, accused);
        int guilt = now.ofAccused(accused, GUILT);
        int needed = now.ofBench(NEEDED);
        return hundredths(guilt, scales.heldBy(set, 1, needed)) + hundredths(100 - guilt, scales.heldBy(set, 0, needed));
    }

    public int rests(int accused, int i) {
        if (!now.hasAccused(accused) || i < NONE) {
            return NONE;
        }
        wash(accused);
        int found = 0;
        for (int milk = 0; milk < 2; milk++) {
            for (int cat = 0; cat < MOST_CATS; cat++) {
                if (isRest(milk, cat)) {
                    if (found == i) {
                        return 10 * milk + cat;
                    }
                    found++;
                }
            }
        }
        return i == NONE ? found : NONE;
    }

    /** Fills in what each cat holds alone, without milk and with it; NONE for who is not there. */
    private void wash(int accused) {
        trial.copy(now);
        thinkOf(trial);
        int serving = now.serving();
        for (int i = 0; i < washed.length; i++) {
            int cat = i % MOST_CATS;
            if (cat == 0) {
                trial.setAccused(accused, MILK, i / MOST_CATS);
                scales.weigh(serving, accused);
            }
            washed[i] = isIn(serving, cat) ? scales.heldBy(1 << cat, 1, now.ofBench(NEEDED)) : NONE;
        }
    }

    private boolean isRest(int milk, int cat) {
        int parts = washedAt(milk, cat);
        boolean rests = parts != NONE && washedAt(1 - milk, cat) >= parts;
        for (int other = 0; other < MOST_CATS && rests; other++) {
            rests = washedAt(milk, other) <= parts;
        }
        return rests;
    }

    private int washedAt(int milk, int cat) {
        int place = milk * MOST_CATS + cat;
        return place >= 0 && place < washed.length ? washed[place] : NONE;
    }

    // ---- what was seen

    public int see(int cat, int accused, int deed) {
        if (!isPair(cat, accused) || !isDeed(deed) || seenCount < 0 || seenCount >= seen.length) {
            return NONE;
        }
        seen[seenCount] = entry(cat, accused, deed);
        seenCount++;
        return seenCount;
    }

    public int guess(int accused) {
        if (!now.hasAccused(accused)) {
            return NONE;
        }
        thinkOf(now);
        int guilt = now.ofAccused(accused, GUILT);
        long guilty = (long) guilt * partsSeen(accused, 1);
        long all = guilty + (long) (100 - guilt) * partsSeen(accused, 0);
        return all <= 0 ? NONE : (int) (guilty * 1000000 / all);
    }

    private int partsSeen(int accused, int guilty) {
        int parts = ALL;
        for (int i = 0; i < seenCount && i < seen.length; i++) {
            if (accusedOf(seen[i]) == accused) {
                parts = share(parts, mind.oddsOf(catOf(seen[i]), accused, deedOf(seen[i]), guilty));
            }
        }
        return parts;
    }

    public int drank(int i) {
        if (now.cats() == 0 || i < NONE) {
            return NONE;
        }
        int without = possibleBy(0);
        int with = possibleBy(1);
        int found = 0;
        for (int set = 0; set < 1 << now.people(); set++) {
            if (isDrunkBy(set, with, without)) {
                if (found == i) {
                    return set;
                }
                found++;
            }
        }
        return i == NONE ? found : NONE;
    }

    public int sure() {
        if (now.cats() == 0) {
            return NONE;
        }
        int without = possibleBy(0);
        int with = possibleBy(1);
        int all = NONE;
        for (int set = 0; set < 1 << now.people(); set++) {
            if (isDrunkBy(set, with, without)) {
                all = all == NONE ? set : all & set;
            }
        }
        return all;
    }

    private boolean isDrunkBy(int set, int with, int without) {
        boolean fits = true;
        for (int accused = 0; accused < now.people() && fits; accused++) {
            fits = isIn(isIn(set, accused) ? with : without, accused);
        }
        return fits;
    }

    /** Whose deeds can all be, with milk or without it: as bits. */
    private int possibleBy(int milk) {
        trial.copy(now);
        thinkOf(trial);
        int possible = 0;
        for (int accused = 0; accused < now.people(); accused++) {
            trial.setAccused(accused, MILK, milk);
            if (canBe(accused, 1) || canBe(accused, 0)) {
                possible |= 1 << accused;
            }
        }
        return possible;
    }

    private boolean canBe(int accused, int guilty) {
        for (int i = 0; i < seenCount && i < seen.length; i++) {
            if (accusedOf(seen[i]) == accused
                    && mind.oddsOf(catOf(seen[i]), accused, deedOf(seen[i]), guilty) == 0) {
                return false;
            }
        }
        return true;
    }

    public int fits(int what) {
        if (now.cats() == 0 || !isBit(what)) {
            return HIDDEN;
        }
        int best = NONE;
        int most = told == 0 ? fitting(NONE) : NONE;
        for (int law = 0; law < told; law++) {
            int fitting = fitting(law);
            if (fitting > most) {
                best = law;
                most = fitting;
            }
        }
        return what == 0 ? best : most;
    }

    private int fitting(int law) {
        mind.use(now, lawAt(law));
        int fitting = 0;
        for (int i = 0; i < seenCount && i < seen.length; i++) {
            int deed = deedOf(seen[i]);
            int cat = catOf(seen[i]);
            int accused = accusedOf(seen[i]);
            if (mind.likeliest(cat, accused, 1) == deed || mind.likeliest(cat, accused, 0) == deed) {
                fitting++;
            }
        }
        return fitting;
    }

    // ---- small helpers

    private boolean isPair(int cat, int accused) {
        return now.hasCat(cat) && now.hasAccused(accused);
    }

    private boolean isSet(int set) {
        return set > 0 && (set & ~now.serving()) == 0;
    }

    private boolean isCase(int set, int accused) {
        return isSet(set) && now.hasAccused(accused);
    }

    private static boolean isDeed(int deed) {
        return deed >= 0 && deed < DEEDS;
    }

    private static boolean isBit(int bit) {
        return bit == 0 || bit == 1;
    }

    private static boolean isIn(int set, int one) {
        return (set >> one & 1) == 1;
    }

    private Law lawAt(int law) {
        return law >= 0 && law < laws.length ? laws[law] : null;
    }

    private void thinkOf(Court court) {
        mind.use(court, lawAt(holds));
    }

    private static int share(int parts, int of) {
        return (int) ((long) parts * of / ALL);
    }

    private static int hundredths(int of, int parts) {
        return (int) ((long) of * parts / 100);
    }

    /** With the lowest cat as the highest bit, sets with the same lowest cats come one behind the other. */
    private static int mirrored(int set) {
        int mirror = 0;
        for (int cat = 0; cat < MOST_CATS; cat++) {
            mirror = mirror << 1 | set >> cat & 1;
        }
        return mirror;
    }

    private static int entry(int cat, int accused, int deed) {
        return cat * 100 + accused * 10 + deed;
    }

    private static int catOf(int entry) {
        return entry / 100;
    }

    private static int accusedOf(int entry) {
        return entry / 10 % 10;
    }

    private static int deedOf(int entry) {
        return entry % 10;
    }

    private static int partOf(int entry, int what) {
        return what == 0 ? catOf(entry) : what == 1 ? accusedOf(entry) : deedOf(entry);
    }

    private static int placeOf(int sign, char[] letters) {
        for (int i = 0; i < letters.length; i++) {
            if (letters[i] == sign) {
                return i;
            }
        }
        return NONE;
    }

    /** The bytes that were fed, and a reading head that stops at the first one that is wrong. */
    private static final class Tape {
        private final int[] signs = new int[MOST_BYTES];
        private int length;
        private int at;
        private int wrong = NONE;

        static int bytesOf(int number) {
            int bytes = 0;
            for (int shift = 24; shift >= 0; shift -= 8) {
                if ((number >> shift & 255) != 0) {
                    bytes++;
                }
            }
            return bytes;
        }

        void add(int number) {
            for (int shift = 24; shift >= 0; shift -= 8) {
                int sign = number >> shift & 255;
                if (sign != 0 && length >= 0 && length < signs.length) {
                    signs[length] = sign;
                    length++;
                }
            }
        }

        int size() {
            return length;
        }

        boolean cutTo(int n) {
            if (n < 0 || n > length) {
                return false;
            }
            length = n;
            return true;
        }

        void rewind() {
            at = 0;
            wrong = NONE;
        }

        int wrongAt() {
            return wrong;
        }

        boolean fail() {
            wrong = at;
            return false;
        }

        /** The next sign that is no blank: the head waits at it. */
        int sign() {
            while (at >= 0 && at < length && at < signs.length && signs[at] == ' ') {
                at++;
            }
            return at >= 0 && at < length && at < signs.length ? signs[at] : END;
        }

        void step() {
            at++;
        }

        boolean takes(int sign) {
            boolean isHere = sign() == sign;
            if (isHere) {
                at++;
            }
            return isHere;
        }

        boolean wants(int sign) {
            return takes(sign) || fail();
        }

        /** NONE: no digit, be it a blank, as none may stand within a number. */
        private int digitHere() {
            boolean isDigit = at >= 0 && at < length && at < signs.length && signs[at] >= '0' && signs[at] <= '9';
            return isDigit ? signs[at] - '0' : NONE;
        }

        /** A number of so many digits at most that is no more than most; NONE: it is wrong. */
        int number(int digits, int most) {
            sign();
            int value = 0;
            int read = 0;
            while (read < digits && digitHere() != NONE) {
                value = value * 10 + digitHere();
                at++;
                read++;
            }
            if (read == 0 || digitHere() != NONE) {
                wrong = at;
                return NONE;
            }
            if (value > most) {
                wrong = at - 1;
                return NONE;
            }
            return value;
        }
    }

    /** All of a court that a text tells and that acts change, in one row, so that it is copied at once. */
    private static final class Court {
        private static final int CATS_AT = BENCH_SIZE;
        private static final int ACCUSED_AT = CATS_AT + MOST_CATS * CAT_SIZE;
        private static final int LOG_AT = ACCUSED_AT + MOST_ACCUSED * ACCUSED_SIZE;
        private static final int CAT_COUNT = LOG_AT + MOST_LOG;
        private static final int ACCUSED_COUNT = CAT_COUNT + 1;
        private static final int LOG_COUNT = ACCUSED_COUNT + 1;
        private static final int SIZE = LOG_COUNT + 1;

        private final int[] row = new int[SIZE];

        private void put(int place, int value) {
            if (place >= 0 && place < row.length) {
                row[place] = value;
            }
        }

        void copy(Court other) {
            if (other != null) {
                System.arraycopy(other.row, 0, row, 0, row.length);
            }
        }

        void clear() {
            for (int i = 0; i < row.length; i++) {
                row[i] = 0;
            }
        }

        int cats() {
            return row[CAT_COUNT];
        }

        int people() {
            return row[ACCUSED_COUNT];
        }

        int logged() {
            return row[LOG_COUNT];
        }

        boolean hasCat(int cat) {
            return cat >= 0 && cat < cats();
        }

        boolean hasAccused(int accused) {
            return accused >= 0 && accused < people();
        }

        void addCat() {
            row[CAT_COUNT]++;
        }

        void addAccused() {
            row[ACCUSED_COUNT]++;
        }

        int ofBench(int what) {
            return what >= 0 && what < BENCH_SIZE ? row[what] : 0;
        }

        void setBench(int what, int value) {
            put(what, value);
        }

        int ofCat(int cat, int what) {
            int place = CATS_AT + cat * CAT_SIZE + what;
            return place >= 0 && place < row.length ? row[place] : 0;
        }

        void setCat(int cat, int what, int value) {
            put(CATS_AT + cat * CAT_SIZE + what, value);
        }

        int ofAccused(int accused, int what) {
            int place = ACCUSED_AT + accused * ACCUSED_SIZE + what;
            return place >= 0 && place < row.length ? row[place] : 0;
        }

        void setAccused(int accused, int what, int value) {
            put(ACCUSED_AT + accused * ACCUSED_SIZE + what, value);
        }

        /** The cats that are not retired, as bits. */
        int serving() {
            int set = 0;
            for (int cat = 0; cat < cats(); cat++) {
                if (ofCat(cat, RETIRED) == 0) {
                    set |= 1 << cat;
                }
            }
            return set;
        }

        /** The latest entry stands first, so that the one that is too old falls off the end. */
        void write(int entry) {
            int length = Math.min(MOST_LOG, logged() + 1);
            for (int i = length - 1; i > 0; i--) {
                put(LOG_AT + i, entryAt(i - 1));
            }
            put(LOG_AT, entry);
            put(LOG_COUNT, length);
        }

        int entryAt(int i) {
            return i >= 0 && i < MOST_LOG ? row[LOG_AT + i] : 0;
        }
    }

    /** Reads the tape as a court. */
    private static final class CourtText {
        private static final int MOST_ITEMS = 8;

        private final Tape tape;
        private final Court draft = new Court();
        private boolean hasBench;

        CourtText(Tape tape) {
            this.tape = tape;
        }

        Court draft() {
            return draft;
        }

        boolean read() {
            tape.rewind();
            draft.clear();
            hasBench = false;
            for (int i = 0; i < BENCH_USUAL.length; i++) {
                draft.setBench(i, BENCH_USUAL[i]);
            }
            boolean isGood = clause();
            for (int i = 0; isGood && i < MOST_BYTES && tape.takes(';'); i++) {
                isGood = clause();
            }
            return isGood && ends();
        }

        private boolean ends() {
            if (tape.sign() != END || draft.cats() == 0 || draft.people() == 0) {
                return tape.fail();
            }
            return true;
        }

        private boolean clause() {
            int sign = tape.sign();
            if (sign == 'b' && !hasBench) {
                hasBench = true;
                tape.step();
                return items(sign, BENCH_LETTERS, BENCH_MOST);
            }
            if (sign == 'c' && draft.cats() < MOST_CATS) {
                draft.addCat();
                for (int i = 0; i < CAT_USUAL.length; i++) {
                    draft.setCat(draft.cats() - 1, i, CAT_USUAL[i]);
                }
                tape.step();
                return items(sign, CAT_LETTERS, CAT_MOST);
            }
            if (sign == 'a' && draft.people() < MOST_ACCUSED) {
                draft.addAccused();
                for (int i = 0; i < ACCUSED_USUAL.length; i++) {
                    draft.setAccused(draft.people() - 1, i, ACCUSED_USUAL[i]);
                }
                tape.step();
                return items(sign, ACCUSED_LETTERS, ACCUSED_MOST);
            }
            return tape.fail();
        }

        private boolean items(int kind, char[] letters, int[] most) {
            int there = 0;
            for (int i = 0; i < MOST_ITEMS; i++) {
                int item = placeOf(tape.sign(), letters);
                if (item < 0 || item >= most.length || isIn(there, item)) {
                    // what is no item here may still end the clause
                    return true;
                }
                there |= 1 << item;
                tape.step();
                int value = tape.number(2, most[item]);
                if (value == NONE) {
                    return false;
                }
                store(kind, item, value);
            }
            return true;
        }

        private void store(int kind, int item, int value) {
            if (kind == 'b') {
                draft.setBench(item, value);
            } else if (kind == 'c') {
                draft.setCat(draft.cats() - 1, item, value);
            } else {
                draft.setAccused(draft.people() - 1, item, value);
            }
        }
    }

    /** Reads the tape as a law and turns it into steps for a stack of numbers. */
    private static final class LawText {
        private static final int DEEPEST = 6;

        private final Tape tape;
        private final int[] steps = new int[MOST_BYTES];
        private int length;

        LawText(Tape tape) {
            this.tape = tape;
        }

        void giveTo(Law law) {
            if (law != null) {
                law.learn(steps, length);
            }
        }

        boolean read() {
            tape.rewind();
            length = 0;
            boolean isGood = clause();
            for (int i = 0; isGood && i < MOST_BYTES && tape.takes(';'); i++) {
                isGood = clause();
            }
            return isGood && (tape.sign() == END || tape.fail());
        }

        private boolean clause() {
            if (!tape.wants('y') || !tape.wants(':')) {
                return false;
            }
            boolean isBegun = tape.sign() != '!' && tape.sign() != '(';
            if (isBegun) {
                if (!sum(0)) {
                    return false;
                }
                if (!isComparison(tape.sign())) {
                    emit(Law.SIGN, Law.GIVE);
                    return true;
                }
            }
            return condition(0, isBegun) && tape.wants('?') && conditionalSum();
        }

        private boolean conditionalSum() {
            int skip = length;
            emit(Law.SKIP, 0);
            if (!sum(0)) {
                return false;
            }
            emit(Law.SIGN, Law.GIVE);
            if (skip < steps.length) {
                steps[skip] = Law.SKIP * Law.SORT + length;
            }
            return true;
        }

        /** isBegun: the first sum of the first unit has been read already. */
        private boolean condition(int depth, boolean isBegun) {
            boolean isGood = truth(depth, isBegun);
            for (int i = 0; isGood && i < MOST_BYTES && tape.takes('|'); i++) {
                isGood = truth(depth, false);
                emit(Law.SIGN, '|');
            }
            return isGood;
        }

        private boolean truth(int depth, boolean isBegun) {
            boolean isGood = unit(depth, isBegun);
            for (int i = 0; isGood && i < MOST_BYTES && tape.takes('&'); i++) {
                isGood = unit(depth, false);
                emit(Law.SIGN, '&');
            }
            return isGood;
        }

        private boolean unit(int depth, boolean isBegun) {
            int sign = tape.sign();
            if (!isBegun && (sign == '!' || sign == '(')) {
                return depth < DEEPEST ? nested(depth + 1) : tape.fail();
            }
            if (!isBegun && !sum(depth)) {
                return false;
            }
            int comparison = tape.sign();
            if (!isComparison(comparison)) {
                return tape.fail();
            }
            tape.step();
            if (!sum(depth)) {
                return false;
            }
            emit(Law.SIGN, comparison);
            return true;
        }

        private boolean nested(int depth) {
            if (tape.takes('(')) {
                return condition(depth, false) && tape.wants(')');
            }
            tape.step();
            if (!unit(depth, false)) {
                return false;
            }
            emit(Law.SIGN, '!');
            return true;
        }

        private boolean sum(int depth) {
            boolean isGood = term(depth);
            for (int i = 0; isGood && i < MOST_BYTES && isEither('+', '-'); i++) {
                int sign = tape.sign();
                tape.step();
                isGood = term(depth);
                emit(Law.SIGN, sign);
            }
            return isGood;
        }

        private boolean term(int depth) {
            boolean isGood = atom(depth);
            for (int i = 0; isGood && i < MOST_BYTES && isEither('*', '/'); i++) {
                int sign = tape.sign();
                tape.step();
                isGood = atom(depth);
                emit(Law.SIGN, sign);
            }
            return isGood;
        }

        private boolean atom(int depth) {
            int sign = tape.sign();
            if (sign == '[') {
                if (depth >= DEEPEST) {
                    return tape.fail();
                }
                tape.step();
                return sum(depth + 1) && tape.wants(']');
            }
            int letter = placeOf(sign, LAW_LETTERS);
            if (letter >= 0) {
                tape.step();
                emit(Law.LETTER, letter);
                return true;
            }
            int number = tape.number(4, 9999);
            emit(Law.NUMBER, number);
            return number != NONE;
        }

        private boolean isEither(int one, int other) {
            return tape.sign() == one || tape.sign() == other;
        }

        private static boolean isComparison(int sign) {
            return sign == '=' || sign == '<' || sign == '>';
        }

        private void emit(int sort, int value) {
            if (length >= 0 && length < steps.length) {
                steps[length] = sort * Law.SORT + value;
                length++;
            }
        }
    }

    /** The steps of a law: a step is its sort times SORT and a value. */
    private static final class Law {
        private static final int SORT = 10000;
        private static final int NUMBER = 0;
        private static final int LETTER = 1;
        private static final int SIGN = 2;
        private static final int SKIP = 3;
        private static final int GIVE = 'y';
        private static final int FARTHEST = 1000000;
        private static final int HIGHEST = 40;

        private final int[] steps = new int[MOST_BYTES];
        private int length;
        private final int[] stack = new int[HIGHEST];

        void learn(int[] told, int count) {
            length = 0;
            for (int i = 0; i < count && i < told.length && i < steps.length; i++) {
                steps[i] = told[i];
                length++;
            }
        }

        int worth(int[] letters) {
            int height = 0;
            int from = 0;
            for (int i = 0; i < length && i < steps.length; i++) {
                int value = steps[i] % SORT;
                int sort = steps[i] / SORT;
                if (i < from || height < 0 || height + 1 >= stack.length) {
                    continue;
                }
                if (sort == NUMBER) {
                    stack[height] = value;
                    height++;
                } else if (sort == LETTER) {
                    stack[height] = value >= 0 && value < letters.length ? letters[value] : 0;
                    height++;
                } else if (height < 1) {
                    return 0;
                } else if (sort == SKIP) {
                    height--;
                    from = stack[height] == 0 ? value : 0;
                } else if (value == GIVE) {
                    return stack[height - 1];
                } else if (value == '!') {
                    stack[height - 1] = 1 - stack[height - 1];
                } else if (height > 1) {
                    height--;
                    stack[height - 1] = join(value, stack[height - 1], stack[height]);
                }
            }
            return 0;
        }

        private static int join(int sign, int left, int right) {
            switch (sign) {
                case '/': return right == 0 ? 0 : left / right;
                case '=': return left == right ? 1 : 0;
                case '<': return left < right ? 1 : 0;
                case '>': return left > right ? 1 : 0;
                case '&': return left & right;
                case '|': return left | right;
                default: break;
            }
            long number = sign == '+' ? (long) left + right : sign == '-' ? (long) left - right : (long) left * right;
            return number > FARTHEST ? FARTHEST : number < -FARTHEST ? -FARTHEST : (int) number;
        }
    }

    /** The latest acts: how the court was ahead of each. */
    private static final class Past {
        private final Court[] courts = new Court[MOST_ACTS];
        private int next;
        private int length;

        Past() {
            for (int i = 0; i < courts.length; i++) {
                courts[i] = new Court();
            }
        }

        int size() {
            return length;
        }

        void forget() {
            length = 0;
        }

        void keep(Court court) {
            if (next < 0 || next >= courts.length || courts[next] == null) {
                return;
            }
            courts[next].copy(court);
            next = (next + 1) % MOST_ACTS;
            length = Math.min(MOST_ACTS, length + 1);
        }

        boolean giveBack(Court court) {
            int latest = (next + MOST_ACTS - 1) % MOST_ACTS;
            if (length == 0 || latest < 0 || latest >= courts.length) {
                return false;
            }
            court.copy(courts[latest]);
            next = latest;
            length--;
            return true;
        }
    }

    /** What goes on in a cat: its moods by a court and a law, and the odds that they make. */
    private static final class Mind {
        private static final int MOST_MOOD = 99;
        private static final int D = 0;
        private static final int W = 1;
        private static final int G = 2;
        private static final int K = 3;
        private static final int H = 4;
        private static final int F = 5;
        private static final int M = 6;
        private static final int C = 7;

        private Court court;
        private Law law;
        private final int[] letters = new int[LAW_LETTERS.length];
        private final int[] moods = new int[DEEDS];
        private final int[] odds = new int[DEEDS];

        Mind(Court court) {
            this.court = court;
        }

        void use(Court court, Law law) {
            if (court != null) {
                this.court = court;
            }
            this.law = law;
        }

        Court courtInUse() {
            return court;
        }

        int moodOf(int cat, int accused, int deed, int guilty) {
            tell(cat, accused, deed, guilty);
            int worth = law == null ? habit() : law.worth(letters);
            int mood = worth < 0 ? 0 : worth > MOST_MOOD ? MOST_MOOD : worth;
            return deed == LEAVES && court.ofAccused(accused, DOG) == 1 ? 2 * mood : mood;
        }

        private void tell(int cat, int accused, int deed, int guilty) {
            letters[D] = deed;
            letters[W] = court.ofCat(cat, deed);
            letters[G] = guilty;
            letters[K] = court.ofAccused(accused, MILK);
            letters[H] = court.ofBench(HEAT);
            letters[F] = court.ofCat(cat, FISH);
            letters[M] = court.ofBench(MOON);
            letters[C] = court.ofCat(cat, CASES);
        }

        /** What a cat is worth while no law holds. */
        private int habit() {
            switch (letters[D]) {
                case PURRS: return letters[W] + 2 * letters[G] + letters[K];
                case TREADS: return letters[W] + letters[F];
                case LEAVES: return letters[W] + letters[H] / 3;
                default: return letters[W];
            }
        }

        int likeliest(int cat, int accused, int guilty) {
            int likeliest = 0;
            int greatest = NONE;
            for (int deed = 0; deed < DEEDS; deed++) {
                int mood = moodOf(cat, accused, deed, guilty);
                if (mood > greatest) {
                    likeliest = deed;
                    greatest = mood;
                }
            }
            return likeliest;
        }

        int oddsOf(int cat, int accused, int deed, int guilty) {
            reckon(cat, accused, guilty);
            return deed >= 0 && deed < DEEDS ? odds[deed] : 0;
        }

        /** Reckons the odds of all four deeds, which stay until the next ones. */
        int[] reckon(int cat, int accused, int guilty) {
            int together = 0;
            int last = LEAVES;
            for (int deed = 0; deed < DEEDS; deed++) {
                moods[deed] = moodOf(cat, accused, deed, guilty);
                together += moods[deed];
                last = moods[deed] > 0 ? deed : last;
            }
            int over = ALL;
            for (int deed = 0; deed < DEEDS; deed++) {
                odds[deed] = together > 0 ? (int) ((long) ALL * moods[deed] / together) : 0;
                over -= odds[deed];
            }
            odds[last] += over;
            return odds;
        }
    }

    /** Parts by points of sets of cats; each level keeps what was worked out for the set that it knows. */
    private static final class Spread {
        private static final int MOST_POINTS = 9;
        private static final int MOST_PLACES = MOST_TREATED * TREATS;

        private final long[][] parts = new long[MOST_CATS + 1][MOST_CATS * MOST_POINTS + 1];
        private final int[] known = new int[MOST_CATS + 1];
        private final int[] odds = new int[MOST_PLACES * DEEDS];
        private final int[] lasts = new int[MOST_PLACES];
        private final int[] points = new int[DEEDS];

        void begin(Court court) {
            for (int deed = 0; deed < DEEDS; deed++) {
                points[deed] = Math.max(0, Math.min(MOST_POINTS, court.ofBench(deed)));
            }
            for (int level = 0; level < known.length; level++) {
                known[level] = 0;
            }
            parts[0][0] = ALL;
        }

        void put(int place, int[] oddsOfPlace) {
            if (place < 0 || place >= MOST_PLACES || oddsOfPlace.length < DEEDS) {
                return;
            }
            for (int deed = 0; deed < DEEDS; deed++) {
                odds[place * DEEDS + deed] = oddsOfPlace[deed];
                if (oddsOfPlace[deed] > 0) {
                    lasts[place] = deed;
                }
            }
        }

        int oddsAt(int place, int deed) {
            return place >= 0 && place < MOST_PLACES && deed >= 0 && deed < DEEDS ? odds[place * DEEDS + deed] : 0;
        }

        long from(int set, int needed) {
            long[] row = parts[build(set)];
            long together = 0;
            for (int i = Math.max(0, needed); i < row.length; i++) {
                together += row[i];
            }
            return together;
        }

        long timesPoints(int set) {
            long[] row = parts[build(set)];
            long together = 0;
            for (int i = 0; i < row.length; i++) {
                together += row[i] * i;
            }
            return together;
        }

        /** The level that has the parts of a set. */
        private int build(int set) {
            int level = 0;
            int soFar = 0;
            for (int place = 0; place < MOST_PLACES && level < MOST_CATS; place++) {
                if (isIn(set, place)) {
                    soFar |= 1 << place;
                    level++;
                    if (known[level] != soFar) {
                        extend(level, place);
                        known[level] = soFar;
                    }
                }
            }
            return level;
        }

        private void extend(int level, int place) {
            if (level < 1 || level >= parts.length || place < 0 || place >= MOST_PLACES) {
                return;
            }
            long[] before = parts[level - 1];
            long[] into = parts[level];
            for (int i = 0; i < into.length; i++) {
                into[i] = 0;
            }
            for (int i = 0; i <= (level - 1) * MOST_POINTS && i < before.length; i++) {
                long over = before[i];
                for (int deed = 0; deed < DEEDS && over > 0; deed++) {
                    long part = deed == lasts[place] ? over : before[i] * odds[place * DEEDS + deed] / ALL;
                    int sum = i + points[deed];
                    if (sum >= 0 && sum < into.length) {
                        into[sum] += part;
                    }
                    over -= part;
                }
            }
        }
    }

    /** Verdicts of sets of cats on one accused: a spread if not guilty, and one if guilty. */
    private static final class Scales {
        private final Mind mind;
        private final Spread no = new Spread();
        private final Spread yes = new Spread();

        Scales(Mind mind) {
            this.mind = mind;
        }

        private Spread side(int guilty) {
            return guilty == 1 ? yes : no;
        }

        void begin(int guilty) {
            side(guilty).begin(mind.courtInUse());
        }

        void put(int place, int cat, int accused, int guilty) {
            side(guilty).put(place, mind.reckon(cat, accused, guilty));
        }

        void weigh(int set, int accused) {
            for (int guilty = 0; guilty < 2; guilty++) {
                begin(guilty);
                for (int cat = 0; cat < MOST_CATS; cat++) {
                    if (isIn(set, cat)) {
                        put(cat, cat, accused, guilty);
                    }
                }
            }
        }

        int heldBy(int set, int guilty, int needed) {
            return (int) side(guilty).from(set, needed);
        }

        int rightBy(int set, int guilt, int needed) {
            return hundredths(guilt, heldBy(set, 1, needed)) + hundredths(100 - guilt, ALL - heldBy(set, 0, needed));
        }

        int meanBy(int set, int guilty) {
            return (int) (side(guilty).timesPoints(set) / 1000000);
        }

        int deedBy(int cat, int guilty, int draw) {
            int together = 0;
            for (int deed = 0; deed < LEAVES; deed++) {
                together += side(guilty).oddsAt(cat, deed);
                if (draw < together / 1000000) {
                    return deed;
                }
            }
            return LEAVES;
        }
    }

    /** The draws of a case. */
    private static final class Dice {
        private long x;

        void begin(long seed) {
            x = seed;
        }

        int draw(int k) {
            x = x * 6364136223846793005L + 1442695040888963407L;
            return k > 0 ? (int) ((x >>> 33) % k) : 0;
        }
    }
}
