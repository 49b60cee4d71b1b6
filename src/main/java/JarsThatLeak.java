import java.util.Arrays;
import java.util.NoSuchElementException;

/** Debts of water in jars that leak: see README.md for how it is used. */
public final class JarsThatLeak {
    public static final int NONE = -1;

    /** Answers that the document tells by their number alone. */
    private static final int NOT_SO = -2;
    private static final int ALL_CAN = -2;
    private static final int TOO_FEW = -2;
    private static final int NO_ROOM = -3;
    private static final int MISSING = -3;
    private static final int TOO_MANY = -3;

    private static final int MOST_JARS = 9;
    private static final int MOST_HOLDS = 60;
    private static final int MOST_HOLE = 9;
    private static final int MOST_BELLS = 200;
    private static final int MOST_WAX = 99;
    private static final int MOST_DEBT = 999;
    private static final int MOST_SEEN = 10;
    private static final int MOST_ROW = 10;
    private static final int MOST_POURINGS = 3;
    private static final int MOST_ENTRIES = 9;
    private static final int OWNERS = 6;
    private static final int ORIGINS = 7;
    private static final int SPRING_OF_ORDERS = 6;
    private static final int UNDOS = 12;
    private static final int KEEPS = 2;

    private static final int TEXT_SIGNS = 80;
    private static final int TOWN_SIGNS = 76;
    private static final int LAW_SIGNS = 40;
    private static final int ORDER_SIGNS = 60;

    /** Every BELL but 99 of WAX moves one of 540 DROPS down one of 9 steps: far fewer than this. */
    private static final int BELLS_TO_REST = 6000;
    /** Each row that settle() takes makes the sum of DEBTS, 30 times 999 at most, less. */
    private static final int ROWS_TO_SETTLE = 40000;

    private final Town town = new Town();
    private final State now = new State();
    private final State trial = new State();
    private final Clock clock = new Clock(town);
    private final Flow flow = new Flow(town);
    private final Past past = new Past();
    private final State[] kept = new State[KEEPS];
    private final int[] keptJars = new int[KEEPS];
    private final Signs text = new Signs();
    private final TownText townText = new TownText(text, town, now);
    private final Law lawText = new Law();
    private final Steps steps = new Steps();
    private final Sightings sightings = new Sightings();
    private final Payments payments = new Payments(town);
    private final int[] wayLevels = new int[(MOST_JARS + 1) * MOST_JARS];
    private final int[] told = new int[MOST_ROW];
    private int toldLength;

    public JarsThatLeak() {
        for (int i = 0; i < KEEPS; i++) {
            kept[i] = new State();
            keptJars[i] = NONE;
        }
    }

    // ---- the town

    public int sign(int v) {
        if (text.length + 4 > TEXT_SIGNS) {
            return NONE;
        }
        for (int shift = 24; shift >= 0; shift -= 8) {
            text.append((v >>> shift) & 255);
        }
        return text.length;
    }

    public boolean end(int n) {
        if (n < 0 || n > text.length) {
            return false;
        }
        text.length = n;
        return true;
    }

    public int town() {
        boolean empty = text.length == 0;
        int lines = empty ? 0 : townText.read();
        text.length = 0;
        if (!empty && lines >= 0) {
            townText.letIn();
            past.held = 0;
        }
        return lines;
    }

    public int law() {
        int answer = lawText.read(text);
        text.length = 0;
        if (answer == 0) {
            lawText.take();
        }
        return answer;
    }

    public int jar(int jar, int what) throws NoSuchElementException {
        if (!isJar(jar)) {
            throw new NoSuchElementException("no such jar");
        }
        switch (what) {
            case 0: return now.level[jar];
            case 1: return town.holds[jar];
            case 2: return now.hole[jar];
            case 3: return town.owner[jar];
            case 4: return town.height[jar];
            case 5: return now.below[jar];
            case 6: return now.wax[jar];
            case 7: return lawOf(jar);
            default: throw new NoSuchElementException("a jar has no such thing");
        }
    }

    public int hole(int jar, int v) {
        if (!isJar(jar) || v < 0 || v > MOST_HOLE) {
            return NONE;
        }
        int was = now.hole[jar];
        now.hole[jar] = v;
        return was;
    }

    public boolean below(int jar, int other) {
        if (!isJar(jar) || other != NONE && !canStandBelow(other, jar)) {
            return false;
        }
        now.below[jar] = other;
        return true;
    }

    public int sheet(int kind, int n, int f, int step) {
        if (kind < 0 || kind > 3 || n > MOST_ENTRIES) {
            return NONE;
        }
        boolean missing = kind == 3;
        if (!missing && n < 0) {
            return TOO_FEW;
        }
        int sum = 0;
        for (int jar = 0; jar < town.count; jar++) {
            int hole = missing || jar >= n ? 0 : sheetEntry(kind, f + jar * step);
            now.hole[jar] = hole;
            sum += hole;
        }
        return missing ? MISSING : sum;
    }

    private static int sheetEntry(int kind, int told) {
        int entry = told;
        if (kind == 0) {
            entry = (byte) told;
        } else if (kind == 1) {
            entry = (short) told;
        }
        return Math.max(0, Math.min(MOST_HOLE, entry));
    }

    // ---- water

    public int spring(int jar, int origin, int drops) {
        if (!isJar(jar) || !isOrigin(origin) || drops < 1 || drops > MOST_HOLDS) {
            return NONE;
        }
        past.remember(now);
        int came = Math.min(drops, roomIn(jar));
        for (int i = 0; i < came; i++) {
            now.putBehind(jar, origin);
        }
        return came;
    }

    public int pour(int from, int to, int drops) {
        int answer = canPour(now, from, to, drops);
        if (answer > 0) {
            past.remember(now);
            makePouring(now, from, to, drops);
        }
        return answer;
    }

    public boolean wax(int jar, int bells) {
        if (!isJar(jar) || bells < 1 || bells > MOST_WAX || now.waxSet || lawOf(jar) == 0) {
            return false;
        }
        past.remember(now);
        now.wax[jar] = bells;
        now.waxSet = true;
        return true;
    }

    public int bells(int n) {
        if (!isSpan(n)) {
            return NONE;
        }
        if (n > 0) {
            past.remember(now);
        }
        int ahead = now.lost();
        for (int i = 0; i < n; i++) {
            clock.strike(now);
        }
        clearRow();
        tell(emptyJars());
        tell(levelsInAll());
        return now.lost() - ahead;
    }

    public int undo() {
        if (past.held == 0) {
            return NONE;
        }
        past.bringBack(now);
        return past.held;
    }

    public int judge(int n, int a, int b, int c) {
        if (n < 0 || n > MOST_POURINGS) {
            return NONE;
        }
        trial.copyWater(now);
        int drops = 0;
        int answer = ALL_CAN;
        for (int i = 0; i < n && answer == ALL_CAN; i++) {
            int made = judgeOne(i == 0 ? a : i == 1 ? b : c);
            if (made > 0) {
                drops += made;
            } else {
                answer = i;
            }
        }
        clearRow();
        tell(drops);
        tell(trial.owedByAll());
        return answer;
    }

    private int judgeOne(int pouring) {
        if (pouring < 0) {
            return NONE;
        }
        int from = pouring / 1000;
        int to = pouring / 100 % 10;
        int drops = pouring % 100;
        int answer = canPour(trial, from, to, drops);
        if (answer > 0) {
            makePouring(trial, from, to, drops);
        }
        return answer;
    }

    public int order() {
        int answer = steps.read(text);
        text.length = 0;
        if (answer < 0) {
            return answer;
        }
        int ahead = now.lost();
        int done = 0;
        while (done < steps.count && doStep(done)) {
            done++;
        }
        clearRow();
        tell(now.lost() - ahead);
        tell(done < steps.count ? 1 : 0);
        return done;
    }

    private boolean doStep(int i) {
        int first = steps.first[i];
        int number = steps.number[i];
        switch (steps.kind[i]) {
            case 'p': return pour(first, steps.second[i], number) >= 0;
            case 'b': return bells(number) >= 0;
            case 'w': return wax(first, number);
            case 's': return spring(first, SPRING_OF_ORDERS, number) >= 0;
            default: return false;
        }
    }

    public int owes(int from, int to) {
        return areTwoOwners(from, to) ? now.debt[from * OWNERS + to] : NONE;
    }

    // ---- how it goes on

    public int rest() {
        flow.start(now);
        flow.noteWet(0);
        int n = 0;
        while (n < BELLS_TO_REST && !flow.isQuiet()) {
            flow.strike();
            n++;
            flow.noteWet(n);
        }
        clearRow();
        tell(flow.lost);
        tell(flow.lastWet());
        return n;
    }

    public int dry(int jar) {
        if (!isJar(jar)) {
            return NONE;
        }
        flow.start(now);
        for (int n = 0; n <= MOST_BELLS; n++) {
            if (flow.level[jar] == 0) {
                return n;
            }
            flow.strike();
        }
        return NOT_SO;
    }

    public int later(int jar, int n) {
        if (!isJar(jar) || !isSpan(n)) {
            return NONE;
        }
        flow.start(now);
        flow.strikeAll(n);
        return flow.level[jar];
    }

    public int flood(int jar, int n) {
        if (!isJar(jar) || !isSpan(n)) {
            return NONE;
        }
        flow.start(now);
        int most = flow.level[jar];
        int first = 0;
        for (int i = 1; i <= n; i++) {
            flow.strike();
            if (flow.level[jar] > most) {
                most = flow.level[jar];
                first = i;
            }
        }
        clearRow();
        tell(first);
        return most;
    }

    public int above(int jar) {
        return isJar(jar) ? bitsAbove(jar) : NONE;
    }

    private int bitsAbove(int jar) {
        int bits = 0;
        for (int start = 0; start < town.count; start++) {
            int at = start;
            for (int i = 0; i < MOST_JARS && at != NONE && at != jar; i++) {
                at = now.below[at];
            }
            if (at == jar) {
                bits |= 1 << start;
            }
        }
        return bits;
    }

    // ---- what has to be done

    public int least(int into, int jar, int v, int n) {
        if (!isJar(into) || !isJar(jar) || !isLevel(v) || !isSpan(n)) {
            return NONE;
        }
        int room = roomIn(into);
        for (int drops = 0; drops <= room; drops++) {
            flow.start(now);
            flow.level[into] += drops;
            flow.strikeAll(n);
            if (flow.level[jar] >= v) {
                clearRow();
                tell(flow.lost);
                return drops;
            }
        }
        return NOT_SO;
    }

    /** Where a HOLE above is stopped, less comes down at every BELL: none but the JAR's own can help. */
    public int stops(int jar, int v, int n) {
        if (!isJar(jar) || !isLevel(v) || !isSpan(n)) {
            return NONE;
        }
        goStopped(0, n);
        int own = flow.level[jar] >= v ? 0 : worthStopping(n) & 1 << jar;
        if (own != 0) {
            goStopped(own, n);
        }
        if (flow.level[jar] < v) {
            return NOT_SO;
        }
        clearRow();
        tell(own);
        tell(flow.level[jar]);
        return own == 0 ? 0 : 1;
    }

    public int saves(int k, int n) {
        if (k < 0 || k > MOST_JARS || !isSpan(n)) {
            return NONE;
        }
        int useful = worthStopping(n);
        int most = Math.min(k, Integer.bitCount(useful));
        goStopped(0, n);
        int least = flow.lost;
        int best = 0;
        for (int many = 1; many <= most && least > 0; many++) {
            for (int bits = 1; bits <= useful; bits++) {
                if (!isChoice(bits, useful, many)) {
                    continue;
                }
                goStopped(bits, n);
                if (flow.lost < least) {
                    least = flow.lost;
                    best = bits;
                }
            }
        }
        clearRow();
        tell(best);
        return least;
    }

    /** The fewest are wanted, so a HOLE that lets nothing go in n BELLS anyhow is never one of them. */
    private int worthStopping(int n) {
        int bits = 0;
        for (int jar = 0; jar < town.count; jar++) {
            if (now.hole[jar] > 0 && now.wax[jar] < n) {
                bits |= 1 << jar;
            }
        }
        return bits;
    }

    private static boolean isChoice(int bits, int of, int many) {
        return (bits & ~of) == 0 && Integer.bitCount(bits) == many;
    }

    private void goStopped(int bits, int n) {
        flow.start(now);
        for (int jar = 0; jar < town.count; jar++) {
            if ((bits >> jar & 1) != 0) {
                flow.hole[jar] = 0;
            }
        }
        flow.strikeAll(n);
    }

    public int place(int jar, int n) {
        if (!isJar(jar) || !isSpan(n)) {
            return NONE;
        }
        int best = NONE;
        int least = lostWithBelow(jar, NONE, n);
        for (int other = 0; other < town.count; other++) {
            if (canStandBelow(other, jar)) {
                int lost = lostWithBelow(jar, other, n);
                if (lost < least) {
                    least = lost;
                    best = other;
                }
            }
        }
        clearRow();
        tell(best);
        return least;
    }

    private int lostWithBelow(int jar, int other, int n) {
        flow.start(now);
        flow.below[jar] = other;
        flow.strikeAll(n);
        return flow.lost;
    }

    public int payoff() {
        int goal = payments.search(now);
        if (goal < 0) {
            return goal;
        }
        int many = payments.stepsTo(goal);
        clearRow();
        for (int i = 0; i < many && i < MOST_ROW; i++) {
            tell(payments.stepOf(goal, many - 1 - i));
        }
        return many;
    }

    public int pays(int from, int to) {
        if (!areTwoOwners(from, to)) {
            return NONE;
        }
        clearRow();
        tell(dropsOf(from, now.level));
        tell(roomOf(to, now.level));
        return couldPay(from, to, now.level) ? 1 : 0;
    }

    public int soonest(int from, int to) {
        if (!areTwoOwners(from, to)) {
            return NONE;
        }
        flow.start(now);
        for (int n = 0; n <= MOST_BELLS; n++) {
            if (couldPay(from, to, flow.level)) {
                return n;
            }
            flow.strike();
        }
        return NOT_SO;
    }

    public int latest(int from, int to) {
        if (!areTwoOwners(from, to)) {
            return NONE;
        }
        int last = NOT_SO;
        flow.start(now);
        for (int n = 0; n <= MOST_BELLS; n++) {
            if (couldPay(from, to, flow.level)) {
                last = n;
            }
            flow.strike();
        }
        return last;
    }

    private boolean couldPay(int from, int to, int[] level) {
        int debt = now.debt[from * OWNERS + to];
        return dropsOf(from, level) >= debt && roomOf(to, level) >= debt;
    }

    private int dropsOf(int owner, int[] level) {
        int sum = 0;
        for (int jar = 0; jar < town.count; jar++) {
            sum += town.owner[jar] == owner ? level[jar] : 0;
        }
        return sum;
    }

    private int roomOf(int owner, int[] level) {
        int sum = 0;
        for (int jar = 0; jar < town.count; jar++) {
            sum += town.owner[jar] == owner ? town.holds[jar] - level[jar] : 0;
        }
        return sum;
    }

    public int settle() {
        int ahead = now.owedByAll();
        for (int a = 0; a < OWNERS; a++) {
            for (int b = a + 1; b < OWNERS; b++) {
                now.setOff(a, b);
            }
        }
        int rows = 0;
        while (rows < ROWS_TO_SETTLE && settleFirst()) {
            rows++;
        }
        past.held = 0;
        clearRow();
        tell(ahead);
        tell(now.owedByAll());
        return rows;
    }

    private boolean settleFirst() {
        for (int a = 0; a < OWNERS; a++) {
            for (int b = 0; b < OWNERS; b++) {
                if (now.debt[a * OWNERS + b] == 0) {
                    continue;
                }
                for (int c = 0; c < OWNERS; c++) {
                    if (c != a && now.debt[b * OWNERS + c] > 0) {
                        now.passOn(a, b, c);
                        return true;
                    }
                }
            }
        }
        return false;
    }

    // ---- whose drops

    public int share(int jar, int origin) {
        return isJar(jar) && isOrigin(origin) ? now.dropsFrom(origin, jar, now.level[jar]) : NONE;
    }

    public int cup(int jar, int n) {
        if (!isJar(jar) || n < 0 || n > MOST_HOLDS) {
            return NONE;
        }
        int many = Math.min(n, now.level[jar]);
        clearRow();
        for (int origin = 0; origin < ORIGINS; origin++) {
            tell(now.dropsFrom(origin, jar, many));
        }
        return many;
    }

    public int spread(int origin) {
        if (!isOrigin(origin)) {
            return NONE;
        }
        int sum = 0;
        int most = 0;
        int where = NONE;
        int bits = 0;
        for (int jar = 0; jar < town.count; jar++) {
            int drops = now.dropsFrom(origin, jar, now.level[jar]);
            sum += drops;
            bits |= drops > 0 ? 1 << jar : 0;
            if (drops > most) {
                most = drops;
                where = jar;
            }
        }
        clearRow();
        if (sum > 0) {
            tell(where);
            tell(most);
            tell(bits);
        }
        return sum;
    }

    public int comes(int jar, int origin) {
        if (!isJar(jar) || !isOrigin(origin)) {
            return NONE;
        }
        tryAsNow();
        for (int n = 0; n <= MOST_BELLS; n++) {
            if (trial.dropsFrom(origin, jar, trial.level[jar]) > 0) {
                return n;
            }
            if (isQuiet(trial)) {
                return NOT_SO;
            }
            clock.strike(trial);
        }
        return NOT_SO;
    }

    public int marks(int jar) {
        if (!isJar(jar)) {
            return NONE;
        }
        tryAsNow();
        for (int other = 0; other < town.count; other++) {
            trial.mark(other, other == jar ? 1 : 0);
        }
        int ahead = trial.sand[1];
        for (int n = 0; n < BELLS_TO_REST && !isQuiet(trial); n++) {
            clock.strike(trial);
        }
        clearRow();
        for (int other = 0; other < town.count; other++) {
            tell(trial.dropsFrom(1, other, trial.level[other]));
        }
        return trial.sand[1] - ahead;
    }

    public int tax(int n) {
        if (!isSpan(n)) {
            return NONE;
        }
        tryAsNow();
        for (int i = 0; i < n && !isQuiet(trial); i++) {
            clock.strike(trial);
        }
        clearRow();
        for (int origin = 0; origin < ORIGINS; origin++) {
            tell(trial.sand[origin] - now.sand[origin]);
        }
        return trial.lost() - now.lost();
    }

    public int drop(int jar, int k) {
        return isJar(jar) && k >= 0 && k < now.level[jar] ? now.originAt(jar, k) : NONE;
    }

    // ---- what was seen

    public int seen(int jar, int n, int level) {
        if (!isJar(jar) || !isSpan(n) || !isLevel(level) || sightings.count >= MOST_SEEN) {
            return NONE;
        }
        sightings.add(jar, n, level);
        return sightings.count;
    }

    public int forget() {
        if (sightings.count == 0) {
            return NONE;
        }
        sightings.count--;
        return sightings.count;
    }

    public int holes(int jar) {
        if (!isJar(jar)) {
            return NONE;
        }
        int bits = 0;
        for (int hole = 0; hole <= MOST_HOLE; hole++) {
            if (fitsWithHole(jar, hole)) {
                bits |= 1 << hole;
            }
        }
        return bits;
    }

    public int explains() {
        flow.start(now);
        boolean asItIs = sightings.fit(flow);
        int pairs = 0;
        clearRow();
        for (int jar = 0; jar < town.count; jar++) {
            for (int hole = 0; hole <= MOST_HOLE; hole++) {
                if (hole != now.hole[jar] && fitsWithHole(jar, hole)) {
                    if (pairs == 0) {
                        tell(jar);
                        tell(hole);
                    }
                    pairs++;
                }
            }
        }
        tell(asItIs ? 1 : 0);
        return pairs;
    }

    private boolean fitsWithHole(int jar, int hole) {
        flow.start(now);
        flow.hole[jar] = hole;
        return sightings.fit(flow);
    }

    public int looks(int n) {
        if (!isSpan(n)) {
            return NONE;
        }
        if (town.count == 0) {
            return NOT_SO;
        }
        int ways = findWays(n);
        int best = 0;
        int fewest = ways + 1;
        for (int jar = 0; jar < town.count; jar++) {
            int left = mostAlike(jar, ways);
            if (left < fewest) {
                fewest = left;
                best = jar;
            }
        }
        clearRow();
        tell(fewest);
        tell(unlikeLevels(best, ways));
        return best;
    }

    private int findWays(int n) {
        int ways = 0;
        for (int wider = NONE; wider < town.count; wider++) {
            if (wider != NONE && now.hole[wider] == MOST_HOLE) {
                continue;
            }
            flow.start(now);
            if (wider != NONE) {
                flow.hole[wider]++;
            }
            flow.strikeAll(n);
            System.arraycopy(flow.level, 0, wayLevels, ways * MOST_JARS, MOST_JARS);
            ways++;
        }
        return ways;
    }

    private int waysLike(int jar, int way, int from, int to) {
        int level = wayLevels[way * MOST_JARS + jar];
        int alike = 0;
        for (int other = from; other < to; other++) {
            if (wayLevels[other * MOST_JARS + jar] == level) {
                alike++;
            }
        }
        return alike;
    }

    private int mostAlike(int jar, int ways) {
        int most = 0;
        for (int way = 0; way < ways; way++) {
            most = Math.max(most, waysLike(jar, way, 0, ways));
        }
        return most;
    }

    private int unlikeLevels(int jar, int ways) {
        int unlike = 0;
        for (int way = 0; way < ways; way++) {
            if (waysLike(jar, way, 0, way) == 0) {
                unlike++;
            }
        }
        return unlike;
    }

    public int secret() {
        int ways = 0;
        clearRow();
        for (int jar = 0; jar < town.count; jar++) {
            int room = roomIn(jar);
            for (int drops = 1; drops <= room; drops++) {
                flow.start(now);
                flow.level[jar] += drops;
                if (sightings.fit(flow)) {
                    if (ways == 0) {
                        tell(jar);
                        tell(drops);
                    }
                    ways++;
                }
            }
        }
        return ways;
    }

    // ---- kept

    public boolean keep(int i) {
        if (i < 0 || i >= KEEPS) {
            return false;
        }
        kept[i].copyWater(now);
        kept[i].copyPipes(now);
        keptJars[i] = town.count;
        return true;
    }

    public boolean again(int i) {
        if (i < 0 || i >= KEEPS || keptJars[i] != town.count) {
            return false;
        }
        now.copyWater(kept[i]);
        now.copyPipes(kept[i]);
        past.held = 0;
        return true;
    }

    public int count(int what) {
        switch (what) {
            case 0: return town.count;
            case 1: return now.bells;
            case 2: return now.lost();
            case 3: return levelsInAll();
            case 4: return past.held;
            case 5: return sightings.count;
            case 6: return toldLength;
            case 7: return text.length;
            case 8: return now.owedByAll();
            default: return NONE;
        }
    }

    public int row(int i) throws NoSuchElementException {
        if (i < 0 || i >= toldLength) {
            throw new NoSuchElementException("no such number of the row");
        }
        return told[i];
    }

    // ---- what several of them need

    private boolean isJar(int jar) {
        return jar >= 0 && jar < town.count;
    }

    private static boolean isSpan(int n) {
        return n >= 0 && n <= MOST_BELLS;
    }

    private static boolean isLevel(int v) {
        return v >= 0 && v <= MOST_HOLDS;
    }

    private static boolean isOrigin(int origin) {
        return origin >= 0 && origin < ORIGINS;
    }

    private static boolean areTwoOwners(int a, int b) {
        return a >= 0 && a < OWNERS && b >= 0 && b < OWNERS && a != b;
    }

    private boolean canStandBelow(int other, int jar) {
        return isJar(other) && town.height[other] < town.height[jar];
    }

    private int roomIn(int jar) {
        return town.holds[jar] - now.level[jar];
    }

    private int emptyJars() {
        int empty = 0;
        for (int jar = 0; jar < town.count; jar++) {
            empty += now.level[jar] == 0 ? 1 : 0;
        }
        return empty;
    }

    private int levelsInAll() {
        int sum = 0;
        for (int jar = 0; jar < town.count; jar++) {
            sum += now.level[jar];
        }
        return sum;
    }

    private int canPour(State state, int from, int to, int drops) {
        if (!isJar(from) || !isJar(to) || from == to || drops < 1) {
            return NONE;
        }
        if (state.level[from] < drops) {
            return TOO_FEW;
        }
        return town.holds[to] - state.level[to] < drops ? NO_ROOM : drops;
    }

    private void makePouring(State state, int from, int to, int drops) {
        for (int i = 0; i < drops; i++) {
            state.putBehind(to, state.takeOldest(from));
        }
        int pair = town.owner[from] * OWNERS + town.owner[to];
        state.debt[pair] = Math.max(0, state.debt[pair] - drops);
    }

    private int lawOf(int jar) {
        if (lawText.isNone()) {
            return 1;
        }
        int[] value = lawText.value;
        value[0] = jar;
        value[1] = now.bells;
        value[2] = now.bells % 12;
        value[3] = now.level[jar];
        value[4] = now.hole[jar];
        value[5] = town.holds[jar];
        value[6] = town.owner[jar];
        value[7] = town.height[jar];
        value[8] = now.wax[jar];
        value[9] = now.owedBy(town.owner[jar]);
        return lawText.worth();
    }

    private void tryAsNow() {
        trial.copyWater(now);
        trial.copyPipes(now);
    }

    /** WAX only puts off what goes out, so it does not make a JAR quiet. */
    private boolean isQuiet(State state) {
        for (int jar = 0; jar < town.count; jar++) {
            if (state.level[jar] > 0 && state.hole[jar] > 0) {
                return false;
            }
        }
        return true;
    }

    private void clearRow() {
        toldLength = 0;
    }

    private void tell(int number) {
        if (toldLength < MOST_ROW) {
            told[toldLength] = number;
            toldLength++;
        }
    }

    /** What of the JARS never changes. */
    private static final class Town {
        final int[] holds = new int[MOST_JARS];
        final int[] owner = new int[MOST_JARS];
        final int[] height = new int[MOST_JARS];
        int count;
    }

    /** What of the JARS and OWNERS changes. */
    private static final class State {
        final int[] drops = new int[MOST_JARS * MOST_HOLDS];
        final int[] oldest = new int[MOST_JARS];
        final int[] level = new int[MOST_JARS];
        final int[] wax = new int[MOST_JARS];
        final int[] hole = new int[MOST_JARS];
        final int[] below = new int[MOST_JARS];
        final int[] debt = new int[OWNERS * OWNERS];
        final int[] sand = new int[ORIGINS];
        int bells;
        boolean waxSet;

        void copyWater(State other) {
            System.arraycopy(other.drops, 0, drops, 0, drops.length);
            System.arraycopy(other.oldest, 0, oldest, 0, oldest.length);
            System.arraycopy(other.level, 0, level, 0, level.length);
            System.arraycopy(other.wax, 0, wax, 0, wax.length);
            System.arraycopy(other.debt, 0, debt, 0, debt.length);
            System.arraycopy(other.sand, 0, sand, 0, sand.length);
            bells = other.bells;
            waxSet = other.waxSet;
        }

        void copyPipes(State other) {
            System.arraycopy(other.hole, 0, hole, 0, hole.length);
            System.arraycopy(other.below, 0, below, 0, below.length);
        }

        /** The places of a JAR go round, so that letting the oldest go moves no other. */
        private int placeOf(int jar, int k) {
            return jar * MOST_HOLDS + (oldest[jar] + k) % MOST_HOLDS;
        }

        int originAt(int jar, int k) {
            return drops[placeOf(jar, k)];
        }

        void putBehind(int jar, int origin) {
            drops[placeOf(jar, level[jar])] = origin;
            level[jar]++;
        }

        int takeOldest(int jar) {
            int origin = drops[placeOf(jar, 0)];
            oldest[jar] = (oldest[jar] + 1) % MOST_HOLDS;
            level[jar]--;
            return origin;
        }

        int dropsFrom(int origin, int jar, int many) {
            int found = 0;
            for (int k = 0; k < many; k++) {
                found += originAt(jar, k) == origin ? 1 : 0;
            }
            return found;
        }

        void mark(int jar, int origin) {
            for (int k = 0; k < level[jar]; k++) {
                drops[placeOf(jar, k)] = origin;
            }
        }

        int lost() {
            int sum = 0;
            for (int origin = 0; origin < ORIGINS; origin++) {
                sum += sand[origin];
            }
            return sum;
        }

        int owedBy(int owner) {
            int sum = 0;
            for (int to = 0; to < OWNERS; to++) {
                sum += debt[owner * OWNERS + to];
            }
            return sum;
        }

        int owedByAll() {
            int sum = 0;
            for (int owner = 0; owner < OWNERS; owner++) {
                sum += owedBy(owner);
            }
            return sum;
        }

        void setOff(int a, int b) {
            int there = a * OWNERS + b;
            int back = b * OWNERS + a;
            int lesser = Math.min(debt[there], debt[back]);
            debt[there] -= lesser;
            debt[back] -= lesser;
        }

        void passOn(int a, int b, int c) {
            int lesser = Math.min(debt[a * OWNERS + b], debt[b * OWNERS + c]);
            debt[a * OWNERS + b] -= lesser;
            debt[b * OWNERS + c] -= lesser;
            int straight = a * OWNERS + c;
            debt[straight] = Math.min(MOST_DEBT, debt[straight] + lesser);
            setOff(a, c);
        }
    }

    /** Lets BELLS go by with every DROP known. */
    private static final class Clock {
        private final Town town;
        /** Apart from the JARS, as new DROPS may come where these lay. */
        private final int[] gone = new int[MOST_JARS * MOST_HOLE];
        private final int[] many = new int[MOST_JARS];

        Clock(Town town) {
            this.town = town;
        }

        void strike(State state) {
            for (int jar = 0; jar < town.count; jar++) {
                letGo(state, jar);
            }
            for (int jar = 0; jar < town.count; jar++) {
                comeDown(state, jar);
            }
            for (int jar = 0; jar < town.count; jar++) {
                state.wax[jar] = Math.max(0, state.wax[jar] - 1);
            }
            state.bells++;
            state.waxSet = false;
        }

        private void letGo(State state, int jar) {
            many[jar] = state.wax[jar] > 0 ? 0 : Math.min(state.hole[jar], state.level[jar]);
            for (int i = 0; i < many[jar]; i++) {
                gone[jar * MOST_HOLE + i] = state.takeOldest(jar);
            }
        }

        private void comeDown(State state, int jar) {
            int below = state.below[jar];
            for (int i = 0; i < many[jar]; i++) {
                int origin = gone[jar * MOST_HOLE + i];
                if (below != NONE && state.level[below] < town.holds[below]) {
                    state.putBehind(below, origin);
                } else {
                    state.sand[origin]++;
                }
            }
        }
    }

    /** Lets BELLS go by with the LEVELS alone, which is enough, and quicker, where ORIGINS are not asked for. */
    private static final class Flow {
        private final Town town;
        final int[] level = new int[MOST_JARS];
        final int[] hole = new int[MOST_JARS];
        final int[] below = new int[MOST_JARS];
        private final int[] wax = new int[MOST_JARS];
        private final int[] gone = new int[MOST_JARS];
        private final int[] wet = new int[MOST_JARS];
        int lost;
        /** Nothing went and no WAX was left: all later BELLS are like that one. */
        private boolean over;

        Flow(Town town) {
            this.town = town;
        }

        void start(State state) {
            System.arraycopy(state.level, 0, level, 0, MOST_JARS);
            System.arraycopy(state.hole, 0, hole, 0, MOST_JARS);
            System.arraycopy(state.below, 0, below, 0, MOST_JARS);
            System.arraycopy(state.wax, 0, wax, 0, MOST_JARS);
            Arrays.fill(wet, NONE);
            lost = 0;
            over = false;
        }

        void strikeAll(int n) {
            for (int i = 0; i < n && !over; i++) {
                strike();
            }
        }

        void strike() {
            boolean stirred = false;
            for (int jar = 0; jar < town.count; jar++) {
                int out = 0;
                if (wax[jar] > 0) {
                    wax[jar]--;
                    stirred = true;
                } else {
                    out = Math.min(hole[jar], level[jar]);
                }
                gone[jar] = out;
                level[jar] -= out;
                stirred |= out > 0;
            }
            over = !stirred;
            for (int jar = 0; jar < town.count && stirred; jar++) {
                if (gone[jar] > 0) {
                    comeDown(gone[jar], below[jar]);
                }
            }
        }

        private void comeDown(int drops, int into) {
            int kept = into == NONE ? 0 : Math.min(drops, town.holds[into] - level[into]);
            if (into != NONE) {
                level[into] += kept;
            }
            lost += drops - kept;
        }

        /** WAX only puts off what goes out, so it does not make a JAR quiet. */
        boolean isQuiet() {
            for (int jar = 0; jar < town.count; jar++) {
                if (level[jar] > 0 && hole[jar] > 0) {
                    return false;
                }
            }
            return true;
        }

        void noteWet(int n) {
            for (int jar = 0; jar < town.count; jar++) {
                if (level[jar] > 0) {
                    wet[jar] = n;
                }
            }
        }

        int lastWet() {
            int last = NONE;
            int when = NONE;
            for (int jar = 0; jar < town.count; jar++) {
                if (level[jar] == 0 && wet[jar] > when) {
                    when = wet[jar];
                    last = jar;
                }
            }
            return last;
        }
    }

    /** The latest states that undo() can bring back, in a row that goes round. */
    private static final class Past {
        private final State[] states = new State[UNDOS];
        private int next;
        int held;

        Past() {
            for (int i = 0; i < UNDOS; i++) {
                states[i] = new State();
            }
        }

        void remember(State state) {
            states[next].copyWater(state);
            next = (next + 1) % UNDOS;
            held = Math.min(UNDOS, held + 1);
        }

        void bringBack(State state) {
            next = (next + UNDOS - 1) % UNDOS;
            state.copyWater(states[next]);
            held--;
        }
    }

    /** A text, and how far it is read; what is read behind the first flaw counts for nothing. */
    private static final class Signs {
        private final int[] signs = new int[TEXT_SIGNS];
        int length;
        private int limit;
        private int at;
        private int flaw;

        void append(int sign) {
            if (length < TEXT_SIGNS) {
                signs[length] = sign;
                length++;
            }
        }

        void open(int most) {
            limit = Math.min(length, most);
            at = 0;
            flaw = NONE;
        }

        /** Ends the reading: 0, or -1 less the place of the flaw. */
        int close(int most) {
            if (at < limit) {
                failAt(at);
            }
            if (length > most) {
                failAt(most);
            }
            return flaw == NONE ? 0 : -1 - flaw;
        }

        boolean isFine() {
            return flaw == NONE;
        }

        void failAt(int place) {
            if (flaw == NONE) {
                flaw = place;
            }
        }

        void failHere() {
            failAt(at);
        }

        void failAtLast() {
            failAt(at - 1);
        }

        int peek() {
            return flaw == NONE && at < limit ? signs[at] : NONE;
        }

        boolean sees(int sign) {
            return peek() == sign;
        }

        boolean seesDigit() {
            int sign = peek();
            return sign >= '0' && sign <= '9';
        }

        /** The sign that was seen; the reading goes on behind it. */
        int next() {
            int sign = peek();
            if (sign != NONE) {
                at++;
            }
            return sign;
        }

        boolean skip(int sign) {
            if (peek() != sign) {
                return false;
            }
            at++;
            return true;
        }

        void need(int sign) {
            if (!skip(sign)) {
                failAt(at);
            }
        }

        int digit() {
            int sign = peek();
            if (sign < '0' || sign > '9') {
                failAt(at);
                return 0;
            }
            at++;
            return sign - '0';
        }

        int number(int most) {
            int value = digit();
            for (int i = 1; i < most && seesDigit(); i++) {
                value = value * 10 + digit();
            }
            return value;
        }
    }

    /** Reads THE TOWN into places past the last JAR, where nobody looks till they are let in. */
    private static final class TownText {
        private final Signs text;
        private final Town town;
        private final State state;
        private final int[] debt = new int[OWNERS * OWNERS];
        private int jars;

        TownText(Signs text, Town town, State state) {
            this.text = text;
            this.town = town;
            this.state = state;
        }

        int read() {
            jars = town.count;
            System.arraycopy(state.debt, 0, debt, 0, debt.length);
            text.open(TOWN_SIGNS);
            int lines = 0;
            boolean more = true;
            while (more && lines < TOWN_SIGNS) {
                readLine();
                lines++;
                more = text.skip(';');
            }
            int flaw = text.close(TOWN_SIGNS);
            return flaw < 0 ? flaw : lines;
        }

        void letIn() {
            town.count = jars;
            System.arraycopy(debt, 0, state.debt, 0, debt.length);
        }

        private void readLine() {
            if (text.skip('d')) {
                readDebt();
            } else if (text.seesDigit() && jars < MOST_JARS) {
                readJar();
            } else {
                text.failHere();
            }
        }

        private void readDebt() {
            int from = readOwner();
            text.need('>');
            int to = readOwner();
            if (to == from) {
                text.failAtLast();
            }
            text.need('*');
            int drops = text.number(3);
            if (text.isFine()) {
                debt[from * OWNERS + to] = drops;
            }
        }

        private int readOwner() {
            int owner = text.digit();
            if (owner >= OWNERS) {
                text.failAtLast();
            }
            return owner;
        }

        private void readJar() {
            int holds = text.number(2);
            if (holds < 1 || holds > MOST_HOLDS) {
                text.failAtLast();
            }
            text.need('/');
            int level = text.number(2);
            if (level > holds) {
                text.failAtLast();
            }
            text.need(',');
            int hole = text.digit();
            text.need(',');
            int owner = readOwner();
            text.need(',');
            int height = text.digit();
            int below = text.skip('>') ? readBelow(height) : NONE;
            if (text.isFine()) {
                town.holds[jars] = holds;
                town.owner[jars] = owner;
                town.height[jars] = height;
                state.hole[jars] = hole;
                state.below[jars] = below;
                fill(level, owner);
                jars++;
            }
        }

        private int readBelow(int height) {
            int below = text.digit();
            if (below >= jars || town.height[below] >= height) {
                text.failAtLast();
            }
            return below;
        }

        private void fill(int level, int origin) {
            state.wax[jars] = 0;
            state.oldest[jars] = 0;
            state.level[jars] = 0;
            for (int i = 0; i < level; i++) {
                state.putBehind(jars, origin);
            }
        }
    }

    /** THE LAW, kept as a row of steps, each behind what it works on, so that it is read only once. */
    private static final class Law {
        private static final int MOST_WITHIN = 4;
        private static final char[] LETTERS = {'j', 'b', 't', 'l', 'h', 'c', 'o', 'g', 'w', 'd'};
        /** Steps below this are NUMBERS; from here on letters, by their place in LETTERS. */
        private static final int LETTER = 1000;
        private static final int NEGATION = 2000;
        /** From here on signs between two things. */
        private static final int OPERATOR = 3000;

        private final int[] draft = new int[LAW_SIGNS];
        private final int[] steps = new int[LAW_SIGNS];
        private final int[] stack = new int[LAW_SIGNS];
        final int[] value = new int[10];
        private int draftLength;
        private int length;

        boolean isNone() {
            return length == 0;
        }

        /** The law is as it was till take(). */
        int read(Signs text) {
            draftLength = 0;
            text.open(LAW_SIGNS);
            if (text.length > 0) {
                readComparison(text, 0);
            }
            return text.close(LAW_SIGNS);
        }

        void take() {
            System.arraycopy(draft, 0, steps, 0, LAW_SIGNS);
            length = draftLength;
        }

        private void write(int step) {
            if (draftLength < LAW_SIGNS) {
                draft[draftLength] = step;
                draftLength++;
            }
        }

        private void readComparison(Signs text, int within) {
            readSum(text, within);
            if (text.sees('<') || text.sees('>') || text.sees('=')) {
                int sign = text.next();
                readSum(text, within);
                write(OPERATOR + sign);
            }
        }

        private void readSum(Signs text, int within) {
            readProduct(text, within);
            for (int i = 0; i < LAW_SIGNS && (text.sees('+') || text.sees('-')); i++) {
                int sign = text.next();
                readProduct(text, within);
                write(OPERATOR + sign);
            }
        }

        private void readProduct(Signs text, int within) {
            readSigned(text, within);
            for (int i = 0; i < LAW_SIGNS && (text.sees('*') || text.sees('/')); i++) {
                int sign = text.next();
                readSigned(text, within);
                write(OPERATOR + sign);
            }
        }

        private void readSigned(Signs text, int within) {
            boolean minus = false;
            for (int i = 0; i < LAW_SIGNS && text.skip('-'); i++) {
                minus = !minus;
            }
            readThing(text, within);
            if (minus) {
                write(NEGATION);
            }
        }

        private void readThing(Signs text, int within) {
            if (text.seesDigit()) {
                write(text.number(3));
            } else if (within < MOST_WITHIN && text.skip('(')) {
                readComparison(text, within + 1);
                text.need(')');
            } else {
                readLetter(text);
            }
        }

        private void readLetter(Signs text) {
            for (int i = 0; i < LETTERS.length; i++) {
                if (text.skip(LETTERS[i])) {
                    write(LETTER + i);
                    return;
                }
            }
            text.failHere();
        }

        /** What it is, of a JAR whose letters stand in value. */
        int worth() {
            int many = 0;
            for (int i = 0; i < length; i++) {
                int step = steps[i];
                if (step >= OPERATOR && many > 1) {
                    many--;
                    stack[many - 1] = joined(step - OPERATOR, stack[many - 1], stack[many]);
                } else if (step == NEGATION && many > 0) {
                    stack[many - 1] = -stack[many - 1];
                } else if (many < LAW_SIGNS) {
                    stack[many] = valueOf(step);
                    many++;
                }
            }
            return stack[0];
        }

        private int valueOf(int step) {
            int letter = step - LETTER;
            return letter >= 0 && letter < value.length ? value[letter] : step;
        }

        private static int joined(int sign, int left, int right) {
            switch (sign) {
                case '<': return left < right ? 1 : 0;
                case '>': return left > right ? 1 : 0;
                case '=': return left == right ? 1 : 0;
                case '+': return left + right;
                case '-': return left - right;
                case '*': return left * right;
                default: return right == 0 ? 0 : left / right;
            }
        }
    }

    /** AN ORDER, read whole before the first of it is done. */
    private static final class Steps {
        final int[] kind = new int[ORDER_SIGNS];
        final int[] first = new int[ORDER_SIGNS];
        final int[] second = new int[ORDER_SIGNS];
        final int[] number = new int[ORDER_SIGNS];
        int count;

        int read(Signs text) {
            count = 0;
            text.open(ORDER_SIGNS);
            boolean more = text.length > 0;
            while (more && count < ORDER_SIGNS) {
                readStep(text);
                count++;
                more = text.skip(';');
            }
            return text.close(ORDER_SIGNS);
        }

        private void readStep(Signs text) {
            kind[count] = text.peek();
            if (text.skip('p')) {
                first[count] = text.digit();
                text.need('>');
                second[count] = text.digit();
                text.need('*');
            } else if (text.skip('w') || text.skip('s')) {
                first[count] = text.digit();
                text.need('*');
            } else {
                text.need('b');
            }
            number[count] = text.number(2);
        }
    }

    /** What was told as seen. */
    private static final class Sightings {
        private final int[] jar = new int[MOST_SEEN];
        private final int[] bell = new int[MOST_SEEN];
        private final int[] level = new int[MOST_SEEN];
        int count;

        void add(int jar, int bell, int level) {
            if (count < MOST_SEEN) {
                this.jar[count] = jar;
                this.bell[count] = bell;
                this.level[count] = level;
                count++;
            }
        }

        /** Whether all is so in a flow that has been started. */
        boolean fit(Flow flow) {
            int last = lastBell();
            for (int n = 0; n <= last; n++) {
                if (!fitAt(n, flow)) {
                    return false;
                }
                flow.strikeAll(1);
            }
            return true;
        }

        private int lastBell() {
            int last = NONE;
            for (int i = 0; i < count; i++) {
                last = Math.max(last, bell[i]);
            }
            return last;
        }

        private boolean fitAt(int n, Flow flow) {
            for (int i = 0; i < count; i++) {
                if (bell[i] == n && flow.level[jar[i]] != level[i]) {
                    return false;
                }
            }
            return true;
        }
    }

    /**
     * Looks through all STATES that POURINGS which pay can bring. They are found in the order of
     * their fewest POURINGS, and of as few in that of their least row, as each is gone on from by
     * the JAR from, then the JAR to: so the first without DEBTS is the one asked for.
     */
    private static final class Payments {
        private static final int MOST_STATES = 3000;
        /** LEVELS in one number, 6 bits each; then of each OWNER its DEBTS, 10 bits each. */
        private static final int WIDTH = 1 + OWNERS;
        private static final int LEVEL_BITS = 6;
        private static final int DEBT_BITS = 10;
        private static final int TABLE = 4096;

        private final Town town;
        private final long[] states = new long[(MOST_STATES + 1) * WIDTH];
        private final int[] parent = new int[MOST_STATES];
        private final int[] pouring = new int[MOST_STATES];
        /** A state's number and 1 more; 0: nothing lies there. */
        private final int[] table = new int[TABLE];
        private int count;

        Payments(Town town) {
            this.town = town;
        }

        /** The number of the state in which all is paid, or -2, or -3. */
        int search(State state) {
            Arrays.fill(table, 0);
            count = 0;
            writeStart(state);
            enter(0, 0);
            for (int i = 0; i < count && i < MOST_STATES; i++) {
                if (!goOnFrom(i)) {
                    return TOO_MANY;
                }
            }
            for (int i = 0; i < count; i++) {
                if (isPaid(i)) {
                    return i;
                }
            }
            return NOT_SO;
        }

        /** How many POURINGS lead to a state: the one there is now has number 0. */
        int stepsTo(int goal) {
            int many = 0;
            for (int at = goal; many < MOST_STATES && at > 0 && at < count; at = parent[at]) {
                many++;
            }
            return many;
        }

        /** Of the POURINGS that lead to a state, the one with so many others behind it. */
        int stepOf(int goal, int behind) {
            int at = goal;
            for (int i = 0; i < behind && at > 0 && at < count; i++) {
                at = parent[at];
            }
            return at > 0 && at < count ? pouring[at] : NONE;
        }

        private void writeStart(State state) {
            long levels = 0;
            for (int jar = 0; jar < town.count; jar++) {
                levels |= (long) state.level[jar] << LEVEL_BITS * jar;
            }
            states[0] = levels;
            for (int owner = 0; owner < OWNERS; owner++) {
                long debts = 0;
                for (int to = 0; to < OWNERS; to++) {
                    debts |= (long) state.debt[owner * OWNERS + to] << DEBT_BITS * to;
                }
                states[1 + owner] = debts;
            }
        }

        private boolean isPaid(int i) {
            for (int owner = 0; owner < OWNERS; owner++) {
                if (states[i * WIDTH + 1 + owner] != 0) {
                    return false;
                }
            }
            return true;
        }

        /** False if there are too many. */
        private boolean goOnFrom(int i) {
            for (int from = 0; from < town.count; from++) {
                if (states[i * WIDTH + 1 + town.owner[from]] == 0 || levelIn(i, from) == 0) {
                    continue;
                }
                for (int to = 0; to < town.count; to++) {
                    int drops = canPay(i, from, to);
                    if (drops > 0) {
                        writeNext(i, from, to, drops);
                        if (!enter(i, 1000 * from + 100 * to + drops)) {
                            return false;
                        }
                    }
                }
            }
            return true;
        }

        private int levelIn(int i, int jar) {
            return (int) (states[i * WIDTH] >>> LEVEL_BITS * jar) & (1 << LEVEL_BITS) - 1;
        }

        private int canPay(int i, int from, int to) {
            long debts = states[i * WIDTH + 1 + town.owner[from]];
            int debt = (int) (debts >>> DEBT_BITS * town.owner[to]) & (1 << DEBT_BITS) - 1;
            return Math.min(debt, Math.min(levelIn(i, from), town.holds[to] - levelIn(i, to)));
        }

        /** Written behind the last state, where it stays if it is a new one. */
        private void writeNext(int i, int from, int to, int drops) {
            int place = count * WIDTH;
            System.arraycopy(states, i * WIDTH, states, place, WIDTH);
            states[place] += ((long) drops << LEVEL_BITS * to) - ((long) drops << LEVEL_BITS * from);
            states[place + 1 + town.owner[from]] -= (long) drops << DEBT_BITS * town.owner[to];
        }

        /** Takes in what was written behind the last state, if it is new; false if there is no room. */
        private boolean enter(int from, int by) {
            int spot = findSpot();
            if (table[spot] != 0) {
                return true;
            }
            if (count >= MOST_STATES) {
                return false;
            }
            parent[count] = from;
            pouring[count] = by;
            count++;
            table[spot] = count;
            return true;
        }

        /** Where the state written last lies, or where it may lie: the table is never full. */
        private int findSpot() {
            int spot = firstSpot();
            for (int i = 0; i < TABLE && table[spot] != 0 && !isLike(table[spot] - 1); i++) {
                spot = (spot + 1) % TABLE;
            }
            return spot;
        }

        private int firstSpot() {
            long mixed = 0;
            for (int i = 0; i < WIDTH; i++) {
                mixed = (mixed ^ states[count * WIDTH + i]) * 0x9E3779B97F4A7C15L;
                mixed ^= mixed >>> 32;
            }
            return (int) (mixed & TABLE - 1);
        }

        private boolean isLike(int i) {
            for (int k = 0; k < WIDTH; k++) {
                if (states[i * WIDTH + k] != states[count * WIDTH + k]) {
                    return false;
                }
            }
            return true;
        }
    }
}
