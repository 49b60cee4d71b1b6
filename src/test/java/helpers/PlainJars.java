import java.util.ArrayDeque;
import java.util.ArrayList;
import java.util.Arrays;
import java.util.Collections;
import java.util.HashMap;
import java.util.HashSet;
import java.util.List;
import java.util.Map;
import java.util.NoSuchElementException;
import java.util.Set;
import java.util.TreeMap;
import java.util.TreeSet;
import java.util.function.Consumer;
import java.util.regex.Matcher;
import java.util.regex.Pattern;

/**
 * The document written a second time, as slowly and as plainly as can be, and by other
 * means than the class: lists for jars, patterns for texts, every choice tried.
 */
final class PlainJars {
    static final class Jar {
        int holds;
        int hole;
        int owner;
        int height;
        int below = -1;
        int wax;
        List<Integer> drops = new ArrayList<>();

        Jar copy() {
            Jar other = new Jar();
            other.holds = holds;
            other.hole = hole;
            other.owner = owner;
            other.height = height;
            other.below = below;
            other.wax = wax;
            other.drops = new ArrayList<>(drops);
            return other;
        }

        int level() {
            return drops.size();
        }
    }

    static final class World {
        List<Jar> jars = new ArrayList<>();
        int[][] debt = new int[6][6];
        int bells;
        int lost;
        boolean waxSet;
        List<Integer> sand = new ArrayList<>();

        World copy() {
            World other = new World();
            for (Jar jar : jars) {
                other.jars.add(jar.copy());
            }
            for (int i = 0; i < 6; i++) {
                other.debt[i] = debt[i].clone();
            }
            other.bells = bells;
            other.lost = lost;
            other.waxSet = waxSet;
            return other;
        }

        void bell() {
            List<List<Integer>> went = new ArrayList<>();
            for (Jar jar : jars) {
                int many = jar.wax > 0 ? 0 : Math.min(jar.hole, jar.level());
                went.add(new ArrayList<>(jar.drops.subList(0, many)));
                jar.drops = new ArrayList<>(jar.drops.subList(many, jar.level()));
            }
            for (int i = 0; i < jars.size(); i++) {
                for (int drop : went.get(i)) {
                    int below = jars.get(i).below;
                    if (below >= 0 && jars.get(below).level() < jars.get(below).holds) {
                        jars.get(below).drops.add(drop);
                    } else {
                        lost++;
                        sand.add(drop);
                    }
                }
            }
            for (Jar jar : jars) {
                jar.wax = Math.max(0, jar.wax - 1);
            }
            bells++;
            waxSet = false;
        }

        World on(int n) {
            World other = copy();
            for (int i = 0; i < n; i++) {
                other.bell();
            }
            return other;
        }

        int level(int jar) {
            return jars.get(jar).level();
        }

        int debts() {
            int sum = 0;
            for (int[] row : debt) {
                for (int one : row) {
                    sum += one;
                }
            }
            return sum;
        }

        boolean canPour(int from, int to, int drops) {
            return from >= 0 && from < jars.size() && to >= 0 && to < jars.size() && from != to
                && drops >= 1 && level(from) >= drops && jars.get(to).holds - level(to) >= drops;
        }

        void pour(int from, int to, int drops) {
            for (int i = 0; i < drops; i++) {
                jars.get(to).drops.add(jars.get(from).drops.remove(0));
            }
            int a = jars.get(from).owner;
            int b = jars.get(to).owner;
            debt[a][b] = Math.max(0, debt[a][b] - drops);
        }
    }

    private World now = new World();
    private final ArrayDeque<World> past = new ArrayDeque<>();
    private final World[] kept = new World[2];
    private String text = "";
    private String law = "";
    private List<Integer> row = new ArrayList<>();
    private final List<int[]> sightings = new ArrayList<>();

    private boolean no(int jar) {
        return jar < 0 || jar >= now.jars.size();
    }

    private static boolean out(int v, int most) {
        return v < 0 || v > most;
    }

    private void tell(int... numbers) {
        row = new ArrayList<>();
        for (int number : numbers) {
            row.add(number);
        }
    }

    private void remember(World ahead) {
        past.addLast(ahead);
        if (past.size() > 12) {
            past.removeFirst();
        }
    }

    // ---- texts

    int sign(int v) {
        if (text.length() + 4 > 80) {
            return -1;
        }
        text += "" + (char) (v >>> 24) + (char) (v >>> 16 & 255) + (char) (v >>> 8 & 255) + (char) (v & 255);
        return text.length();
    }

    boolean end(int n) {
        if (n < 0 || n > text.length()) {
            return false;
        }
        text = text.substring(0, n);
        return true;
    }

    /** Where a text first leaves all texts of a pattern; its length if it ends too early; -1 if it is one. */
    static int leaves(Pattern pattern, String text) {
        for (int p = 1; p <= text.length(); p++) {
            Matcher matcher = pattern.matcher(text.substring(0, p));
            if (!matcher.matches() && !matcher.hitEnd()) {
                return p - 1;
            }
        }
        return pattern.matcher(text).matches() ? -1 : text.length();
    }

    private static final String JAR_LINE = "\\d{1,2}/\\d{1,2},\\d,\\d,\\d(?:>\\d)?";
    private static final String DEBT_LINE = "d\\d>\\d\\*\\d{1,3}";
    private static final Pattern TOWN =
        Pattern.compile("(?:" + JAR_LINE + "|" + DEBT_LINE + ")(?:;(?:" + JAR_LINE + "|" + DEBT_LINE + "))*");
    private static final Pattern JAR_PARTS =
        Pattern.compile("(\\d{1,2})(?:/(?:(\\d{1,2})(?:,(?:(\\d)(?:,(?:(\\d)(?:,(?:(\\d)(?:>(\\d)?)?)?)?)?)?)?)?)?)?.*",
            Pattern.DOTALL);
    private static final Pattern DEBT_PARTS =
        Pattern.compile("d(?:(\\d)(?:>(?:(\\d)(?:\\*(\\d{1,3})?)?)?)?)?.*", Pattern.DOTALL);

    int town() {
        String all = text;
        text = "";
        if (all.isEmpty()) {
            return 0;
        }
        String first = all.substring(0, Math.min(76, all.length()));
        World next = now.copy();
        TreeSet<Integer> flaws = new TreeSet<>();
        int structure = leaves(TOWN, first);
        if (structure >= 0) {
            flaws.add(structure);
        }
        if (all.length() > 76) {
            flaws.add(76);
        }
        int at = 0;
        String[] lines = first.split(";", -1);
        for (String line : lines) {
            if (structure < 0 || at <= structure) {
                lineInto(line, at, next, flaws);
            }
            at += line.length() + 1;
        }
        if (!flaws.isEmpty()) {
            return -1 - flaws.first();
        }
        now = next;
        past.clear();
        return lines.length;
    }

    private static void lineInto(String line, int at, World next, Set<Integer> flaws) {
        Matcher debt = DEBT_PARTS.matcher(line);
        if (debt.matches()) {
            for (int i = 1; i <= 2; i++) {
                if (debt.group(i) != null && Integer.parseInt(debt.group(i)) > 5) {
                    flaws.add(at + debt.start(i));
                }
            }
            if (debt.group(2) != null && debt.group(2).equals(debt.group(1))) {
                flaws.add(at + debt.start(2));
            }
            if (debt.group(3) != null && flaws.isEmpty()) {
                next.debt[debt.group(1).charAt(0) - '0'][debt.group(2).charAt(0) - '0'] =
                    Integer.parseInt(debt.group(3));
            }
            return;
        }
        Matcher jar = JAR_PARTS.matcher(line);
        if (!jar.matches()) {
            return;
        }
        if (next.jars.size() >= 9) {
            flaws.add(at);
            return;
        }
        Jar made = new Jar();
        made.holds = Integer.parseInt(jar.group(1));
        if (made.holds < 1 || made.holds > 60) {
            flaws.add(at + jar.end(1) - 1);
        }
        int level = jar.group(2) == null ? 0 : Integer.parseInt(jar.group(2));
        if (level > made.holds) {
            flaws.add(at + jar.end(2) - 1);
        }
        made.hole = jar.group(3) == null ? 0 : Integer.parseInt(jar.group(3));
        made.owner = jar.group(4) == null ? 0 : Integer.parseInt(jar.group(4));
        if (made.owner > 5) {
            flaws.add(at + jar.start(4));
        }
        made.height = jar.group(5) == null ? 0 : Integer.parseInt(jar.group(5));
        if (jar.group(6) != null) {
            made.below = Integer.parseInt(jar.group(6));
            if (made.below >= next.jars.size() || next.jars.get(made.below).height >= made.height) {
                flaws.add(at + jar.start(6));
            }
        }
        made.drops.addAll(Collections.nCopies(level, made.owner));
        next.jars.add(made);
    }

    private static final Pattern LAW = Pattern.compile(lawPattern(4));

    private static String lawPattern(int within) {
        String thing = "\\d{1,3}|[jbtlhcogwd]" + (within > 0 ? "|\\(" + lawPattern(within - 1) + "\\)" : "");
        String signed = "-*(?:" + thing + ")";
        String sum = signed + "(?:[-+*/]" + signed + ")*";
        return sum + "(?:[<>=]" + sum + ")?";
    }

    int law() {
        String all = text;
        text = "";
        if (all.isEmpty()) {
            law = "";
            return 0;
        }
        int flaw = leaves(LAW, all.substring(0, Math.min(40, all.length())));
        if (flaw < 0 && all.length() > 40) {
            flaw = 40;
        }
        if (flaw >= 0) {
            return -1 - flaw;
        }
        law = all;
        return 0;
    }

    /** The last sign of those asked for that stands in no ( ) and has something to bind on its left; or -1. */
    private static int lastOuter(String expression, String signs) {
        int within = 0;
        int found = -1;
        for (int i = 0; i < expression.length(); i++) {
            char sign = expression.charAt(i);
            within += sign == '(' ? 1 : sign == ')' ? -1 : 0;
            boolean binds = i > 0 && "+-*/<>=(".indexOf(expression.charAt(i - 1)) < 0;
            if (within == 0 && binds && signs.indexOf(sign) >= 0) {
                found = i;
            }
        }
        return found;
    }

    private int worth(String expression, int jar) {
        for (String signs : new String[] {"<>=", "+-", "*/"}) {
            int at = lastOuter(expression, signs);
            if (at >= 0) {
                int left = worth(expression.substring(0, at), jar);
                int right = worth(expression.substring(at + 1), jar);
                switch (expression.charAt(at)) {
                    case '<': return left < right ? 1 : 0;
                    case '>': return left > right ? 1 : 0;
                    case '=': return left == right ? 1 : 0;
                    case '+': return left + right;
                    case '-': return left - right;
                    case '*': return left * right;
                    default: return right == 0 ? 0 : left / right;
                }
            }
        }
        if (expression.startsWith("-")) {
            return -worth(expression.substring(1), jar);
        }
        if (expression.startsWith("(")) {
            return worth(expression.substring(1, expression.length() - 1), jar);
        }
        Jar it = now.jars.get(jar);
        switch (expression.charAt(0)) {
            case 'j': return jar;
            case 'b': return now.bells;
            case 't': return now.bells - 12 * (now.bells / 12);
            case 'l': return it.level();
            case 'h': return it.hole;
            case 'c': return it.holds;
            case 'o': return it.owner;
            case 'g': return it.height;
            case 'w': return it.wax;
            case 'd': return Arrays.stream(now.debt[it.owner]).sum();
            default: return Integer.parseInt(expression);
        }
    }

    private int lawOf(int jar) {
        return law.isEmpty() ? 1 : worth(law, jar);
    }

    int jar(int jar, int what) {
        if (no(jar) || out(what, 7)) {
            throw new NoSuchElementException();
        }
        Jar it = now.jars.get(jar);
        return new int[] {it.level(), it.holds, it.hole, it.owner, it.height, it.below, it.wax, lawOf(jar)}[what];
    }

    int hole(int jar, int v) {
        if (no(jar) || out(v, 9)) {
            return -1;
        }
        int was = now.jars.get(jar).hole;
        now.jars.get(jar).hole = v;
        return was;
    }

    boolean below(int jar, int other) {
        if (no(jar)) {
            return false;
        }
        if (other != -1 && (no(other) || now.jars.get(other).height >= now.jars.get(jar).height)) {
            return false;
        }
        now.jars.get(jar).below = other;
        return true;
    }

    int sheet(int kind, int n, int f, int step) {
        if (out(kind, 3) || n > 9) {
            return -1;
        }
        if (kind < 3 && n < 0) {
            return -2;
        }
        List<Long> entries = new ArrayList<>();
        int entry = f;
        for (int i = 0; kind < 3 && i < n; i++) {
            entries.add(kind == 0 ? (long) (byte) entry : kind == 1 ? (long) (short) entry : (long) entry);
            entry += step;
        }
        long sum = 0;
        for (int i = 0; i < now.jars.size(); i++) {
            long told = i < entries.size() ? entries.get(i) : 0;
            now.jars.get(i).hole = told < 0 ? 0 : told > 9 ? 9 : (int) told;
            sum += now.jars.get(i).hole;
        }
        return kind == 3 ? -3 : (int) sum;
    }

    // ---- water

    int spring(int jar, int origin, int drops) {
        if (no(jar) || out(origin, 6) || drops < 1 || drops > 60) {
            return -1;
        }
        remember(now.copy());
        Jar it = now.jars.get(jar);
        int came = 0;
        while (came < drops && it.level() < it.holds) {
            it.drops.add(origin);
            came++;
        }
        return came;
    }

    int pour(int from, int to, int drops) {
        if (no(from) || no(to) || from == to || drops < 1) {
            return -1;
        }
        if (now.level(from) < drops) {
            return -2;
        }
        if (!now.canPour(from, to, drops)) {
            return -3;
        }
        remember(now.copy());
        now.pour(from, to, drops);
        return drops;
    }

    boolean wax(int jar, int bells) {
        if (no(jar) || bells < 1 || bells > 99 || lawOf(jar) == 0 || now.waxSet) {
            return false;
        }
        remember(now.copy());
        now.jars.get(jar).wax = bells;
        now.waxSet = true;
        return true;
    }

    int bells(int n) {
        if (out(n, 200)) {
            return -1;
        }
        World ahead = now;
        now = now.on(n);
        if (n > 0) {
            remember(ahead);
        }
        int empty = 0;
        int sum = 0;
        for (Jar jar : now.jars) {
            empty += jar.drops.isEmpty() ? 1 : 0;
            sum += jar.level();
        }
        tell(empty, sum);
        return now.lost - ahead.lost;
    }

    int undo() {
        if (past.isEmpty()) {
            return -1;
        }
        World back = past.removeLast();
        for (int i = 0; i < now.jars.size(); i++) {
            back.jars.get(i).hole = now.jars.get(i).hole;
            back.jars.get(i).below = now.jars.get(i).below;
        }
        now = back;
        return past.size();
    }

    int judge(int n, int a, int b, int c) {
        if (out(n, 3)) {
            return -1;
        }
        World tried = now.copy();
        int[] rows = {a, b, c};
        int sum = 0;
        int answer = -2;
        for (int i = 0; i < n; i++) {
            if (rows[i] < 0 || !tried.canPour(rows[i] / 1000, rows[i] % 1000 / 100, rows[i] % 100)) {
                answer = i;
                break;
            }
            tried.pour(rows[i] / 1000, rows[i] % 1000 / 100, rows[i] % 100);
            sum += rows[i] % 100;
        }
        tell(sum, tried.debts());
        return answer;
    }

    private static final String STEP = "(?:p\\d>\\d\\*\\d{1,2}|b\\d{1,2}|[ws]\\d\\*\\d{1,2})";
    private static final Pattern ORDER = Pattern.compile(STEP + "(?:;" + STEP + ")*");

    int order() {
        String all = text;
        text = "";
        int flaw = all.isEmpty() ? -1 : leaves(ORDER, all.substring(0, Math.min(60, all.length())));
        if (flaw < 0 && all.length() > 60) {
            flaw = 60;
        }
        if (flaw >= 0) {
            return -1 - flaw;
        }
        int ahead = now.lost;
        int done = 0;
        int refused = 0;
        for (String step : all.isEmpty() ? new String[0] : all.split(";")) {
            String[] parts = step.substring(1).split("[>*]");
            int[] v = Arrays.stream(parts).mapToInt(Integer::parseInt).toArray();
            boolean could = step.charAt(0) == 'p' ? pour(v[0], v[1], v[2]) > 0
                : step.charAt(0) == 'b' ? bells(v[0]) >= 0
                : step.charAt(0) == 'w' ? wax(v[0], v[1])
                : spring(v[0], 6, v[1]) >= 0;
            if (!could) {
                refused = 1;
                break;
            }
            done++;
        }
        tell(now.lost - ahead, refused);
        return done;
    }

    int owes(int from, int to) {
        return out(from, 5) || out(to, 5) || from == to ? -1 : now.debt[from][to];
    }

    // ---- how it goes on

    private static boolean quiet(World world) {
        for (Jar jar : world.jars) {
            if (jar.hole > 0 && jar.level() > 0) {
                return false;
            }
        }
        return true;
    }

    int rest() {
        List<World> all = new ArrayList<>();
        all.add(now.copy());
        while (!quiet(all.get(all.size() - 1))) {
            all.add(all.get(all.size() - 1).on(1));
        }
        World last = all.get(all.size() - 1);
        int which = -1;
        for (int n = all.size() - 1; n >= 0 && which < 0; n--) {
            for (int jar = now.jars.size() - 1; jar >= 0; jar--) {
                if (last.level(jar) == 0 && all.get(n).level(jar) > 0) {
                    which = jar;
                }
            }
        }
        tell(last.lost - now.lost, which);
        return all.size() - 1;
    }

    private int[] levels(World start, int jar) {
        World world = start.copy();
        int[] levels = new int[201];
        for (int n = 0; n <= 200; n++) {
            levels[n] = world.level(jar);
            world.bell();
        }
        return levels;
    }

    int dry(int jar) {
        if (no(jar)) {
            return -1;
        }
        int[] levels = levels(now, jar);
        for (int n = 0; n <= 200; n++) {
            if (levels[n] == 0) {
                return n;
            }
        }
        return -2;
    }

    int later(int jar, int n) {
        return no(jar) || out(n, 200) ? -1 : now.on(n).level(jar);
    }

    int flood(int jar, int n) {
        if (no(jar) || out(n, 200)) {
            return -1;
        }
        int[] levels = Arrays.copyOf(levels(now, jar), n + 1);
        int most = Arrays.stream(levels).max().getAsInt();
        int first = 0;
        while (levels[first] != most) {
            first++;
        }
        tell(first);
        return most;
    }

    int above(int jar) {
        if (no(jar)) {
            return -1;
        }
        int bits = 1 << jar;
        for (int times = 0; times < 10; times++) {
            for (int i = 0; i < now.jars.size(); i++) {
                int below = now.jars.get(i).below;
                if (below >= 0 && (bits >> below & 1) == 1) {
                    bits |= 1 << i;
                }
            }
        }
        return bits;
    }

    // ---- what has to be done

    int least(int into, int jar, int v, int n) {
        if (no(into) || no(jar) || out(v, 60) || out(n, 200)) {
            return -1;
        }
        for (int drops = 0; drops <= now.jars.get(into).holds - now.level(into); drops++) {
            World tried = now.copy();
            tried.jars.get(into).drops.addAll(Collections.nCopies(drops, 6));
            tried = tried.on(n);
            if (tried.level(jar) >= v) {
                tell(tried.lost - now.lost);
                return drops;
            }
        }
        return -2;
    }

    private World stopped(int bits, int n) {
        World tried = now.copy();
        for (int i = 0; i < tried.jars.size(); i++) {
            if ((bits >> i & 1) == 1) {
                tried.jars.get(i).wax = Math.max(n, tried.jars.get(i).wax);
            }
        }
        return tried.on(n);
    }

    int stops(int jar, int v, int n) {
        if (no(jar) || out(v, 60) || out(n, 200)) {
            return -1;
        }
        int best = -1;
        for (int bits = 0; bits < 1 << now.jars.size(); bits++) {
            if (stopped(bits, n).level(jar) >= v
                && (best < 0 || Integer.bitCount(bits) < Integer.bitCount(best))) {
                best = bits;
            }
        }
        if (best < 0) {
            return -2;
        }
        tell(best, stopped(best, n).level(jar));
        return Integer.bitCount(best);
    }

    int saves(int k, int n) {
        if (out(k, 9) || out(n, 200)) {
            return -1;
        }
        int best = 0;
        int least = Integer.MAX_VALUE;
        for (int bits = 0; bits < 1 << now.jars.size(); bits++) {
            if (Integer.bitCount(bits) <= k) {
                int lost = stopped(bits, n).lost - now.lost;
                if (lost < least || lost == least && Integer.bitCount(bits) < Integer.bitCount(best)) {
                    best = bits;
                    least = lost;
                }
            }
        }
        tell(best);
        return least;
    }

    int place(int jar, int n) {
        if (no(jar) || out(n, 200)) {
            return -1;
        }
        TreeMap<Integer, Integer> firstWith = new TreeMap<>();
        for (int other = -1; other < now.jars.size(); other++) {
            if (other < 0 || now.jars.get(other).height < now.jars.get(jar).height) {
                World tried = now.copy();
                tried.jars.get(jar).below = other;
                firstWith.putIfAbsent(tried.on(n).lost - now.lost, other);
            }
        }
        tell(firstWith.firstEntry().getValue());
        return firstWith.firstKey();
    }

    private static String key(World world) {
        StringBuilder key = new StringBuilder();
        for (Jar jar : world.jars) {
            key.append(jar.level()).append(',');
        }
        return key.append(Arrays.deepToString(world.debt)).toString();
    }

    private static TreeMap<Integer, World> payings(World world) {
        TreeMap<Integer, World> found = new TreeMap<>();
        for (int from = 0; from < world.jars.size(); from++) {
            for (int to = 0; to < world.jars.size(); to++) {
                Jar a = world.jars.get(from);
                Jar b = world.jars.get(to);
                int drops = Math.min(world.debt[a.owner][b.owner], Math.min(a.level(), b.holds - b.level()));
                if (drops > 0) {
                    World next = world.copy();
                    next.pour(from, to, drops);
                    found.put(1000 * from + 100 * to + drops, next);
                }
            }
        }
        return found;
    }

    /** Far more than any way has; so two such added stay an int. */
    private static final int NEVER = 1000000;

    private static int stepsLeft(World world, Map<String, Integer> known) {
        if (world.debts() == 0) {
            return 0;
        }
        Integer was = known.get(key(world));
        if (was != null) {
            return was;
        }
        int least = NEVER;
        for (World next : payings(world).values()) {
            least = Math.min(least, 1 + stepsLeft(next, known));
        }
        known.put(key(world), least);
        return least;
    }

    int payoff() {
        Set<String> states = new HashSet<>();
        ArrayDeque<World> open = new ArrayDeque<>();
        open.add(now);
        states.add(key(now));
        while (!open.isEmpty()) {
            for (World next : payings(open.remove()).values()) {
                if (states.add(key(next))) {
                    open.add(next);
                }
            }
            if (states.size() > 3000) {
                return -3;
            }
        }
        Map<String, Integer> known = new HashMap<>();
        int many = stepsLeft(now, known);
        if (many >= NEVER) {
            return -2;
        }
        row = new ArrayList<>();
        World at = now;
        for (int left = many; left > 0; left--) {
            for (Map.Entry<Integer, World> next : payings(at).entrySet()) {
                if (stepsLeft(next.getValue(), known) == left - 1) {
                    if (row.size() < 10) {
                        row.add(next.getKey());
                    }
                    at = next.getValue();
                    break;
                }
            }
        }
        return many;
    }

    private int[] hasAndRoom(World world, int from, int to) {
        int has = 0;
        int room = 0;
        for (Jar jar : world.jars) {
            if (jar.owner == from) {
                has += jar.level();
            }
            if (jar.owner == to) {
                room += jar.holds - jar.level();
            }
        }
        return new int[] {has, room};
    }

    int pays(int from, int to) {
        if (owes(from, to) < 0) {
            return -1;
        }
        int[] both = hasAndRoom(now, from, to);
        tell(both);
        return Math.min(both[0], both[1]) >= now.debt[from][to] ? 1 : 0;
    }

    private List<Integer> couldPay(int from, int to) {
        List<Integer> when = new ArrayList<>();
        World world = now.copy();
        for (int n = 0; n <= 200; n++) {
            int[] both = hasAndRoom(world, from, to);
            if (both[0] >= now.debt[from][to] && both[1] >= now.debt[from][to]) {
                when.add(n);
            }
            world.bell();
        }
        return when;
    }

    int soonest(int from, int to) {
        if (owes(from, to) < 0) {
            return -1;
        }
        List<Integer> when = couldPay(from, to);
        return when.isEmpty() ? -2 : when.get(0);
    }

    int latest(int from, int to) {
        if (owes(from, to) < 0) {
            return -1;
        }
        List<Integer> when = couldPay(from, to);
        return when.isEmpty() ? -2 : when.get(when.size() - 1);
    }

    int settle() {
        int ahead = now.debts();
        for (int a = 0; a < 6; a++) {
            for (int b = 0; b < a; b++) {
                setOff(a, b);
            }
        }
        int rows = 0;
        for (int[] abc = firstRow(); abc != null; abc = firstRow()) {
            int lesser = Math.min(now.debt[abc[0]][abc[1]], now.debt[abc[1]][abc[2]]);
            now.debt[abc[0]][abc[1]] -= lesser;
            now.debt[abc[1]][abc[2]] -= lesser;
            now.debt[abc[0]][abc[2]] = Math.min(999, now.debt[abc[0]][abc[2]] + lesser);
            setOff(abc[0], abc[2]);
            rows++;
        }
        past.clear();
        tell(ahead, now.debts());
        return rows;
    }

    private void setOff(int a, int b) {
        int more = now.debt[a][b] - now.debt[b][a];
        now.debt[a][b] = Math.max(0, more);
        now.debt[b][a] = Math.max(0, -more);
    }

    private int[] firstRow() {
        for (int abc = 0; abc < 216; abc++) {
            int a = abc / 36;
            int b = abc / 6 % 6;
            int c = abc % 6;
            if (a != b && b != c && a != c && now.debt[a][b] > 0 && now.debt[b][c] > 0) {
                return new int[] {a, b, c};
            }
        }
        return null;
    }

    // ---- whose drops

    int share(int jar, int origin) {
        return no(jar) || out(origin, 6) ? -1 : Collections.frequency(now.jars.get(jar).drops, origin);
    }

    int cup(int jar, int n) {
        if (no(jar) || out(n, 60)) {
            return -1;
        }
        List<Integer> drops = now.jars.get(jar).drops;
        List<Integer> cup = drops.subList(0, Math.min(n, drops.size()));
        tell(byOrigin(cup));
        return cup.size();
    }

    private static int[] byOrigin(List<Integer> drops) {
        int[] many = new int[7];
        for (int drop : drops) {
            many[drop]++;
        }
        return many;
    }

    int spread(int origin) {
        if (out(origin, 6)) {
            return -1;
        }
        int sum = 0;
        int bits = 0;
        int best = -1;
        for (int jar = 0; jar < now.jars.size(); jar++) {
            int has = share(jar, origin);
            sum += has;
            if (has > 0) {
                bits |= 1 << jar;
            }
            if (has > 0 && (best < 0 || has > share(best, origin))) {
                best = jar;
            }
        }
        if (sum == 0) {
            tell();
        } else {
            tell(best, share(best, origin), bits);
        }
        return sum;
    }

    int comes(int jar, int origin) {
        if (no(jar) || out(origin, 6)) {
            return -1;
        }
        World world = now.copy();
        for (int n = 0; n <= 200; n++) {
            if (world.jars.get(jar).drops.contains(origin)) {
                return n;
            }
            world.bell();
        }
        return -2;
    }

    int marks(int jar) {
        if (no(jar)) {
            return -1;
        }
        World world = now.copy();
        for (int i = 0; i < world.jars.size(); i++) {
            Collections.fill(world.jars.get(i).drops, i == jar ? 77 : 0);
        }
        while (!quiet(world)) {
            world.bell();
        }
        row = new ArrayList<>();
        for (Jar it : world.jars) {
            row.add(Collections.frequency(it.drops, 77));
        }
        return Collections.frequency(world.sand, 77);
    }

    int tax(int n) {
        if (out(n, 200)) {
            return -1;
        }
        World world = now.on(n);
        tell(byOrigin(world.sand));
        return world.sand.size();
    }

    int drop(int jar, int k) {
        return no(jar) || k < 0 || k >= now.level(jar) ? -1 : now.jars.get(jar).drops.get(k);
    }

    // ---- what was seen

    int seen(int jar, int n, int level) {
        if (no(jar) || out(n, 200) || out(level, 60) || sightings.size() == 10) {
            return -1;
        }
        sightings.add(new int[] {jar, n, level});
        return sightings.size();
    }

    int forget() {
        if (sightings.isEmpty()) {
            return -1;
        }
        sightings.remove(sightings.size() - 1);
        return sightings.size();
    }

    private boolean so(Consumer<World> change) {
        World world = now.copy();
        change.accept(world);
        for (int[] one : sightings) {
            if (world.on(one[1]).level(one[0]) != one[2]) {
                return false;
            }
        }
        return true;
    }

    int holes(int jar) {
        if (no(jar)) {
            return -1;
        }
        int bits = 0;
        for (int hole = 0; hole < 10; hole++) {
            int told = hole;
            bits |= so(world -> world.jars.get(jar).hole = told) ? 1 << hole : 0;
        }
        return bits;
    }

    int explains() {
        List<int[]> pairs = new ArrayList<>();
        for (int jar = 0; jar < now.jars.size(); jar++) {
            int bits = holes(jar);
            for (int hole = 0; hole < 10; hole++) {
                if ((bits >> hole & 1) == 1 && hole != now.jars.get(jar).hole) {
                    pairs.add(new int[] {jar, hole});
                }
            }
        }
        int asItIs = so(world -> { }) ? 1 : 0;
        if (pairs.isEmpty()) {
            tell(asItIs);
        } else {
            tell(pairs.get(0)[0], pairs.get(0)[1], asItIs);
        }
        return pairs.size();
    }

    int looks(int n) {
        if (out(n, 200)) {
            return -1;
        }
        if (now.jars.isEmpty()) {
            return -2;
        }
        List<World> ways = new ArrayList<>();
        ways.add(now.on(n));
        for (int jar = 0; jar < now.jars.size(); jar++) {
            World world = now.copy();
            if (world.jars.get(jar).hole < 9) {
                world.jars.get(jar).hole++;
                ways.add(world.on(n));
            }
        }
        int best = -1;
        int fewest = 99;
        for (int jar = 0; jar < now.jars.size(); jar++) {
            Map<Integer, Integer> groups = new HashMap<>();
            for (World way : ways) {
                groups.merge(way.level(jar), 1, Integer::sum);
            }
            int most = Collections.max(groups.values());
            if (most < fewest) {
                fewest = most;
                best = jar;
                tell(most, groups.size());
            }
        }
        return best;
    }

    int secret() {
        int ways = 0;
        tell();
        for (int jar = 0; jar < now.jars.size(); jar++) {
            for (int drops = 1; drops <= now.jars.get(jar).holds - now.level(jar); drops++) {
                int which = jar;
                int many = drops;
                if (so(world -> world.jars.get(which).drops.addAll(Collections.nCopies(many, 6)))) {
                    if (ways == 0) {
                        tell(jar, drops);
                    }
                    ways++;
                }
            }
        }
        return ways;
    }

    // ---- kept

    boolean keep(int i) {
        if (out(i, 1)) {
            return false;
        }
        kept[i] = now.copy();
        return true;
    }

    boolean again(int i) {
        if (out(i, 1) || kept[i] == null || kept[i].jars.size() != now.jars.size()) {
            return false;
        }
        now = kept[i].copy();
        past.clear();
        return true;
    }

    int count(int what) {
        switch (what) {
            case 0: return now.jars.size();
            case 1: return now.bells;
            case 2: return now.lost;
            case 3: return now.jars.stream().mapToInt(Jar::level).sum();
            case 4: return past.size();
            case 5: return sightings.size();
            case 6: return row.size();
            case 7: return text.length();
            case 8: return now.debts();
            default: return -1;
        }
    }

    int row(int i) {
        if (i < 0 || i >= row.size()) {
            throw new NoSuchElementException();
        }
        return row.get(i);
    }
}
