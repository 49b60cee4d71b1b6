import java.util.NoSuchElementException;
import java.util.Random;

/** Chance runs of a fixed seed on the class and on PlainJars: every answer and every row has to be the same. */
public final class OracleTest {
    private static final int RUNS = Integer.getInteger("runs", 2500);
    private static final long SEED = Long.getLong("seed", 20261118L);
    private static final int CALLS = 60;
    private static final int KINDS = 48;

    private final Random random;
    private final JarsThatLeak x = new JarsThatLeak();
    private final PlainJars y = new PlainJars();
    private final StringBuilder story = new StringBuilder();
    private final int busyBells;
    /** Few owners, small holes and debts that can be paid: where payoff() and stops() have much to find. */
    private final boolean tight;
    private boolean same = true;

    private OracleTest(long seed) {
        random = new Random(seed);
        busyBells = random.nextInt(4) == 0 ? 200 : 25;
        tight = random.nextInt(2) == 0;
    }

    public static void main(String[] args) {
        int wrong = 0;
        long calls = 0;
        for (int run = 0; run < RUNS && wrong < 5; run++) {
            OracleTest test = new OracleTest(SEED + run);
            calls += test.run();
            if (!test.same) {
                wrong++;
                System.out.println("run of seed " + (SEED + run) + ":\n" + test.story);
            }
        }
        System.out.println(calls + " calls compared, " + wrong + " runs wrong");
        if (wrong != 0) {
            System.exit(1);
        }
    }

    private int run() {
        say("first town", told(townText(1 + random.nextInt(5)), 0));
        if (tight) {
            say("second town", told(townText(1 + random.nextInt(7)), 0));
        }
        int made = 1;
        for (; made < CALLS && same; made++) {
            call();
            if (same) {
                compareAll();
            }
        }
        return made;
    }

    private int below(int n) {
        return random.nextInt(n);
    }

    /** Mostly 0 .. most, now and then just outside. */
    private int some(int most) {
        int chance = below(40);
        return chance == 0 ? -1 : chance == 1 ? most + 1 : chance == 2 ? random.nextInt() : below(most + 1);
    }

    private int someJar() {
        int many = x.count(0);
        return below(25) == 0 ? some(9) : many == 0 ? 0 : below(many);
    }

    private int someBells() {
        return below(30) == 0 ? some(200) : below(busyBells + 1);
    }

    private void say(String call, int... both) {
        story.append(call).append(" -> ").append(both[0]);
        if (both[0] != both[1]) {
            same = false;
            story.append(", but plainly ").append(both[1]);
        }
        story.append('\n');
    }

    private static int one(boolean b) {
        return b ? 1 : 0;
    }

    // ---- texts

    private String townText(int lines) {
        StringBuilder text = new StringBuilder();
        int jars = x.count(0);
        int[] heights = new int[40];
        for (int i = 0; i < jars; i++) {
            heights[i] = Check.jarAt(x, i, 4);
        }
        for (int i = 0; i < lines; i++) {
            if (i > 0) {
                text.append(';');
            }
            if (below(3) == 0) {
                int from = below(tight ? 3 : 6);
                text.append('d').append(from).append('>').append((from + 1 + below(tight ? 2 : 5)) % (tight ? 3 : 6));
                text.append('*').append(below(tight ? 40 : 4) == 0 ? below(1000) : below(tight ? 9 : 30));
                continue;
            }
            int holds = 1 + below(tight || below(2) == 0 ? 12 : 60);
            int height = below(10);
            text.append(holds).append('/').append(below(3) == 0 ? holds : below(holds + 1)).append(',');
            text.append(tight || below(2) == 0 ? below(3) : below(10)).append(',');
            text.append(below(tight ? 3 : 6)).append(',').append(height);
            if (jars > 0 && below(4) > 0) {
                int under = below(jars);
                if (heights[under] < height) {
                    text.append('>').append(under);
                }
            }
            heights[jars] = height;
            jars++;
        }
        return text.toString();
    }

    private String expression(int within) {
        StringBuilder text = new StringBuilder();
        int things = 1 + below(3);
        for (int i = 0; i < things; i++) {
            if (i > 0) {
                text.append("+-*/+-*/<>=".charAt(below(i == 1 ? 11 : 8)));
            }
            for (int k = below(6); k > 3; k--) {
                text.append('-');
            }
            int kind = below(6);
            if (kind == 0) {
                text.append(below(3) == 0 ? below(1000) : below(10));
            } else if (kind == 1 && within < 5) {
                text.append('(').append(expression(within + 1)).append(')');
            } else {
                text.append("jbtlhcogwd".charAt(below(10)));
            }
        }
        return text.toString();
    }

    private String orderText() {
        StringBuilder text = new StringBuilder();
        int many = 1 + below(5);
        for (int i = 0; i < many; i++) {
            if (i > 0) {
                text.append(';');
            }
            int kind = below(5);
            int jar = below(9) == 0 ? below(10) : Math.max(0, someJar()) % 10;
            int other = below(9) == 0 ? below(10) : Math.max(0, someJar()) % 10;
            if (kind == 0) {
                text.append('b').append(below(4));
            } else if (kind == 1) {
                text.append('w').append(jar).append('*').append(below(20));
            } else if (kind == 2) {
                text.append('s').append(jar).append('*').append(below(20));
            } else {
                text.append('p').append(jar).append('>').append(other).append('*').append(1 + below(3));
            }
        }
        return text.toString();
    }

    /** One sign made another, put in or left out, so that a flaw may be anywhere. */
    private String spoilt(String text) {
        String signs = "0123456789/,>;*dpbws()jl+-<=x\u00e9";
        char sign = signs.charAt(below(signs.length()));
        int at = below(text.length() + 1);
        int kind = below(4);
        if (kind == 0) {
            return text.substring(0, at) + sign + text.substring(at);
        }
        if (kind == 1 && at < text.length()) {
            return text.substring(0, at) + text.substring(at + 1);
        }
        if (kind == 2 && at < text.length()) {
            return text.substring(0, at) + sign + text.substring(at + 1);
        }
        return text.substring(0, at);
    }

    private String filled(String text, String joint, String more) {
        StringBuilder all = new StringBuilder(text);
        while (all.length() < 80 && below(12) > 0) {
            all.append(joint).append(more);
        }
        return all.toString();
    }

    /** Tells both a text and has it read: 0 town, 1 law, 2 order. */
    private int[] told(String given, int reader) {
        String text = given.length() > 80 ? given.substring(0, 80) : given;
        story.append("text \"").append(text).append("\"\n");
        for (int i = 0; i < text.length(); i += 4) {
            int v = 0;
            for (int k = 0; k < 4; k++) {
                v = v << 8 | (i + k < text.length() ? text.charAt(i + k) & 255 : below(256));
            }
            say("sign", x.sign(v), y.sign(v));
        }
        say("end", one(x.end(text.length())), one(y.end(text.length())));
        switch (reader) {
            case 0: return new int[] {x.town(), y.town()};
            case 1: return new int[] {x.law(), y.law()};
            default: return new int[] {x.order(), y.order()};
        }
    }

    private void callTown() {
        String text = below(8) == 0 ? "" : townText(1 + below(3));
        if (below(3) == 0) {
            text = spoilt(text);
        }
        if (below(10) == 0) {
            text = filled(text, ";", below(2) == 0 ? townText(1) : "d0>1*" + below(100));
        }
        say("town", told(text, 0));
    }

    private void callLaw() {
        String text = below(8) == 0 ? "" : expression(0);
        if (below(3) == 0) {
            text = spoilt(text);
        }
        if (below(10) == 0) {
            text = filled(text, below(2) == 0 ? "+" : "--", expression(2));
        }
        say("law", told(text, 1));
    }

    private void callOrder() {
        String text = below(10) == 0 ? "" : orderText();
        if (below(4) == 0) {
            text = spoilt(text);
        }
        if (below(10) == 0) {
            text = filled(text, ";", orderText());
        }
        say("order", told(text, 2));
    }

    // ---- calls

    private void call() {
        int kind = below(KINDS);
        if (kind < 16) {
            callTownOrWater(kind);
        } else if (kind < 32) {
            callHowItGoesOn(kind);
        } else {
            callDropsOrSeen(kind);
        }
    }

    private void callTownOrWater(int kind) {
        int a = someJar();
        int b = someJar();
        int n = someBells();
        int s = some(9);
        switch (kind) {
            case 0: callTown(); break;
            case 1: callLaw(); break;
            case 2: callOrder(); break;
            case 3: say("hole " + a + " " + s, x.hole(a, s), y.hole(a, s)); break;
            case 4: {
                int other = below(3) == 0 ? -1 : b;
                say("below " + a + " " + other, one(x.below(a, other)), one(y.below(a, other)));
                break;
            }
            case 5: callSheet(); break;
            case 6:
            case 7: {
                int origin = some(6);
                int drops = below(4) == 0 ? some(60) : 1 + below(8);
                say("spring " + a + " " + origin + " " + drops, x.spring(a, origin, drops), y.spring(a, origin, drops));
                break;
            }
            case 8:
            case 9: {
                int drops = below(4) == 0 ? some(60) : 1 + below(4);
                say("pour " + a + " " + b + " " + drops, x.pour(a, b, drops), y.pour(a, b, drops));
                break;
            }
            case 10: {
                int wax = below(4) == 0 ? some(99) : 1 + below(9);
                say("wax " + a + " " + wax, one(x.wax(a, wax)), one(y.wax(a, wax)));
                break;
            }
            case 11:
            case 12: {
                int go = below(3) > 0 ? below(4) : n;
                say("bells " + go, x.bells(go), y.bells(go));
                break;
            }
            case 13: say("undo", x.undo(), y.undo()); break;
            default: callJudge(); break;
        }
    }

    private void callSheet() {
        int kind = some(3);
        int n = some(9);
        int f = below(3) == 0 ? random.nextInt() : below(600) - 300;
        int step = below(4) == 0 ? random.nextInt() : below(20) - 8;
        if (below(3) == 0) {
            say("sheet", x.sheet(kind, n, f, step), y.sheet(kind, n, f, step));
        }
    }

    private void callJudge() {
        int[] p = new int[3];
        for (int i = 0; i < 3; i++) {
            p[i] = below(20) == 0 ? random.nextInt() : 1000 * someJar() + 100 * someJar() + below(6);
        }
        int n = some(3);
        say("judge " + n + " " + p[0] + " " + p[1] + " " + p[2],
            x.judge(n, p[0], p[1], p[2]), y.judge(n, p[0], p[1], p[2]));
    }

    private void callHowItGoesOn(int kind) {
        int a = someJar();
        int b = someJar();
        int n = someBells();
        int v = below(3) == 0 ? some(60) : below(15);
        int k = some(9);
        int from = tight ? below(3) : some(5);
        int to = tight ? below(3) : some(5);
        switch (kind) {
            case 16: say("rest", x.rest(), y.rest()); break;
            case 17: say("dry " + a, x.dry(a), y.dry(a)); break;
            case 18: say("later " + a + " " + n, x.later(a, n), y.later(a, n)); break;
            case 19: say("flood " + a + " " + n, x.flood(a, n), y.flood(a, n)); break;
            case 20: say("above " + a, x.above(a), y.above(a)); break;
            case 21: say("least " + a + " " + b + " " + v + " " + n, x.least(a, b, v, n), y.least(a, b, v, n)); break;
            case 22: {
                int near = below(12);
                int want = below(4) == 0 ? v : x.later(a, near) + below(9);
                say("stops " + a + " " + want + " " + near, x.stops(a, want, near), y.stops(a, want, near));
                break;
            }
            case 23: say("saves " + k + " " + n, x.saves(k, n), y.saves(k, n)); break;
            case 24: say("place " + a + " " + n, x.place(a, n), y.place(a, n)); break;
            case 25:
            case 26: say("payoff", x.payoff(), y.payoff()); break;
            case 27: say("pays " + from + " " + to, x.pays(from, to), y.pays(from, to)); break;
            case 28: say("soonest " + from + " " + to, x.soonest(from, to), y.soonest(from, to)); break;
            case 29: say("latest " + from + " " + to, x.latest(from, to), y.latest(from, to)); break;
            case 30: {
                if (below(3) == 0) {
                    say("settle", x.settle(), y.settle());
                }
                break;
            }
            default: say("owes " + from + " " + to, x.owes(from, to), y.owes(from, to)); break;
        }
    }

    private void callDropsOrSeen(int kind) {
        int a = someJar();
        int n = someBells();
        int origin = some(6);
        int v = some(60);
        switch (kind) {
            case 32: say("share " + a + " " + origin, x.share(a, origin), y.share(a, origin)); break;
            case 33: say("cup " + a + " " + v, x.cup(a, v), y.cup(a, v)); break;
            case 34: say("spread " + origin, x.spread(origin), y.spread(origin)); break;
            case 35: say("comes " + a + " " + origin, x.comes(a, origin), y.comes(a, origin)); break;
            case 36: say("marks " + a, x.marks(a), y.marks(a)); break;
            case 37: say("tax " + n, x.tax(n), y.tax(n)); break;
            case 38: say("drop " + a + " " + v, x.drop(a, v), y.drop(a, v)); break;
            case 39:
            case 40: {
                int near = below(6);
                int level = below(12) == 0 ? v : Math.max(0, x.later(a, near) + below(3) / 2);
                say("seen " + a + " " + near + " " + level, x.seen(a, near, level), y.seen(a, near, level));
                break;
            }
            case 41: say("forget", x.forget(), y.forget()); break;
            case 42: say("holes " + a, x.holes(a), y.holes(a)); break;
            case 43: say("explains", x.explains(), y.explains()); break;
            case 44: say("looks " + n, x.looks(n), y.looks(n)); break;
            case 45: say("secret", x.secret(), y.secret()); break;
            case 46: {
                int i = some(1);
                say("keep " + i, one(x.keep(i)), one(y.keep(i)));
                break;
            }
            default: {
                int i = some(1);
                say("again " + i, one(x.again(i)), one(y.again(i)));
                break;
            }
        }
    }

    // ---- all there is to look at

    private void compareAll() {
        for (int what = -1; what <= 9; what++) {
            compare("count " + what, x.count(what), y.count(what));
        }
        for (int i = -1; i <= x.count(6); i++) {
            compare("row " + i, Check.rowAt(x, i), plainRow(i));
        }
        for (int jar = -1; jar <= x.count(0); jar++) {
            for (int what = -1; what <= 8; what++) {
                compare("jar " + jar + " " + what, Check.jarAt(x, jar, what), plainJar(jar, what));
            }
            for (int k = 0; k <= 60; k++) {
                compare("drop " + jar + " " + k, x.drop(jar, k), y.drop(jar, k));
            }
        }
        for (int from = 0; from < 6; from++) {
            for (int to = 0; to < 6; to++) {
                compare("owes " + from + " " + to, x.owes(from, to), y.owes(from, to));
            }
        }
    }

    private void compare(String what, int got, int plain) {
        if (got != plain) {
            say(what, got, plain);
        }
    }

    private int plainRow(int i) {
        try {
            return y.row(i);
        } catch (NoSuchElementException e) {
            return Check.THROWS;
        }
    }

    private int plainJar(int jar, int what) {
        try {
            return y.jar(jar, what);
        } catch (NoSuchElementException e) {
            return Check.THROWS;
        }
    }
}
