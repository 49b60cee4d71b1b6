import java.util.Arrays;
import java.util.NoSuchElementException;

/** What the tests of the project share: telling a text, and looking at answers. */
final class Check {
    static final int THROWS = Integer.MIN_VALUE;
    private static int wrong = 0;
    private static int looked = 0;
    private static String where = "";

    private Check() {
    }

    /** What is told ahead of each wrong answer from now on. */
    static void where(String told) {
        where = told;
    }

    static int looked() {
        return looked;
    }

    static void due(String call, long got, long want) {
        dueText(call, Long.toString(got), Long.toString(want));
    }

    static void due(String call, boolean got, boolean want) {
        due(call, got ? 1 : 0, want ? 1 : 0);
    }

    static void dueText(String call, String got, String want) {
        looked++;
        if (!got.equals(want)) {
            wrong++;
            System.out.println(where + call + " answered " + got + ", due is " + want);
        }
    }

    /** The ROW, whole, and that nothing stands ahead of it or behind it. */
    static void row(JarsThatLeak x, String call, int... want) {
        dueText("the row of " + call, Arrays.toString(rowOf(x)), Arrays.toString(want));
        due("row(-1) behind " + call, rowAt(x, -1), THROWS);
        due("the end of the row of " + call, rowAt(x, want.length), THROWS);
    }

    static int[] rowOf(JarsThatLeak x) {
        int[] row = new int[x.count(6)];
        for (int i = 0; i < row.length; i++) {
            row[i] = rowAt(x, i);
        }
        return row;
    }

    static int rowAt(JarsThatLeak x, int i) {
        try {
            return x.row(i);
        } catch (NoSuchElementException e) {
            return THROWS;
        }
    }

    static int jarAt(JarsThatLeak x, int jar, int what) {
        try {
            return x.jar(jar, what);
        } catch (NoSuchElementException e) {
            return THROWS;
        }
    }

    static void type(JarsThatLeak x, String text) {
        x.end(0);
        for (int i = 0; i < text.length(); i += 4) {
            int v = 0;
            for (int k = 0; k < 4; k++) {
                v = v << 8 | (i + k < text.length() ? text.charAt(i + k) & 255 : 0);
            }
            x.sign(v);
        }
        x.end(text.length());
    }

    static int town(JarsThatLeak x, String text) {
        type(x, text);
        return x.town();
    }

    static int law(JarsThatLeak x, String text) {
        type(x, text);
        return x.law();
    }

    static int order(JarsThatLeak x, String text) {
        type(x, text);
        return x.order();
    }

    static JarsThatLeak with(String town) {
        JarsThatLeak x = new JarsThatLeak();
        if (town(x, town) < 0) {
            wrong++;
            System.out.println(where + "the town " + town + " was refused");
        }
        return x;
    }

    /** Jar 0 loses 1 at each bell, so many bells long (181 .. 240), and is full till the last 60 of them. */
    static JarsThatLeak losing(int bells) {
        return with("60/60,1,0,1;60/60,1,0,2>0;60/60,1,0,3>1;60/" + (bells - 180) + ",1,0,4>2");
    }

    /** All of a jar that jar() tells but the law, with its drops behind. */
    static String jarText(JarsThatLeak x, int jar) {
        StringBuilder all = new StringBuilder();
        for (int what = 0; what < 7; what++) {
            all.append(jarAt(x, jar, what)).append(' ');
        }
        all.append(':');
        for (int k = 0; x.drop(jar, k) >= 0; k++) {
            all.append(x.drop(jar, k));
        }
        return all.toString();
    }

    /** All that can be looked at without a change but the ROW and THE TEXT. */
    static String stateText(JarsThatLeak x) {
        StringBuilder all = new StringBuilder();
        for (int jar = 0; jar < x.count(0); jar++) {
            all.append(jarText(x, jar)).append(jarAt(x, jar, 7)).append('\n');
        }
        for (int from = 0; from < 6; from++) {
            for (int to = 0; to < 6; to++) {
                all.append(x.owes(from, to)).append(' ');
            }
        }
        for (int what : new int[] {0, 1, 2, 3, 4, 5, 8}) {
            all.append(x.count(what)).append(' ');
        }
        return all.toString();
    }

    static void finish() {
        System.out.println(looked + " answers looked at, " + wrong + " wrong");
        if (wrong != 0 || looked == 0) {
            System.exit(1);
        }
    }
}
