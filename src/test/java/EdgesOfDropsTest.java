/** Promises 32 to 38, at their edges: whose drops. */
public final class EdgesOfDropsTest {
    private static final int LEAST_INT = Integer.MIN_VALUE;
    private static final int MOST_INT = Integer.MAX_VALUE;

    public static void main(String[] args) {
        promise32();
        promise33();
        promise34();
        promise35();
        promise36();
        promise37();
        promise38();
        Edges.finish();
    }

    /** A jar that holds 60, with drops of 0, 1, .. 6, 0, 1, .., the oldest of 0: so many (a row of them goes round inside). */
    private static JarsThatLeak mixed(int drops) {
        JarsThatLeak x = Check.with("60/45,9,0,0");
        x.bells(5);
        for (int i = 0; i < drops; i++) {
            x.spring(0, i % 7, 1);
        }
        return x;
    }

    private static void promise32() {
        Edges.promise(32);
        Edges.edge("Of a JAR how many DROPS are of an ORIGIN.", () -> {
            JarsThatLeak full = mixed(60);
            int[] want = {9, 9, 9, 9, 8, 8, 8};
            for (int origin = 0; origin < 7; origin++) {
                Check.due("of a full one, of " + origin, full.share(0, origin), want[origin]);
                Check.due("of an empty one, of " + origin, mixed(0).share(0, origin), 0);
            }
            Check.due("all", Check.with("60/60,1,5,0").share(0, 5), 60);
            Twins.idle("share(0, 6)", Twins::rich, x -> x.share(0, 6), 2);
        });
        Edges.edge("NONE: none such.", () -> {
            Twins.refused("jar", Twins.NO_JARS, (x, jar) -> x.share(jar, 0));
            Twins.refused("origin", Twins.NO_ORIGINS, (x, origin) -> x.share(0, origin));
        });
    }

    private static void cup(JarsThatLeak x, int n, int want, int... row) {
        Check.due("cup(0, " + n + ")", x.cup(0, n), want);
        Check.row(x, "cup(0, " + n + ")", row);
    }

    private static void promise33() {
        Edges.promise(33);
        Edges.edge("A cup of n DROPS (0 .. 60; as many as there are) of a JAR, the oldest: how many;", () -> {
            cup(mixed(60), 60, 60, 9, 9, 9, 9, 8, 8, 8);
            cup(mixed(60), 59, 59, 9, 9, 9, 8, 8, 8, 8);
            cup(mixed(60), 1, 1, 1, 0, 0, 0, 0, 0, 0);
            cup(mixed(60), 0, 0, 0, 0, 0, 0, 0, 0, 0);
            cup(mixed(5), 5, 5, 1, 1, 1, 1, 1, 0, 0);
            cup(mixed(5), 6, 5, 1, 1, 1, 1, 1, 0, 0);
            cup(mixed(5), 60, 5, 1, 1, 1, 1, 1, 0, 0);
            cup(mixed(0), 60, 0, 0, 0, 0, 0, 0, 0, 0);
        });
        Edges.edge("the ROW: of ORIGINS 0 .. 6 how many each.", () -> {
            JarsThatLeak x = Twins.rich();
            cup(x, 7, 7, 7, 0, 0, 0, 0, 0, 0);
            cup(x, 8, 8, 7, 0, 0, 0, 0, 0, 1);
            cup(x, 9, 9, 7, 0, 0, 0, 0, 0, 2);
        });
        Edges.edge("Nothing changes.", () -> {
            Twins.idleButRow("cup(0, 60)", Twins::rich, x -> x.cup(0, 60), 9);
            Twins.idleButRow("cup(1, 60)", Twins::rich, x -> x.cup(1, 60), 0);
        });
        Edges.edge("NONE: others.", () -> {
            Twins.refused("jar", Twins.NO_JARS, (x, jar) -> x.cup(jar, 0));
            Twins.refused("n", Twins.NO_LEVELS, (x, n) -> x.cup(0, n));
        });
    }

    private static void spread(String town, int origin, int want, int... row) {
        JarsThatLeak x = Check.with(town);
        x.tax(0);
        Check.due("spread(" + origin + ") of " + town, x.spread(origin), want);
        Check.row(x, "spread(" + origin + ") of " + town, row);
    }

    private static void promise34() {
        Edges.promise(34);
        Edges.edge("DROPS of an ORIGIN in all JARS;", () -> {
            spread("9/9,1,0,0", 0, 9, 0, 9, 1);
            spread("60/60,1,5,0;60/60,1,5,0;60/60,1,5,0;9/9,1,4,0", 5, 180, 0, 60, 7);
            Twins.idleButRow("spread(0)", Twins::rich, x -> x.spread(0), 7);
            Twins.idleButRow("spread(6)", Twins::rich, x -> x.spread(6), 2);
        });
        Edges.edge("the ROW: the JAR with the most (of equal ones the first), how many, JARS (bits) that have any.", () -> {
            spread("9/3,1,0,0;9/3,1,0,0", 0, 6, 0, 3, 3);
            spread("9/3,1,0,0;9/4,1,0,0;9/4,1,0,0", 0, 11, 1, 4, 7);
            spread("9/0,1,0,0;9/9,1,1,0;9/1,1,0,0", 0, 1, 2, 1, 4);
            JarsThatLeak nine = Check.with("1/0,1,0,0;1/0,1,0,0;1/0,1,0,0;1/0,1,0,0;1/0,1,0,0;1/0,1,0,0;1/0,1,0,0");
            Check.town(nine, "1/0,1,0,0;1/1,1,3,0");
            Check.due("of the ninth", nine.spread(3), 1);
            Check.row(nine, "of the ninth", 8, 1, 256);
        });
        Edges.edge("0: none (the ROW is empty);", () -> {
            JarsThatLeak x = Twins.rich();
            Check.due("spread(4)", x.spread(4), 0);
            Check.row(x, "spread(4)");
            Twins.idleButRow("it changes nothing else", Twins::rich, y -> y.spread(4), 0);
            JarsThatLeak none = new JarsThatLeak();
            none.rest();
            Check.due("without jars", none.spread(6), 0);
            Check.row(none, "without jars");
        });
        Edges.edge("NONE: none such.", () -> {
            Twins.refused("origin", Twins.NO_ORIGINS, (x, origin) -> x.spread(origin));
        });
    }

    /** Into jar 0 comes a drop of 6 after so many bells (181 .. 239) first. */
    private static JarsThatLeak coming(int bells) {
        JarsThatLeak x = Check.with("60/9,1,0,0;60/60,1,1,1>0;60/60,1,1,2>1;60/60,1,1,3>2;60/" + (bells - 181) + ",1,1,4>3");
        x.spring(4, 6, 1);
        return x;
    }

    private static void promise35() {
        Edges.promise(35);
        Edges.edge("The first BELL (0 .. 200 on) after which a JAR has a DROP of an ORIGIN.", () -> {
            Check.due("now", Check.with("9/1,1,0,0").comes(0, 0), 0);
            Check.due("the youngest of many", mixed(60).comes(0, 6), 0);
            Check.due("after 1", Check.with("9/0,1,0,0;9/1,1,5,1>0").comes(0, 5), 1);
            Check.due("into one that is full, but lets one go", Check.with("9/9,1,0,0;9/1,1,5,1>0").comes(0, 5), 1);
            Check.due("after 199", coming(199).comes(0, 6), 199);
            Check.due("after 200", coming(200).comes(0, 6), 200);
            JarsThatLeak wax = Check.with("9/0,1,0,0;9/1,1,5,1>0");
            wax.wax(1, 99);
            Check.due("when the wax has gone by", wax.comes(0, 5), 100);
            Twins.idle("comes(0, 2)", Twins::rich, x -> x.comes(0, 2), 7);
        });
        Edges.edge("-2: none;", () -> {
            Check.due("but after 201", coming(201).comes(0, 6), -2);
            Check.due("never up", Check.with("9/1,1,0,0;9/0,1,1,1>0").comes(1, 0), -2);
            Check.due("never out of one without a hole", Check.with("9/0,1,0,0;9/9,0,5,1>0").comes(0, 5), -2);
            Check.due("never into one that is full and has none", Check.with("9/9,0,0,0;9/9,1,5,1>0").comes(0, 5), -2);
            Check.due("there is none", Check.with("9/9,1,0,0").comes(0, 6), -2);
            Twins.idle("comes(2, 6)", Twins::rich, x -> x.comes(2, 6), -2);
        });
        Edges.edge("NONE: none such.", () -> {
            Twins.refused("jar", Twins.NO_JARS, (x, jar) -> x.comes(jar, 0));
            Twins.refused("origin", Twins.NO_ORIGINS, (x, origin) -> x.comes(0, origin));
        });
    }

    private static void marks(String town, int jar, int want, int... row) {
        JarsThatLeak x = Check.with(town);
        x.tax(0);
        Check.due("marks(" + jar + ") of " + town, x.marks(jar), want);
        Check.row(x, "marks(" + jar + ") of " + town, row);
    }

    private static void promise36() {
        Edges.promise(36);
        Edges.edge("Of the DROPS that are in a JAR now how many are LOST when all is at rest;", () -> {
            marks("9/0,1,0,0", 0, 0, 0);
            marks("9/9,0,0,0", 0, 0, 9);
            marks("9/9,1,0,0", 0, 9, 0);
            marks("60/60,0,0,0;60/60,9,0,1>0", 1, 60, 0, 0);
            marks("60/59,0,0,0;60/60,9,0,1>0", 1, 59, 1, 0);
            marks("60/0,0,0,0;60/60,9,0,1>0", 1, 0, 60, 0);
            Check.due("after more than 200 bells", coming(239).marks(4), 59);
            Twins.idleButRow("with wax", Twins::rich, x -> x.marks(2), 6);
            Twins.idleButRow("of a full one", Twins::rich, x -> x.marks(0), 9);
            Twins.idleButRow("of an empty one", Twins::rich, x -> x.marks(1), 0);
            JarsThatLeak later = Check.with("9/9,1,1,0");
            later.bells(4);
            Check.due("those LOST ahead count no more", later.marks(0), 5);
        });
        Edges.edge("the ROW: of each JAR how many of them it has then.", () -> {
            marks("2/0,0,0,0;9/5,1,0,1>0", 1, 3, 2, 0);
            marks("9/0,0,0,0;9/5,1,0,1>0;9/5,0,0,1", 1, 0, 5, 0, 0);
            marks("9/0,0,0,0;9/5,1,0,1>0;9/5,0,0,1", 2, 0, 0, 0, 5);
            JarsThatLeak nine = Check.with("1/0,0,0,0;1/0,1,0,2>0;1/0,1,0,3>1;1/0,1,0,4>2;1/0,1,0,5>3;1/0,1,0,6>4");
            Check.town(nine, "1/0,1,0,7>5;1/0,1,0,8>6;1/1,1,0,9>7");
            Check.due("down through nine", nine.marks(8), 0);
            Check.row(nine, "down through nine", 1, 0, 0, 0, 0, 0, 0, 0, 0);
        });
        Edges.edge("NONE: none such.", () -> {
            Twins.refused("jar", Twins.NO_JARS, (x, jar) -> x.marks(jar));
        });
    }

    private static void tax(JarsThatLeak x, int n, int want, int... row) {
        Check.due("tax(" + n + ")", x.tax(n), want);
        Check.row(x, "tax(" + n + ")", row);
    }

    private static void promise37() {
        Edges.promise(37);
        Edges.edge("What is LOST in the next n BELLS (0 .. 200): how many;", () -> {
            tax(coming(239), 0, 0, 0, 0, 0, 0, 0, 0, 0);
            tax(coming(239), 199, 199, 9, 190, 0, 0, 0, 0, 0);
            tax(coming(239), 200, 200, 9, 191, 0, 0, 0, 0, 0);
            tax(new JarsThatLeak(), 200, 0, 0, 0, 0, 0, 0, 0, 0);
            tax(Check.with("9/9,0,0,0"), 200, 0, 0, 0, 0, 0, 0, 0, 0);
            Twins.idleButRow("tax(200)", Twins::rich, x -> x.tax(200), 15);
            Twins.idleButRow("tax(0)", Twins::rich, x -> x.tax(0), 0);
        });
        Edges.edge("the ROW: of ORIGINS 0 .. 6 how many each.", () -> {
            tax(mixed(60), 1, 9, 2, 2, 1, 1, 1, 1, 1);
            tax(mixed(60), 7, 60, 9, 9, 9, 9, 8, 8, 8);
            tax(mixed(60), 200, 60, 9, 9, 9, 9, 8, 8, 8);
            tax(Twins.rich(), 200, 15, 7, 0, 4, 0, 0, 2, 2);
        });
        Edges.edge("NONE: another n.", () -> {
            Twins.refused("n", Twins.NO_BELLS, (x, n) -> x.tax(n));
        });
    }

    private static void promise38() {
        Edges.promise(38);
        Edges.edge("ORIGIN of DROP k of a JAR (0: the oldest).", () -> {
            JarsThatLeak x = mixed(60);
            for (int k = 0; k < 60; k++) {
                Check.due("drop(0, " + k + ")", x.drop(0, k), k % 7);
            }
            Twins.idle("the youngest", Twins::rich, y -> y.drop(0, 8), 6);
            Twins.idle("the oldest", Twins::rich, y -> y.drop(2, 0), 2);
        });
        Edges.edge("NONE: none such.", () -> {
            Twins.refused("jar", Twins.NO_JARS, (x, jar) -> x.drop(jar, 0));
            Twins.refused("k", new int[] {-1, 9, 60, LEAST_INT, MOST_INT}, (x, k) -> x.drop(0, k));
            Twins.idle("of an empty one", Twins::rich, x -> x.drop(1, 0), -1);
            Check.due("behind the last of 60", mixed(60).drop(0, 60), -1);
        });
    }
}
