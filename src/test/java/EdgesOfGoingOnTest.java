/** Promises 18 to 22, at their edges: how it goes on. */
public final class EdgesOfGoingOnTest {
    public static void main(String[] args) {
        promise18();
        promise18Row();
        promise19();
        promise20();
        promise21();
        promise22();
        Edges.finish();
    }

    private static void rest(String town, int want, int... row) {
        JarsThatLeak x = Check.with(town);
        Check.due("rest() of " + town, x.rest(), want);
        Check.row(x, "rest() of " + town, row);
    }

    private static void promise18() {
        Edges.promise(18);
        Edges.edge("After how many BELLS nothing more goes out of any JAR", () -> {
            rest("", 0, 0, -1);
            rest("9/0,9,0,0", 0, 0, -1);
            rest("9/9,0,0,0", 0, 0, -1);
            rest("9/1,1,0,0", 1, 1, 0);
            rest("9/9,9,0,0", 1, 9, 0);
            rest("60/60,1,0,0", 60, 60, 0);
            rest("60/60,9,0,0", 7, 60, 0);
            rest("9/9,1,0,0;9/9,3,0,0", 9, 18, 0);
            rest("9/9,0,0,0;9/3,1,0,1>0", 3, 3, 1);
            Check.due("more than 200", Check.losing(240).rest(), 240);
        });
        Edges.edge("(WAX gone by, too): how many;", () -> {
            JarsThatLeak x = Check.with("9/2,1,0,0;9/0,1,0,0;9/9,0,0,0");
            x.wax(0, 99);
            Check.due("what is stopped goes out later", x.rest(), 101);
            Check.row(x, "what is stopped", 2, 0);
            x.undo();
            x.bells(2);
            x.wax(1, 99);
            Check.due("wax on an empty one keeps nothing", x.rest(), 0);
            x.undo();
            x.wax(2, 99);
            Check.due("nor on one without a hole", x.rest(), 0);
        });
        Edges.edge("After how many BELLS nothing more goes out of any JAR (WAX gone by, too): how many;", () -> {
            Twins.idleButRow("rest()", Twins::rich, x -> x.rest(), 15);
            Twins.idleButRow("rest() of a new object", JarsThatLeak::new, x -> x.rest(), 0);
        });
    }

    private static void promise18Row() {
        Edges.edge("the ROW: LOST till then,", () -> {
            JarsThatLeak x = Check.with("9/9,1,0,0;9/9,0,0,0");
            x.rest();
            Check.row(x, "from the beginning", 9, 0);
            x.bells(4);
            x.rest();
            Check.row(x, "from now on", 5, 0);
            x.bells(200);
            x.rest();
            Check.row(x, "at rest", 0, -1);
        });
        Edges.edge("the JAR that was wet last (of those that were wet at all, now or later, and are empty then; of equal ones the first; NONE).", () -> {
            rest("9/3,1,0,0;9/3,1,0,0", 3, 6, 0);
            rest("9/2,1,0,0;9/3,1,0,0", 3, 5, 1);
            rest("9/1,1,0,0;9/2,1,0,0", 2, 3, 1);
            rest("9/3,1,0,0;9/2,1,0,0", 3, 5, 0);
            rest("9/0,1,0,0;9/1,1,0,0", 1, 1, 1);
            rest("9/0,1,0,0;9/1,1,0,1>0", 2, 1, 0);
            rest("9/0,0,0,0;9/1,1,0,1>0", 1, 0, 1);
            rest("9/1,0,0,0", 0, 0, -1);
            rest("9/0,1,0,0;9/0,1,0,1>0", 0, 0, -1);
        });
    }

    private static void promise19() {
        Edges.promise(19);
        Edges.edge("After how many BELLS (0 .. 200) a JAR is empty first.", () -> {
            Check.due("now", Check.with("9/0,1,0,0").dry(0), 0);
            Check.due("now, though it gets wet", Check.with("9/0,1,0,0;9/9,1,0,1>0").dry(0), 0);
            Check.due("after 1", Check.with("9/9,9,0,0").dry(0), 1);
            Check.due("after 1, though it gets wet again", Check.with("9/1,1,0,0;9/0,1,0,1>0;9/1,1,0,2>1").dry(0), 1);
            Check.due("after 200", Check.losing(200).dry(0), 200);
            Twins.idle("of a jar with wax", Twins::rich, x -> x.dry(2), 7);
            Twins.idle("of a full one", Twins::rich, x -> x.dry(0), 15);
        });
        Edges.edge("-2: not within 200;", () -> {
            Check.due("after 201", Check.losing(201).dry(0), -2);
            Check.due("never", Check.with("9/1,0,0,0").dry(0), -2);
            Twins.idle("one without a hole", EdgesOfGoingOnTest::richWithoutAHole, x -> x.dry(0), -2);
        });
        Edges.edge("NONE: none such.", () -> {
            Twins.refused("jar", Twins.NO_JARS, (x, jar) -> x.dry(jar));
        });
    }

    private static JarsThatLeak richWithoutAHole() {
        JarsThatLeak x = Twins.rich();
        x.hole(0, 0);
        return x;
    }

    private static void promise20() {
        Edges.promise(20);
        Edges.edge("LEVEL of a JAR n BELLS (0 .. 200) on.", () -> {
            JarsThatLeak x = Check.losing(200);
            int[][] want = {{0, 60}, {1, 60}, {140, 60}, {141, 59}, {199, 1}, {200, 0}};
            for (int[] w : want) {
                Check.due("later(0, " + w[0] + ")", x.later(0, w[0]), w[1]);
            }
            Twins.idle("0 on", Twins::rich, y -> y.later(2, 0), 6);
            Twins.idle("as long as there is wax", Twins::rich, y -> y.later(2, 5), 6);
            Twins.idle("one more", Twins::rich, y -> y.later(2, 6), 3);
            Twins.idle("200 on", Twins::rich, y -> y.later(2, 200), 0);
        });
        Edges.edge("NONE: others.", () -> {
            Twins.refused("jar", Twins.NO_JARS, (x, jar) -> x.later(jar, 0));
            Twins.refused("n", Twins.NO_BELLS, (x, n) -> x.later(0, n));
        });
    }

    private static void flood(JarsThatLeak x, int jar, int n, int want, int first) {
        Check.due("flood(" + jar + ", " + n + ")", x.flood(jar, n), want);
        Check.row(x, "flood(" + jar + ", " + n + ")", first);
    }

    private static void promise21() {
        Edges.promise(21);
        Edges.edge("The most that a JAR has in the next n BELLS (0 .. 200; now counts too): it;", () -> {
            JarsThatLeak x = Check.with("9/4,1,0,0;9/9,2,0,1>0;9/9,1,0,9");
            flood(x, 0, 0, 4, 0);
            flood(x, 0, 1, 5, 1);
            flood(x, 2, 200, 9, 0);
            x.wax(1, 99);
            flood(x, 0, 99, 4, 0);
            flood(x, 0, 100, 4, 0);
            flood(x, 0, 102, 4, 0);
            flood(x, 0, 103, 5, 103);
            flood(x, 0, 200, 5, 103);
            Twins.idleButRow("flood(1, 200)", Twins::rich, y -> y.flood(1, 200), 4);
            Twins.idleButRow("flood(0, 0)", Twins::rich, y -> y.flood(0, 0), 9);
        });
        Edges.edge("the ROW: after how many BELLS first.", () -> {
            JarsThatLeak x = Check.with("9/1,1,0,0;9/2,2,0,1>0;9/0,3,0,2>1;9/9,3,0,3>2");
            // jar 0 has 1, 2, 1, 2, 3, 4, 5, 5, 4, .., as jar 1 has 2, 0, 3, 4, 5, 3, 1, 0
            flood(x, 0, 1, 2, 1);
            flood(x, 0, 2, 2, 1);
            flood(x, 0, 3, 2, 1);
            flood(x, 0, 4, 3, 4);
            flood(x, 0, 200, 5, 6);
            Check.due("without any", Check.with("9/0,1,0,0").flood(0, 200), 0);
            flood(Check.with("9/0,1,0,0"), 0, 200, 0, 0);
        });
        Edges.edge("NONE: others.", () -> {
            Twins.refused("jar", Twins.NO_JARS, (x, jar) -> x.flood(jar, 0));
            Twins.refused("n", Twins.NO_BELLS, (x, n) -> x.flood(0, n));
        });
    }

    private static void promise22() {
        Edges.promise(22);
        Edges.edge("JARS (bits) whose DROPS can come into a JAR by going down (itself, too).", () -> {
            JarsThatLeak x = Check.with("1/0,1,0,0;1/0,1,0,2>0;1/0,1,0,3>1;1/0,1,0,4>2;1/0,1,0,5>3;1/0,1,0,6>4");
            Check.town(x, "1/0,1,0,7>5;1/0,1,0,8>6;1/1,1,0,9>7");
            Check.due("all nine", x.above(0), 511);
            Check.due("the highest", x.above(8), 256);
            Check.due("the one below it", x.above(7), 384);
            x.below(4, -1);
            Check.due("those from where one goes to the sand", x.above(0), 15);
            Check.due("itself alone", Check.with("9/9,1,0,0;9/9,1,0,1").above(0), 1);
            Twins.idle("above(0)", Twins::rich, y -> y.above(0), 7);
            Twins.idle("above(2)", Twins::rich, y -> y.above(2), 4);
        });
        Edges.edge("NONE: none such.", () -> {
            Twins.refused("jar", Twins.NO_JARS, (x, jar) -> x.above(jar));
        });
    }
}
