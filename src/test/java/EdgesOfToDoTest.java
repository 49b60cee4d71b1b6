/** Promises 23 to 31, at their edges: what has to be done. */
public final class EdgesOfToDoTest {
    public static void main(String[] args) {
        promise23();
        promise23Wrong();
        promise24();
        promise25();
        promise26();
        promise27();
        promise27Wrong();
        promise28();
        promise29();
        promise30();
        promise31();
        promise31Rows();
        Edges.finish();
    }

    private static void least(JarsThatLeak x, int into, int jar, int v, int n, int want, int... row) {
        String name = "least(" + into + ", " + jar + ", " + v + ", " + n + ")";
        Check.due(name, x.least(into, jar, v, n), want);
        Check.row(x, name, row);
    }

    private static void promise23() {
        Edges.promise(23);
        Edges.edge("The fewest DROPS (0 ..) from the spring into one JAR now", () -> {
            JarsThatLeak x = Check.with("9/4,1,0,0;9/3,1,0,1>0");
            least(x, 0, 0, 4, 0, 0, 0);
            least(x, 0, 0, 5, 0, 1, 0);
            least(x, 1, 0, 3, 4, 0, 4);
            least(x, 1, 0, 4, 4, 1, 4);
            Twins.idleButRow("0", Twins::rich, y -> y.least(0, 0, 9, 0), 0);
            Twins.idleButRow("some", Twins::rich, y -> y.least(1, 1, 9, 0), 9);
        });
        Edges.edge("(as many as it still HOLDS at most)", () -> {
            least(Check.with("60/0,0,0,0"), 0, 0, 60, 0, 60, 0);
            least(Check.with("60/1,0,0,0"), 0, 0, 60, 0, 59, 0);
            least(Check.with("60/60,0,0,0"), 0, 0, 60, 0, 0, 0);
            least(Check.with("60/60,0,0,0"), 0, 0, 60, 200, 0, 0);
            Check.due("of a full one nothing more", Check.with("9/9,1,0,0").least(0, 0, 9, 1), -2);
        });
        Edges.edge("with which another one (or the same) has v (0 .. 60) or more", () -> {
            JarsThatLeak x = Check.with("60/50,1,0,0;20/0,9,0,1>0");
            least(x, 1, 0, 0, 200, 0, 50);
            least(x, 0, 0, 0, 200, 0, 50);
            least(x, 1, 0, 58, 1, 9, 1);
            // jar 0 has 60 and one more flows over
            least(x, 1, 0, 60, 2, 12, 2);
            Check.due("of 10 at most what the hole lets through", x.least(1, 0, 59, 1), -2);
        });
        Edges.edge("n BELLS (0 .. 200) on: how many;", () -> {
            least(Check.losing(200), 3, 0, 1, 199, 0, 199);
            least(Check.losing(200), 3, 0, 1, 200, 1, 200);
            least(Check.losing(200), 3, 3, 60, 0, 40, 0);
            least(Check.losing(200), 3, 0, 40, 200, 40, 200);
        });
        Edges.edge("the ROW: LOST till then.", () -> {
            JarsThatLeak x = Check.with("9/9,1,0,0;9/0,9,0,1>0");
            least(x, 1, 0, 9, 1, 1, 1);
            x.bells(3);
            least(x, 1, 0, 8, 2, 4, 2);
        });
    }

    private static void promise23Wrong() {
        Edges.edge("-2: not by all it HOLDS;", () -> {
            Twins.idle("into one below", Twins::rich, x -> x.least(0, 2, 7, 0), -2);
            Twins.idle("more than it holds", Twins::rich, x -> x.least(1, 1, 10, 0), -2);
            Twins.idle("more than goes through", Twins::rich, x -> x.least(1, 0, 60, 200), -2);
            Check.due("40 are all that it holds more", Check.losing(200).least(3, 0, 40, 200), 40);
            Check.due("41 would do", Check.losing(200).least(3, 0, 41, 200), -2);
        });
        Edges.edge("NONE: others.", () -> {
            Twins.refused("into", Twins.NO_JARS, (x, jar) -> x.least(jar, 0, 0, 0));
            Twins.refused("of", Twins.NO_JARS, (x, jar) -> x.least(0, jar, 0, 0));
            Twins.refused("v", Twins.NO_LEVELS, (x, v) -> x.least(0, 0, v, 0));
            Twins.refused("n", Twins.NO_BELLS, (x, n) -> x.least(0, 0, 0, n));
        });
    }

    private static void stops(JarsThatLeak x, int jar, int v, int n, int want, int... row) {
        String name = "stops(" + jar + ", " + v + ", " + n + ")";
        Check.due(name, x.stops(jar, v, n), want);
        Check.row(x, name, row);
    }

    private static void promise24() {
        Edges.promise(24);
        Edges.edge("The fewest HOLES stopped by WAX (for n BELLS or more, whatever THE LAW is),", () -> {
            JarsThatLeak x = Check.losing(200);
            Check.law(x, "0");
            stops(x, 0, 1, 199, 0, 0, 1);
            stops(x, 0, 1, 200, 1, 1, 60);
            JarsThatLeak wax = Check.with("60/60,1,0,0");
            wax.wax(0, 99);
            stops(wax, 0, 60, 99, 0, 0, 60);
            stops(wax, 0, 60, 100, 1, 1, 60);
            stops(wax, 0, 59, 100, 0, 0, 59);
            Twins.idleButRow("none", Twins::rich, y -> y.stops(0, 9, 0), 0);
            Twins.idleButRow("one", Twins::waxed, y -> y.stops(0, 9, 200), 1);
        });
        Edges.edge("so that a JAR has v or more n BELLS on: how many;", () -> {
            JarsThatLeak x = Check.with("9/9,1,0,0;9/0,1,0,0");
            stops(x, 0, 0, 200, 0, 0, 0);
            stops(x, 0, 9, 0, 0, 0, 9);
            stops(x, 0, 8, 1, 0, 0, 8);
            stops(x, 0, 9, 1, 1, 1, 9);
            stops(x, 1, 0, 0, 0, 0, 0);
            stops(Check.with("60/60,1,0,0"), 0, 60, 200, 1, 1, 60);
        });
        Edges.edge("the ROW: JARS (bits; of as few the least), its LEVEL then.", () -> {
            JarsThatLeak x = Check.with("1/1,1,0,0;1/1,1,0,0;1/1,1,0,0;1/1,1,0,0;1/1,1,0,0;1/1,1,0,0;1/1,1,0,0");
            Check.town(x, "1/1,1,0,0;1/1,1,0,0");
            stops(x, 8, 1, 1, 1, 256, 1);
            stops(x, 0, 1, 1, 1, 1, 1);
            stops(x, 8, 0, 1, 0, 0, 0);
        });
        Edges.edge("-2: none do;", () -> {
            Twins.idle("more than there is", Twins::rich, x -> x.stops(2, 7, 1), -2);
            Twins.idle("more than there is now", Twins::rich, x -> x.stops(2, 7, 0), -2);
            Twins.idle("more than it holds", Twins::rich, x -> x.stops(0, 10, 200), -2);
            Check.due("one without a hole", Check.with("9/3,0,0,0").stops(0, 4, 200), -2);
        });
        Edges.edge("NONE: others.", () -> {
            Twins.refused("jar", Twins.NO_JARS, (x, jar) -> x.stops(jar, 0, 0));
            Twins.refused("v", Twins.NO_LEVELS, (x, v) -> x.stops(0, v, 0));
            Twins.refused("n", Twins.NO_BELLS, (x, n) -> x.stops(0, 0, n));
        });
    }

    private static void saves(JarsThatLeak x, int k, int n, int want, int bits) {
        Check.due("saves(" + k + ", " + n + ")", x.saves(k, n), want);
        Check.row(x, "saves(" + k + ", " + n + ")", bits);
    }

    private static void promise25() {
        Edges.promise(25);
        Edges.edge("The same that as little as can be is LOST in n BELLS (0 .. 200), k HOLES (0 .. 9) at most stopped: how much;", () -> {
            JarsThatLeak nine = Check.with("1/1,1,0,0;1/1,1,0,0;1/1,1,0,0;1/1,1,0,0;1/1,1,0,0;1/1,1,0,0;1/1,1,0,0");
            Check.town(nine, "1/1,1,0,0;1/1,1,0,0");
            Check.law(nine, "0");
            saves(nine, 0, 1, 9, 0);
            saves(nine, 1, 1, 8, 1);
            saves(nine, 8, 1, 1, 255);
            saves(nine, 9, 1, 0, 511);
            saves(nine, 9, 200, 0, 511);
            saves(nine, 9, 0, 0, 0);
            saves(Check.losing(240), 0, 200, 200, 0);
            saves(new JarsThatLeak(), 9, 200, 0, 0);
            Twins.idleButRow("saves(9, 200)", Twins::waxed, x -> x.saves(9, 200), 0);
            Twins.idleButRow("saves(0, 0)", Twins::waxed, x -> x.saves(0, 0), 0);
        });
        Edges.edge("the ROW: JARS (bits; of as little the fewest, then the least).", () -> {
            JarsThatLeak x = Check.with("9/9,2,0,0;9/9,1,0,0;9/9,1,0,0;9/9,0,0,0;9/0,9,0,0");
            saves(x, 1, 1, 2, 1);
            saves(x, 2, 1, 1, 3);
            saves(x, 3, 1, 0, 7);
            saves(x, 9, 1, 0, 7);
            x.wax(0, 1);
            saves(x, 1, 1, 1, 2);
            saves(x, 9, 1, 0, 6);
            saves(x, 9, 2, 0, 7);
        });
        Edges.edge("NONE: others.", () -> {
            Twins.refused("k", Twins.NO_HOLES, (x, k) -> x.saves(k, 1));
            Twins.refused("n", Twins.NO_BELLS, (x, n) -> x.saves(1, n));
        });
    }

    private static void place(JarsThatLeak x, int jar, int n, int want, int below) {
        Check.due("place(" + jar + ", " + n + ")", x.place(jar, n), want);
        Check.row(x, "place(" + jar + ", " + n + ")", below);
    }

    private static void promise26() {
        Edges.promise(26);
        Edges.edge("The JAR BELOW (or none) for a JAR with which, all else as it is, the least is LOST in n BELLS (0 .. 200): how much;", () -> {
            JarsThatLeak x = Check.with("60/0,0,0,0;3/0,0,0,1;9/9,1,0,2;9/9,0,0,2");
            place(x, 2, 0, 0, -1);
            place(x, 2, 1, 0, 0);
            place(x, 2, 200, 0, 0);
            x.below(2, 1);
            place(x, 2, 4, 0, 0);
            Check.due("as it is", x.tax(4), 1);
            Check.due("it stays as it is", x.jar(2, 5), 1);
            place(Check.with("9/9,1,0,0"), 0, 200, 9, -1);
            place(Check.losing(240), 0, 200, 200, -1);
            Twins.idleButRow("place(2, 200)", Twins::rich, y -> y.place(2, 200), 15);
            Twins.idleButRow("place(0, 0)", Twins::rich, y -> y.place(0, 0), 0);
        });
        Edges.edge("the ROW: that JAR (of as little none: NONE, then the first).", () -> {
            JarsThatLeak x = Check.with("60/0,0,0,0;60/0,0,0,0;9/9,1,0,0;9/9,1,0,1>1");
            place(x, 3, 1, 1, 0);
            place(x, 2, 1, 1, -1);
            x.hole(3, 0);
            place(x, 3, 1, 1, -1);
            place(Check.with("9/9,0,0,0;9/1,1,0,0;9/9,0,0,1;9/9,1,0,5"), 3, 1, 1, 1);
        });
        Edges.edge("NONE: others.", () -> {
            Twins.refused("jar", Twins.NO_JARS, (x, jar) -> x.place(jar, 0));
            Twins.refused("n", Twins.NO_BELLS, (x, n) -> x.place(0, n));
        });
    }

    private static void payoff(String town, int want, int... row) {
        JarsThatLeak x = Check.with(town);
        Check.due("payoff() of " + town, x.payoff(), want);
        Check.row(x, "payoff() of " + town, row);
    }

    private static void promise27() {
        Edges.promise(27);
        Edges.edge("The fewest POURINGS that pay all DEBTS now,", () -> {
            payoff("9/9,1,0,0;9/0,1,1,0", 0);
            payoff("9/9,1,0,0;9/0,1,1,0;d0>1*1", 1, 101);
            payoff("9/9,1,0,0;9/0,1,1,0;d0>1*9", 1, 109);
            payoff("9/5,1,0,0;9/9,1,0,0;9/0,1,1,0;d0>1*9", 1, 1209);
            payoff("9/9,1,0,0;9/0,1,1,0;9/0,1,2,0;d0>1*5;d0>2*4", 2, 105, 204);
            payoff("9/5,1,0,0;9/0,1,1,0;9/0,1,2,0;d0>1*5;d1>2*5", 2, 105, 1205);
            Check.due("of a new object", new JarsThatLeak().payoff(), 0);
            // 16 times 60 and once 39, there and back
            payoff("60/60,1,0,0;60/0,1,5,0;d0>5*999;d5>0*999", 34, 160, 1060, 160, 1060, 160, 1060, 160, 1060, 160, 1060);
            Twins.idleButRow("payoff()", EdgesOfToDoTest::payable, x -> x.payoff(), 1);
            JarsThatLeak again = payable();
            for (int i = 0; i < 3; i++) {
                Check.due("as often as it is asked", again.payoff(), 1);
                Check.row(again, "as often as it is asked", 105);
            }
            again.pour(0, 1, 2);
            Check.due("from then on", again.payoff(), 1);
            Check.row(again, "from then on", 103);
            again.pour(0, 1, 3);
            Check.due("when all is paid", again.payoff(), 0);
            Check.row(again, "when all is paid");
            JarsThatLeak many = manyStates();
            many.payoff();
            Check.town(many, "d0>1*1;d1>0*0");
            Check.due("when there were too many STATES ahead", many.payoff(), 1);
            Check.row(many, "when there were too many STATES ahead", 401);
        });
        Edges.edge("each from a JAR of who owes to one of whom it owes,", () -> {
            payoff("9/9,1,0,0;9/9,1,2,0;9/0,1,1,0;9/0,1,2,0;d0>1*3", 1, 203);
            payoff("9/1,1,0,0;9/9,1,0,0;9/0,1,1,0;d0>1*5", 1, 1205);
            Check.due("who owes has no jar", Check.with("9/0,1,1,0;d0>1*5").payoff(), -2);
            Check.due("whom it owes has none", Check.with("9/9,1,0,0;d0>1*5").payoff(), -2);
        });
        Edges.edge("of as many DROPS as can be (the least of LEVEL, room there, the DEBT; 1 at least): how many;", () -> {
            payoff("9/2,1,0,0;9/9,1,0,0;9/4,1,1,0;9/4,1,1,0;d0>1*7", 2, 202, 1305);
            payoff("9/9,1,0,0;9/4,1,1,0;9/4,1,1,0;d0>1*7", 2, 105, 202);
            payoff("60/60,1,0,0;60/0,1,1,0;d0>1*60", 1, 160);
            Check.due("an empty one", Check.with("9/0,1,0,0;9/0,1,1,0;d0>1*1").payoff(), -2);
            Check.due("a full one", Check.with("9/9,1,0,0;9/9,1,1,0;d0>1*1").payoff(), -2);
        });
        Edges.edge("the ROW: they (10 at most):", () -> {
            payoff("9/9,1,0,0;9/0,1,1,0;d0>1*45;d1>0*45", 10, 109, 1009, 109, 1009, 109, 1009, 109, 1009, 109, 1009);
            payoff("9/9,1,0,0;9/0,1,1,0;d0>1*54;d1>0*45", 11, 109, 1009, 109, 1009, 109, 1009, 109, 1009, 109, 1009);
            payoff("9/9,1,0,0;9/0,1,1,0;d0>1*41;d1>0*36", 9, 109, 1009, 109, 1009, 109, 1009, 109, 1009, 105);
        });
        Edges.edge("of as few the least row.", () -> {
            payoff("9/9,1,0,0;9/9,1,0,0;9/0,1,1,0;9/0,1,1,0;d0>1*9", 1, 209);
            payoff("9/9,1,1,0;9/9,1,1,0;9/0,1,0,0;9/0,1,0,0;d1>0*18", 2, 209, 1309);
        });
    }

    private static JarsThatLeak payable() {
        JarsThatLeak x = Check.with("9/9,1,0,1;9/0,2,1,3>0;20/4,3,2,5>1;d0>1*5");
        x.keep(0);
        x.spring(2, 6, 1);
        x.keep(1);
        x.seen(0, 1, 8);
        x.cup(0, 9);
        Check.type(x, "9/1,1,1,1");
        return x;
    }

    private static void promise27Wrong() {
        Edges.edge("-2: they can't be paid so;", () -> {
            Twins.idle("2 owes 0 more than 0 has room", Twins::rich, x -> x.payoff(), -2);
            Check.due("one drop short", Check.with("9/8,1,0,0;9/0,1,1,0;d0>1*9").payoff(), -2);
            Check.due("one drop of room short", Check.with("9/9,1,0,0;9/1,1,1,0;d0>1*9").payoff(), -2);
            Check.due("one of two debts", Check.with("9/9,1,0,0;9/0,1,1,0;d0>1*9;d2>1*1").payoff(), -2);
            Check.due("without jars", Check.with("d2>1*1").payoff(), -2);
        });
        Edges.edge("-3: more than 3000 STATES (LEVELS and DEBTS) can come by such ones", () -> {
            Check.due("3000", Check.with("3/1,0,0,0;7/4,0,1,0;13/2,0,1,0;6/4,0,1,0;d0>1*27;d1>0*38").payoff(), -2);
            Check.due("3001", Check.with("7/7,0,1,0;8/7,0,0,0;15/12,0,1,0;13/2,0,1,0;d0>1*38;d1>0*28").payoff(), -3);
            Twins.idle("many more", EdgesOfToDoTest::manyStates, x -> x.payoff(), -3);
        });
        Edges.edge("(all are counted first).", () -> {
            JarsThatLeak x = Check.with("60/59,1,0,0;59/58,1,0,0;58/57,1,0,0;57/56,1,0,0");
            Check.town(x, "60/31,1,1,0;59/22,1,1,0;58/13,1,1,0;57/4,1,1,0;d0>1*53;d1>0*31");
            Check.due("two would do", x.judge(2, 753, 4031, 0), -2);
            Check.row(x, "two would do", 84, 0);
            Check.due("too many all the same", x.payoff(), -3);
            JarsThatLeak never = manyStates();
            Check.town(never, "d5>4*1");
            Check.due("and if they could never be paid", never.payoff(), -3);
        });
    }

    private static JarsThatLeak manyStates() {
        JarsThatLeak x = Check.with("60/59,1,0,0;59/58,1,0,0;58/57,1,0,0;57/56,1,0,0");
        Check.town(x, "60/31,1,1,0;59/22,1,1,0;58/13,1,1,0;57/4,1,1,0;d0>1*150;d1>0*140");
        x.cup(0, 5);
        return x;
    }

    private static void pays(JarsThatLeak x, int from, int to, int want, int... row) {
        Check.due("pays(" + from + ", " + to + ")", x.pays(from, to), want);
        Check.row(x, "pays(" + from + ", " + to + ")", row);
    }

    private static void promise28() {
        Edges.promise(28);
        Edges.edge("Whether an OWNER could pay all it owes another one now by pouring (as many DROPS in its JARS, as much room in "
            + "those of the other one): 1, 0;", () -> {
            pays(Check.with("9/5,1,0,0;9/4,1,1,0;d0>1*5"), 0, 1, 1, 5, 5);
            pays(Check.with("9/5,1,0,0;9/3,1,1,0;d0>1*6"), 0, 1, 0, 5, 6);
            pays(Check.with("9/6,1,0,0;9/4,1,1,0;d0>1*6"), 0, 1, 0, 6, 5);
            pays(Check.with("d0>5*0"), 0, 5, 1, 0, 0);
            pays(Check.with("d5>0*1"), 5, 0, 0, 0, 0);
            pays(Check.with("60/60,1,5,0;60/0,1,0,0;d5>0*60"), 5, 0, 1, 60, 60);
            Twins.idleButRow("pays(0, 1)", Twins::rich, x -> x.pays(0, 1), 1);
            Twins.idleButRow("pays(2, 0)", Twins::rich, x -> x.pays(2, 0), 0);
        });
        Edges.edge("the ROW: how many it has, room there is.", () -> {
            JarsThatLeak x = Check.with("9/5,1,0,0;9/4,1,1,0;60/0,1,0,0;60/60,1,1,0;9/9,1,2,0");
            pays(x, 0, 1, 1, 5, 5);
            pays(x, 1, 0, 1, 64, 64);
            pays(x, 2, 3, 1, 9, 0);
            pays(x, 3, 2, 1, 0, 0);
        });
        Edges.edge("NONE: none such,", () -> {
            Twins.refused("from", Twins.NO_OWNERS, (x, owner) -> x.pays(owner, 0));
            Twins.refused("to", Twins.NO_OWNERS, (x, owner) -> x.pays(0, owner));
        });
        Edges.edge("like ones.", () -> {
            for (int owner = 0; owner < 6; owner++) {
                int like = owner;
                Twins.idle("owner " + owner, Twins::rich, x -> x.pays(like, like), -1);
            }
        });
    }

    /** Owner 1's jar is full for so many bells (199 or 200), then there is room for what owner 0 owes. */
    private static JarsThatLeak fullFor(int bells) {
        JarsThatLeak x = Check.with("60/60,1,1,1;60/60,1,2,2>0;60/60,1,2,3>1;60/60,1,2,4>2");
        Check.town(x, "60/" + (bells - 180) + ",1,2,5>3;60/9,0,0,0;d0>1*1");
        return x;
    }

    private static void promise29() {
        Edges.promise(29);
        Edges.edge("After how many BELLS (0 .. 200) first it could.", () -> {
            Check.due("now", Check.with("9/5,1,0,0;9/4,1,1,0;d0>1*5").soonest(0, 1), 0);
            Check.due("nothing owed", new JarsThatLeak().soonest(5, 0), 0);
            Check.due("after 1", Check.with("9/6,1,0,0;9/5,1,1,0;d0>1*5").soonest(0, 1), 1);
            Check.due("after 200", fullFor(199).soonest(0, 1), 200);
            Twins.idle("now, of a rich one", Twins::rich, x -> x.soonest(0, 1), 0);
        });
        Edges.edge("-2: not within 200;", () -> {
            Check.due("after 201", fullFor(200).soonest(0, 1), -2);
            Twins.idle("never", Twins::rich, x -> x.soonest(2, 0), -2);
        });
        Edges.edge("NONE as pays().", () -> {
            Twins.refused("from", Twins.NO_OWNERS, (x, owner) -> x.soonest(owner, 0));
            Twins.refused("to", Twins.NO_OWNERS, (x, owner) -> x.soonest(0, owner));
            Twins.idle("like ones", Twins::rich, x -> x.soonest(5, 5), -1);
        });
    }

    private static void promise30() {
        Edges.promise(30);
        Edges.edge("The latest BELL (0 .. 200 on) at which it still could.", () -> {
            Check.due("now, and no more", Check.with("9/5,1,0,0;9/4,0,1,0;d0>1*5").latest(0, 1), 0);
            Check.due("nothing owed", new JarsThatLeak().latest(5, 0), 200);
            Check.due("not now, but always then", Check.with("9/5,0,0,0;9/5,1,1,0;d0>1*5").latest(0, 1), 200);
            Check.due("not now, but just after 200", fullFor(199).latest(0, 1), 200);
            Check.due("at 1 alone", Check.with("9/6,1,0,0;9/5,1,1,0;d0>1*5").latest(0, 1), 1);
            JarsThatLeak between = Check.with("9/3,3,0,0;9/0,1,1,0;9/3,1,0,1>0;9/3,1,2,2>2;d0>1*3");
            // owner 0 has 6, 4, 4, 4, 3, 2
            Check.due("as long as it lasts", between.latest(0, 1), 4);
            JarsThatLeak twice = Check.with("9/3,3,0,0;9/0,0,1,0;9/0,3,2,1>0;9/3,3,2,2>2;d0>1*3");
            // owner 0 has 3, 0, 3, 0
            Check.due("though not at one between", twice.latest(0, 1), 2);
            Twins.idle("of a rich one", Twins::rich, x -> x.latest(0, 1), 10);
        });
        Edges.edge("-2: at none;", () -> {
            Check.due("but at 201", fullFor(200).latest(0, 1), -2);
            Twins.idle("never", Twins::rich, x -> x.latest(2, 0), -2);
        });
        Edges.edge("NONE as pays().", () -> {
            Twins.refused("from", Twins.NO_OWNERS, (x, owner) -> x.latest(owner, 0));
            Twins.refused("to", Twins.NO_OWNERS, (x, owner) -> x.latest(0, owner));
            Twins.idle("like ones", Twins::rich, x -> x.latest(5, 5), -1);
        });
    }

    private static JarsThatLeak settled(String debts, int want, int... row) {
        JarsThatLeak x = Check.with(debts);
        Check.due("settle() of " + debts, x.settle(), want);
        Check.row(x, "settle() of " + debts, row);
        return x;
    }

    private static void promise31() {
        Edges.promise(31);
        Edges.edge("DEBTS set off: of each two who owe one another, the lesser against the greater;", () -> {
            settled("", 0, 0, 0);
            Check.due("like ones", settled("d0>1*5;d1>0*5", 0, 10, 0).owes(0, 1), 0);
            JarsThatLeak x = settled("d0>1*5;d1>0*4;d5>4*998;d4>5*999", 0, 2006, 2);
            Check.due("the greater", x.owes(0, 1), 1);
            Check.due("the lesser", x.owes(1, 0), 0);
            Check.due("the greater, told behind", x.owes(4, 5), 1);
            settled("d0>1*5", 0, 5, 5);
        });
        Edges.edge("then, as long as there are three unlike ones a, b, c of whom a owes b and b owes c:", () -> {
            settled("d0>1*1;d2>1*1;d3>4*1", 0, 3, 3);
            settled("d0>1*1;d1>2*1", 1, 2, 1);
            settled("d1>0*1;d0>2*1", 1, 2, 1);
            settled("d5>0*1;d0>4*1", 1, 2, 1);
            settled("d4>5*1;d5>0*1", 1, 2, 1);
            JarsThatLeak x = settled("d0>1*1;d1>2*1;d2>3*1;d3>4*1;d4>5*1", 4, 5, 1);
            Check.due("the first owes the last", x.owes(0, 5), 1);
            JarsThatLeak back = settled("d5>4*1;d4>3*1;d3>2*1;d2>1*1;d1>0*1", 4, 5, 1);
            Check.due("the last owes the first", back.owes(5, 0), 1);
        });
        Edges.edge("the first such row (by a, then b, then c):", () -> {
            // by a: 0 1 2 ahead of 1 2 3: 0>2 2, 1>2 1; then 0 2 3: 0>3 2, 2>3 1; then 1 2 3: 1>3 1
            JarsThatLeak a = settled("d0>1*2;d1>2*3;d2>3*3", 3, 8, 3);
            Check.due("0 owes 3", a.owes(0, 3), 2);
            Check.due("1 owes 3", a.owes(1, 3), 1);
            // by b: 0 1 3 takes all that 3 owes nobody for, 0 2 3 then what 0 owes 2
            JarsThatLeak b = settled("d0>2*2;d0>1*1;d1>3*1;d2>3*1", 2, 5, 3);
            Check.due("0 owes 3 of both", b.owes(0, 3), 2);
            Check.due("0 owes 2 the rest", b.owes(0, 2), 1);
            // by c: 1 pays 2 by 0, and then has nothing to pay 3 with
            JarsThatLeak c = settled("d0>1*1;d1>3*1;d1>2*1", 1, 3, 2);
            Check.due("0 owes 2", c.owes(0, 2), 1);
            Check.due("1 owes 3 still", c.owes(1, 3), 1);
        });
    }

    private static void promise31Rows() {
        Edges.edge("the lesser of both DEBTS is less in both, and a owes c so much more", () -> {
            JarsThatLeak less = settled("d0>1*3;d1>2*5;d0>2*7", 1, 15, 12);
            Check.due("0 owes 1", less.owes(0, 1), 0);
            Check.due("1 owes 2", less.owes(1, 2), 2);
            Check.due("0 owes 2", less.owes(0, 2), 10);
            JarsThatLeak same = settled("d0>1*5;d1>2*5", 1, 10, 5);
            Check.due("0 owes 2 all", same.owes(0, 2), 5);
        });
        Edges.edge("(to 999; what is above is forgiven),", () -> {
            settled("d0>2*998;d0>1*1;d1>2*1", 1, 1000, 999);
            settled("d0>2*999;d0>1*1;d1>2*1", 1, 1001, 999);
            JarsThatLeak x = settled("d0>2*999;d0>1*999;d1>2*999", 1, 2997, 999);
            Check.due("0 owes 2", x.owes(0, 2), 999);
            Check.due("0 owes 1", x.owes(0, 1), 0);
        });
        Edges.edge("and these are set off: how many such rows;", () -> {
            JarsThatLeak x = settled("d0>1*5;d1>2*5;d2>0*3", 1, 13, 2);
            Check.due("0 owes 2 what is left", x.owes(0, 2), 2);
            JarsThatLeak ring = settled("d0>1*5;d1>2*5;d2>0*5", 1, 15, 0);
            Check.due("nothing is left", ring.owes(0, 2) + ring.owes(2, 0), 0);
            // 0 1 2: 2>0 2 is left of 5, so none owes whom another owes
            JarsThatLeak back = settled("d0>1*3;d1>2*3;d2>0*5", 1, 11, 2);
            Check.due("2 owes 0 what is left", back.owes(2, 0), 2);
        });
        Edges.edge("the ROW: the sum of DEBTS ahead, behind.", () -> {
            JarsThatLeak x = settled("d0>1*999;d1>0*998", 0, 1997, 1);
            Check.due("again", x.settle(), 0);
            Check.row(x, "again", 1, 1);
            JarsThatLeak none = new JarsThatLeak();
            none.settle();
            Check.row(none, "without debts", 0, 0);
        });
        Edges.edge("(undo() forgets.)", () -> {
            JarsThatLeak x = Twins.rich();
            x.settle();
            Check.due("nothing can be undone", x.count(4), 0);
            Check.due("undo()", x.undo(), -1);
            JarsThatLeak idle = Check.with("9/9,1,0,0");
            idle.bells(1);
            idle.settle();
            Check.due("even if there was nothing to settle", idle.undo(), -1);
        });
    }
}
