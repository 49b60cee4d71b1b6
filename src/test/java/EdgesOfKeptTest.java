import java.util.function.Supplier;

/** Promises 45 to 48, at their edges: kept. */
public final class EdgesOfKeptTest {
    private static final int LEAST_INT = Integer.MIN_VALUE;
    private static final int MOST_INT = Integer.MAX_VALUE;

    public static void main(String[] args) {
        promise45();
        promise46();
        promise46Refused();
        promise47();
        promise48();
        Edges.finish();
    }

    /** All that is kept is made another. */
    private static void change(JarsThatLeak x) {
        x.bells(1);
        x.wax(1, 50);
        x.pour(0, 1, 5);
        x.spring(2, 3, 60);
        x.bells(2);
        x.sheet(0, 9, 7, 1);
        x.below(2, -1);
        x.settle();
    }

    private static String keptParts(JarsThatLeak x) {
        StringBuilder all = new StringBuilder();
        for (int jar = 0; jar < x.count(0); jar++) {
            all.append(Check.jarText(x, jar)).append('\n');
        }
        for (int from = 0; from < 6; from++) {
            for (int to = 0; to < 6; to++) {
                all.append(x.owes(from, to)).append(' ');
            }
        }
        return all.append(x.count(1)).append(' ').append(x.count(2)).toString();
    }

    private static void promise45() {
        Edges.promise(45);
        Edges.edge("DROPS, WAX (and whether some was set this BELL), DEBTS, BELLS, LOST, HOLES, JARS BELOW are kept", () -> {
            for (int number = 0; number <= 1; number++) {
                JarsThatLeak x = Twins.waxed();
                String ahead = keptParts(x);
                x.keep(number);
                change(x);
                Check.due("all is another", keptParts(x).equals(ahead), false);
                x.again(number);
                Check.dueText("all is as it was", keptParts(x), ahead);
                Check.due("wax was set this BELL", x.wax(1, 1), false);
                JarsThatLeak no = Twins.rich();
                no.keep(number);
                no.wax(1, 1);
                no.again(number);
                Check.due("none was set this BELL", no.wax(1, 1), true);
            }
        });
        Edges.edge("under a number 0 .. 1: true.", () -> {
            JarsThatLeak x = new JarsThatLeak();
            Check.due("0, of a new object", x.keep(0), true);
            Check.due("1", x.keep(1), true);
            Check.due("0 once more", x.keep(0), true);
            Twins.idle("what was kept counts no more, but nothing else changes", () -> keptNow(0), y -> Twins.one(y.keep(0)), 1);
            Twins.idle("nor under 1", () -> keptNow(1), y -> Twins.one(y.keep(1)), 1);
            JarsThatLeak apart = Check.with("9/9,1,0,0");
            apart.keep(0);
            apart.bells(1);
            apart.keep(1);
            apart.bells(1);
            apart.again(0);
            Check.due("each by itself: 0", apart.count(1), 0);
            apart.again(1);
            Check.due("each by itself: 1", apart.count(1), 1);
        });
        Edges.edge("Refused: others.", () -> {
            Twins.refusedAsFalse("number", Twins.NO_NUMBERS, (x, i) -> x.keep(i));
        });
    }

    private static JarsThatLeak keptNow(int number) {
        JarsThatLeak x = Twins.rich();
        x.keep(number);
        return x;
    }

    private static void promise46() {
        Edges.promise(46);
        Edges.edge("They are as they were kept under a number.", () -> {
            JarsThatLeak x = Twins.rich();
            Check.due("0", x.again(0), true);
            Check.due("BELLS", x.count(1), 0);
            Check.due("1", x.again(1), true);
            Check.due("BELLS then", x.count(1), 2);
            Check.due("1 again", x.again(1), true);
            change(x);
            Check.due("and again", x.again(1), true);
            Check.dueText("a jar", Check.jarText(x, 0), "9 9 1 0 1 -1 0 :000000066");
            Check.due("what was seen stays", x.count(5), 2);
            Check.due("THE LAW stays", x.jar(0, 7), 10);
            Check.due("THE TEXT stays", x.count(7), 9);
            Check.due("what could be undone does not", x.count(4), 0);
            x.bells(1);
            Check.due("what is done then can be undone", x.undo(), 0);
        });
    }

    private static void promise46Refused() {
        Edges.edge("Refused: nothing kept,", () -> {
            Supplier<JarsThatLeak> one = () -> {
                JarsThatLeak x = Check.with("9/9,1,0,0;9/0,1,1,0");
                x.keep(1);
                x.bells(1);
                return x;
            };
            Twins.idle("under 0", one, x -> Twins.one(x.again(0)), 0);
            Check.due("but under 1", one.get().again(1), true);
            Twins.refusedAsFalse("under", Twins.NO_NUMBERS, (x, i) -> x.again(i));
            Twins.idle("of a new object", JarsThatLeak::new, x -> Twins.one(x.again(0)), 0);
            Twins.idle("of a new object, 1", JarsThatLeak::new, x -> Twins.one(x.again(1)), 0);
        });
        Edges.edge("JARS came since.", () -> {
            Supplier<JarsThatLeak> came = () -> {
                JarsThatLeak x = Twins.rich();
                x.town();
                x.bells(1);
                return x;
            };
            Twins.idle("0", came, x -> Twins.one(x.again(0)), 0);
            Twins.idle("1", came, x -> Twins.one(x.again(1)), 0);
            JarsThatLeak anew = came.get();
            anew.keep(0);
            Check.due("kept anew", anew.again(0), true);
            Check.due("the other not", anew.again(1), false);
            JarsThatLeak debts = Twins.rich();
            Check.town(debts, "d0>1*77");
            Check.due("debts are no jars", debts.again(1), true);
            Check.due("they are as they were", debts.owes(0, 1), 5);
            JarsThatLeak refused = Twins.rich();
            Check.town(refused, "9/9,1,0,0;x");
            Check.due("none came by a town that was refused", refused.again(1), true);
            JarsThatLeak fresh = new JarsThatLeak();
            fresh.keep(0);
            Check.due("no jars", fresh.again(0), true);
            Check.town(fresh, "9/9,1,0,0");
            Check.due("the first came", fresh.again(0), false);
        });
    }

    private static void promise47() {
        Edges.promise(47);
        Edges.edge("What 0: JARS, 1: BELLS, 2: LOST, 3: the sum of LEVELS, 4: what can be undone, 5: how many were seen, "
            + "6: numbers of the ROW, 7: signs of THE TEXT, 8: the sum of all DEBTS.", () -> {
            int[] rich = {3, 2, 2, 15, 4, 2, 7, 9, 12};
            for (int what = 0; what <= 8; what++) {
                int of = what;
                Twins.idle("count(" + what + ")", Twins::rich, x -> x.count(of), rich[of]);
                Twins.idle("count(" + what + ") of a new object", JarsThatLeak::new, x -> x.count(of), 0);
            }
        });
        Edges.edge("3: the sum of LEVELS", () -> {
            JarsThatLeak x = Check.with("60/60,1,0,0;60/60,1,0,0;60/60,1,0,0;60/60,1,0,0;60/60,1,0,0;60/60,1,0,0");
            Check.town(x, "60/60,1,0,0;60/60,1,0,0;60/60,1,0,0");
            Check.due("of nine full ones", x.count(3), 540);
            Check.due("nine", x.count(0), 9);
        });
        Edges.edge("8: the sum of all DEBTS", () -> {
            JarsThatLeak x = new JarsThatLeak();
            for (int from = 0; from < 6; from++) {
                for (int to = 0; to < 6; to++) {
                    Check.town(x, "d" + from + ">" + to + "*999");
                }
            }
            Check.due("of thirty times the most", x.count(8), 29970);
        });
        Edges.edge("NONE for another what.", () -> {
            Twins.refused("count()", new int[] {-1, 9, LEAST_INT, MOST_INT}, (x, what) -> x.count(what));
        });
    }

    private static void promise48() {
        Edges.promise(48);
        Edges.edge("Number i of the ROW.", () -> {
            int[] want = {7, 0, 0, 0, 0, 0, 2};
            for (int i = 0; i < 7; i++) {
                int at = i;
                Twins.idle("row(" + i + ")", Twins::rich, x -> Check.rowAt(x, at), want[i]);
            }
            JarsThatLeak ten = Check.with("9/9,1,0,0;9/0,1,1,0;d0>1*45;d1>0*45");
            ten.payoff();
            Check.due("row(9) of ten", Check.rowAt(ten, 9), 1009);
            Check.due("row(10) of ten", Check.rowAt(ten, 10), Check.THROWS);
        });
        Edges.edge("NoSuchElementException: none such.", () -> {
            for (int i : new int[] {-1, 7, 10, LEAST_INT, MOST_INT}) {
                Twins.idle("row(" + i + ")", Twins::rich, x -> Check.rowAt(x, i), Check.THROWS);
            }
            Twins.idle("of a new object", JarsThatLeak::new, x -> Check.rowAt(x, 0), Check.THROWS);
            JarsThatLeak x = Twins.rich();
            x.spread(4);
            Check.due("of an empty one", Check.rowAt(x, 0), Check.THROWS);
            x.flood(0, 0);
            Check.due("of one that is shorter than the one ahead", Check.rowAt(x, 1), Check.THROWS);
        });
    }
}
