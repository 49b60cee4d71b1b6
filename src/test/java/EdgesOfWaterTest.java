import java.util.function.Supplier;
import java.util.function.ToIntFunction;

/** Promises 10 to 17, at their edges: water. */
public final class EdgesOfWaterTest {
    private static final int LEAST_INT = Integer.MIN_VALUE;
    private static final int MOST_INT = Integer.MAX_VALUE;

    public static void main(String[] args) {
        promise10();
        promise11();
        promise11Wrong();
        promise12();
        promise12Wrong();
        promise13();
        promise14();
        promise14Kept();
        promise14Forgotten();
        promise15();
        promise15Rows();
        promise16();
        promise16Steps();
        promise16Signs();
        promise17();
        Edges.finish();
    }

    private static void promise10() {
        Edges.promise(10);
        Edges.edge("So many DROPS (1 .. 60) of an ORIGIN (0 .. 6) come from the spring into a JAR,", () -> {
            JarsThatLeak x = Check.with("60/0,1,1,1;60/0,1,1,1;60/0,1,1,1");
            Check.due("1 of 0", x.spring(0, 0, 1), 1);
            Check.due("60 of 6", x.spring(1, 6, 60), 60);
            Check.due("of the last jar", x.spring(2, 3, 2), 2);
            Check.due("they are of 0", x.share(0, 0), 1);
            Check.due("they are of 6", x.share(1, 6), 60);
            Check.due("they are of 3", x.share(2, 3), 2);
        });
        Edges.edge("as many as it still HOLDS: how many came", () -> {
            JarsThatLeak x = Check.with("9/5,1,1,1");
            Check.due("one more than it still holds", x.spring(0, 6, 5), 4);
            Check.due("it is full", x.jar(0, 0), 9);
            Check.due("into a full one", x.spring(0, 6, 1), 0);
            Check.due("60 into a full one", x.spring(0, 6, 60), 0);
            Check.due("just as many", Check.with("9/5,1,1,1").spring(0, 6, 4), 4);
            Check.due("all three can be undone, those that brought nothing, too", x.count(4), 3);
        });
        Edges.edge("(the others are not LOST).", () -> {
            JarsThatLeak x = Check.with("9/9,1,1,1");
            x.spring(0, 6, 60);
            Check.due("LOST", x.count(2), 0);
            Check.due("the sum of LEVELS", x.count(3), 9);
        });
        Edges.edge("NONE: others.", () -> {
            Twins.refused("drops", new int[] {0, -1, 61, LEAST_INT, MOST_INT}, (x, drops) -> x.spring(1, 0, drops));
            Twins.refused("origin", Twins.NO_ORIGINS, (x, origin) -> x.spring(1, origin, 1));
            Twins.refused("jar", Twins.NO_JARS, (x, jar) -> x.spring(jar, 0, 1));
            Twins.idle("a wrong number for a full jar", Twins::rich, x -> x.spring(0, 0, 61), -1);
        });
    }

    private static void promise11() {
        Edges.promise(11);
        Edges.edge("DROPS are poured: how many;", () -> {
            JarsThatLeak x = Check.with("60/60,1,0,0;60/0,1,1,0");
            Check.due("1", x.pour(0, 1, 1), 1);
            Check.due("all", x.pour(0, 1, 59), 59);
            Check.due("the first is empty", x.jar(0, 0), 0);
            Check.due("the other one is full", x.jar(1, 0), 60);
            Check.due("60 back", x.pour(1, 0, 60), 60);
        });
        Edges.edge("DEBTS of the OWNER of the first JAR to that of the other one are so much less", () -> {
            JarsThatLeak x = Check.with("9/9,1,0,0;9/0,1,1,0;9/0,1,2,0;9/0,1,0,0;d0>1*6;d1>0*6;d0>2*6;d2>1*6");
            x.pour(0, 1, 2);
            Check.due("the debt", x.owes(0, 1), 4);
            Check.due("back", x.owes(1, 0), 6);
            Check.due("to another", x.owes(0, 2), 6);
            Check.due("of another", x.owes(2, 1), 6);
            x.pour(0, 3, 2);
            Check.due("among jars of one owner nothing is paid", x.count(8), 22);
        });
        Edges.edge("(0 at least).", () -> {
            JarsThatLeak x = Check.with("9/9,1,0,0;9/0,1,1,0;d0>1*3");
            x.pour(0, 1, 3);
            Check.due("just paid", x.owes(0, 1), 0);
            x.pour(0, 1, 1);
            Check.due("nothing owed", x.owes(0, 1), 0);
            Check.due("nor owed back", x.owes(1, 0), 0);
            JarsThatLeak more = Check.with("9/9,1,0,0;9/0,1,1,0;d0>1*3");
            more.pour(0, 1, 9);
            Check.due("more than is owed", more.owes(0, 1), 0);
        });
        Edges.edge("-2: the first has not as many;", () -> {
            Twins.idle("one more than it has", Twins::rich, x -> x.pour(2, 1, 7), -2);
            Twins.idle("of an empty one", Twins::rich, x -> x.pour(1, 2, 1), -2);
            Twins.idle("the most", Twins::rich, x -> x.pour(0, 1, MOST_INT), -2);
            Twins.idle("nor is there room: this first", Twins::rich, x -> x.pour(2, 0, 7), -2);
            Check.due("as many as it has", Twins.rich().pour(2, 1, 6), 6);
        });
        Edges.edge("-3: the other one does not hold as many more;", () -> {
            Twins.idle("into a full one", Twins::rich, x -> x.pour(2, 0, 1), -3);
            JarsThatLeak x = Check.with("9/9,1,0,0;9/5,1,1,0");
            Check.due("one more than it still holds", x.pour(0, 1, 5), -3);
            Check.due("as many as it still holds", x.pour(0, 1, 4), 4);
        });
    }

    private static void promise11Wrong() {
        Edges.edge("NONE: none such,", () -> {
            Twins.refused("from", Twins.NO_JARS, (x, jar) -> x.pour(jar, 1, 1));
            Twins.refused("to", Twins.NO_JARS, (x, jar) -> x.pour(0, jar, 1));
            Twins.refused("from and to", Twins.NO_JARS, (x, jar) -> x.pour(jar, jar, 1));
            Twins.idle("to none such, more than it has", Twins::rich, x -> x.pour(0, 3, 60), -1);
        });
        Edges.edge("like JARS,", () -> {
            for (int jar = 0; jar < 3; jar++) {
                int like = jar;
                Twins.idle("jar " + jar, Twins::rich, x -> x.pour(like, like, 1), -1);
                Twins.idle("more than jar " + jar + " has", Twins::rich, x -> x.pour(like, like, 60), -1);
            }
        });
        Edges.edge("fewer than 1.", () -> {
            Twins.refused("drops", new int[] {0, -1, LEAST_INT}, (x, drops) -> x.pour(0, 1, drops));
            Twins.refused("of an empty one", new int[] {0, -1, LEAST_INT}, (x, drops) -> x.pour(1, 0, drops));
        });
    }

    private static void promise12() {
        Edges.promise(12);
        Edges.edge("A JAR gets WAX for so many bells (1 .. 99;", () -> {
            JarsThatLeak x = Twins.rich();
            Check.due("1", x.wax(0, 1), true);
            Check.due("so", x.jar(0, 6), 1);
            x.bells(1);
            Check.due("99, of the last", x.wax(2, 99), true);
            Check.due("so it is", x.jar(2, 6), 99);
        });
        Edges.edge("what it has counts no more): true.", () -> {
            JarsThatLeak x = Check.with("9/9,1,0,0");
            x.wax(0, 99);
            x.bells(1);
            Check.due("fewer", x.wax(0, 1), true);
            Check.due("so", x.jar(0, 6), 1);
            x.bells(1);
            Check.due("the hole is open then", x.bells(1), 1);
            x.wax(0, 2);
            x.bells(1);
            Check.due("more", x.wax(0, 5), true);
            Check.due("not 1 and 5", x.jar(0, 6), 5);
        });
    }

    private static void promise12Wrong() {
        Edges.edge("Refused: none such,", () -> {
            Twins.refusedAsFalse("jar", Twins.NO_JARS, (x, jar) -> x.wax(jar, 5));
        });
        Edges.edge("another number,", () -> {
            Twins.refusedAsFalse("bells", new int[] {0, -1, 100, LEAST_INT, MOST_INT}, (x, bells) -> x.wax(0, bells));
        });
        Edges.edge("THE LAW is 0 for it,", () -> {
            Supplier<JarsThatLeak> lawful = () -> {
                JarsThatLeak x = Twins.rich();
                Check.law(x, "l");
                return x;
            };
            Twins.idle("for an empty one", lawful, x -> Twins.one(x.wax(1, 5)), 0);
            Check.due("not for a full one", lawful.get().wax(0, 5), true);
            JarsThatLeak x = lawful.get();
            x.spring(1, 0, 1);
            Check.due("nor for it when it has one", x.wax(1, 5), true);
        });
        Edges.edge("some JAR had WAX set this BELL already.", () -> {
            Twins.idle("the same", Twins::waxed, x -> Twins.one(x.wax(0, 5)), 0);
            Twins.idle("another", Twins::waxed, x -> Twins.one(x.wax(1, 5)), 0);
            JarsThatLeak x = Twins.waxed();
            x.bells(0);
            Check.due("no bell went by", x.wax(1, 5), false);
            x.bells(201);
            Check.due("nor by a call that was refused", x.wax(1, 5), false);
            x.bells(1);
            Check.due("a bell went by", x.wax(1, 5), true);
            JarsThatLeak again = Twins.rich();
            again.wax(3, 5);
            again.wax(0, 100);
            Check.due("wax that was refused was not set", again.wax(0, 5), true);
            again.undo();
            Check.due("nor was wax that was undone", again.wax(0, 5), true);
        });
    }

    private static void promise13() {
        Edges.promise(13);
        Edges.edge("n BELLS (0 .. 200) go by: LOST in them;", () -> {
            JarsThatLeak x = Check.with("60/60,1,0,1;60/60,1,0,2>0;60/60,1,0,3>1;60/60,1,0,4>2");
            Check.due("0", x.bells(0), 0);
            Check.due("none went by", x.count(1), 0);
            Check.due("1", x.bells(1), 1);
            Check.due("200", x.bells(200), 200);
            Check.due("as many went by", x.count(1), 201);
            Check.due("the rest", x.bells(200), 39);
            Check.due("all", x.count(2), 240);
        });
        Edges.edge("the ROW: how many JARS are empty then, the sum of LEVELS.", () -> {
            JarsThatLeak x = Check.with("9/2,1,0,1;9/9,0,0,1;9/0,0,0,1");
            x.bells(0);
            Check.row(x, "none went by", 1, 11);
            x.bells(1);
            Check.row(x, "one", 1, 10);
            x.bells(1);
            Check.row(x, "two", 2, 9);
            JarsThatLeak none = new JarsThatLeak();
            none.bells(1);
            Check.row(none, "without jars", 0, 0);
        });
        Edges.edge("NONE: another n.", () -> {
            Twins.refused("n", Twins.NO_BELLS, (x, n) -> x.bells(n));
        });
    }

    /** What a call does is undone: all is as it was, but that nothing more can be undone than ahead of it. */
    private static void undone(String name, ToIntFunction<JarsThatLeak> call) {
        JarsThatLeak x = Twins.rich();
        String ahead = Check.stateText(x);
        Check.due(name + " is made", call.applyAsInt(x) > 0, true);
        Check.due(name + " can be undone", x.count(4), 5);
        Check.due(name + " undone", x.undo(), 4);
        Check.dueText("behind " + name, Check.stateText(x), ahead);
    }

    private static void promise14() {
        Edges.promise(14);
        Edges.edge("The latest pour(), spring(), wax() or BELLS of one bells()", () -> {
            undone("pour()", x -> x.pour(0, 1, 9));
            undone("spring()", x -> x.spring(1, 3, 60));
            undone("wax()", x -> Twins.one(x.wax(2, 99)));
            undone("bells()", x -> x.bells(200));
            undone("one BELL", x -> x.bells(1));
        });
        Edges.edge("is undone (DROPS, WAX, DEBTS, BELLS, LOST are as ahead of it): how many are left that can be.", () -> {
            JarsThatLeak x = Check.with("9/9,1,0,0;9/0,1,1,0;d0>1*3");
            x.pour(0, 1, 9);
            x.wax(0, 9);
            x.bells(3);
            Check.due("the latest", x.undo(), 2);
            Check.due("BELLS", x.count(1), 0);
            Check.due("LOST", x.count(2), 0);
            Check.due("WAX", x.jar(0, 6), 9);
            Check.due("the one ahead", x.undo(), 1);
            Check.due("WAX is gone", x.jar(0, 6), 0);
            Check.due("the first", x.undo(), 0);
            Check.due("DEBTS", x.owes(0, 1), 3);
            Check.dueText("DROPS", Check.jarText(x, 0), "9 9 1 0 0 -1 0 :000000000");
        });
        Edges.edge("is undone (DROPS, WAX, DEBTS, BELLS, LOST are as ahead of it)", () -> {
            JarsThatLeak x = Twins.rich();
            x.bells(1);
            x.hole(0, 9);
            x.below(2, 0);
            x.seen(1, 1, 1);
            Check.law(x, "7");
            x.undo();
            Check.due("nothing else: a HOLE", x.jar(0, 2), 9);
            Check.due("nothing else: a JAR BELOW", x.jar(2, 5), 0);
            Check.due("nothing else: what was seen", x.count(5), 3);
            Check.due("nothing else: THE LAW", x.jar(0, 7), 7);
            Check.row(x, "nothing else: the row of bells(1)", 1, 14);
        });
    }

    private static void promise14Kept() {
        Edges.edge("(of 12 that are kept, the latest ones;", () -> {
            JarsThatLeak x = Check.with("60/60,1,0,0");
            for (int many = 1; many <= 12; many++) {
                x.bells(1);
                Check.due("so many can be undone", x.count(4), many);
            }
            x.bells(1);
            Check.due("a thirteenth", x.count(4), 12);
            for (int left = 11; left >= 0; left--) {
                Check.due("undo() to " + left, x.undo(), left);
            }
            Check.due("the first can't be undone", x.undo(), -1);
            Check.due("it stays", x.count(1), 1);
            for (int many = 1; many <= 30; many++) {
                x.spring(0, 6, 1);
                x.undo();
            }
            Check.due("room again", x.count(4), 0);
            Check.due("as it was", x.jar(0, 0), 59);
        });
        Edges.edge("such as were not refused,", () -> {
            JarsThatLeak x = Twins.waxed();
            x.pour(0, 1, 0);
            x.pour(1, 0, 1);
            x.pour(2, 0, 1);
            x.spring(0, 7, 1);
            x.wax(1, 1);
            x.bells(201);
            Check.due("wax was the latest", x.count(4), 5);
            x.undo();
            Check.due("it is undone", x.jar(0, 6), 0);
            Check.due("a spring that brought nothing was not refused", x.spring(0, 6, 1) + x.count(4), 5);
        });
        Edges.edge("with n above 0)", () -> {
            JarsThatLeak x = Twins.rich();
            x.bells(0);
            Check.due("0 is not kept", x.count(4), 4);
            x.bells(1);
            Check.due("1 is", x.count(4), 5);
        });
        Edges.edge("Refused: none.", () -> {
            Twins.idle("of a new object", JarsThatLeak::new, x -> x.undo(), -1);
            Supplier<JarsThatLeak> all = () -> {
                JarsThatLeak x = Twins.rich();
                for (int i = 0; i < 4; i++) {
                    x.undo();
                }
                return x;
            };
            Twins.idle("when all are undone", all, x -> x.undo(), -1);
        });
    }

    private static void promise14Forgotten() {
        Edges.edge("(town() and again() forget them, if they are not refused;", () -> {
            JarsThatLeak x = Twins.rich();
            Check.due("a town", x.town(), 1);
            Check.due("none can be undone", x.undo(), -1);
            JarsThatLeak debts = Twins.rich();
            Check.town(debts, "d0>1*5");
            Check.due("a town of debts alone", debts.undo(), -1);
            JarsThatLeak back = Twins.rich();
            back.again(1);
            Check.due("again()", back.undo(), -1);
            JarsThatLeak no = Twins.rich();
            Check.town(no, "d0>0*5");
            Check.due("a town that is refused", no.count(4), 4);
            no.again(2);
            Check.due("again() that is refused", no.count(4), 4);
        });
        Edges.edge("an empty town() does not.)", () -> {
            JarsThatLeak x = Twins.rich();
            x.end(0);
            Check.due("an empty town", x.town(), 0);
            Check.due("they can be undone", x.undo(), 3);
        });
    }

    private static JarsThatLeak threeToPour() {
        return Check.with("9/5,2,0,3;9/4,1,1,1;20/0,0,2,0;d0>1*3;d1>2*9");
    }

    private static void promise15() {
        Edges.promise(15);
        Edges.edge("A POURING told as 1000 .. is made, n of them told as a row of numbers a, b, c (n 0 .. 3), one behind the other:", () -> {
            Check.due("0: none is looked at", threeToPour().judge(0, -1, -1, -1), -2);
            Check.due("1: the others are not looked at", threeToPour().judge(1, 105, -1, -1), -2);
            Check.due("2: the last is not looked at", threeToPour().judge(2, 105, 1209, -1), -2);
            Check.due("3", threeToPour().judge(3, 105, 1209, -1), 2);
            Check.due("the second of what the first left", threeToPour().judge(2, 105, 1, 0), 1);
            Check.due("there and back", threeToPour().judge(3, 105, 1005, 105), -2);
            JarsThatLeak one = Check.with("9/1,1,0,0;9/0,1,1,0;d0>1*1");
            Check.due("one there and back", one.judge(2, 101, 1001, 0), -2);
            Check.row(one, "one there and back", 2, 0);
            Check.due("one there twice", one.judge(2, 101, 101, 0), 1);
            Check.row(one, "one there twice", 1, 0);
        });
        Edges.edge("-2: all can be made;", () -> {
            Check.due("of none", new JarsThatLeak().judge(0, 0, 0, 0), -2);
            Check.due("all that it has, all that it holds more", threeToPour().judge(3, 105, 1209, 2209), 2);
            Check.due("all three", threeToPour().judge(3, 105, 1209, 2009), -2);
        });
        Edges.edge("else the number of the first that can't (0 ..);", () -> {
            int[] wrong = {0, 100, 106, 1, 1101, 301, 3001, 901, 9001, 10101, 200, 2001, -1, -101, -1000, LEAST_INT, MOST_INT};
            for (int w : wrong) {
                Check.due(w + " as the first", threeToPour().judge(3, w, 101, w), 0);
                Check.due(w + " as the second", threeToPour().judge(3, 101, w, w), 1);
                Check.due(w + " as the third", threeToPour().judge(3, 101, 1001, w), 2);
            }
            JarsThatLeak full = Check.with("9/9,1,0,0;9/9,1,1,0");
            Check.due("into a full one", full.judge(1, 101, 0, 0), 0);
        });
    }

    private static void judged(int n, int[] abc, int sum, int debts) {
        JarsThatLeak x = threeToPour();
        x.tax(0);
        x.judge(n, abc[0], abc[1], abc[2]);
        Check.row(x, "judge(" + n + ", " + abc[0] + ", " + abc[1] + ", " + abc[2] + ")", sum, debts);
    }

    private static void promise15Rows() {
        Edges.edge("the ROW: the sum of DROPS till then, the sum of all DEBTS then.", () -> {
            judged(0, new int[] {105, 105, 105}, 0, 12);
            judged(1, new int[] {102, 105, 105}, 2, 10);
            judged(1, new int[] {105, 105, 105}, 5, 9);
            judged(1, new int[] {106, 105, 105}, 0, 12);
            judged(3, new int[] {105, 1209, 0}, 14, 0);
            judged(3, new int[] {105, 0, 1209}, 5, 9);
            judged(3, new int[] {1204, 2001, 2002}, 7, 8);
        });
        Edges.edge("Nothing changes.", () -> {
            Twins.idleButRow("one that can be made", Twins::rich, x -> x.judge(1, 109, 0, 0), -2);
            Twins.idleButRow("one that can't", Twins::rich, x -> x.judge(1, 2001, 0, 0), 0);
            Twins.idleButRow("none", Twins::rich, x -> x.judge(0, 0, 0, 0), -2);
        });
        Edges.edge("NONE: another n.", () -> {
            Twins.refused("n", new int[] {-1, 4, LEAST_INT, MOST_INT}, (x, n) -> x.judge(n, 109, 109, 109));
        });
    }

    private static void promise16() {
        Edges.promise(16);
        Edges.edge("THE TEXT is AN ORDER (an empty one: none),", () -> {
            Supplier<JarsThatLeak> empty = () -> {
                JarsThatLeak x = Twins.rich();
                x.end(0);
                return x;
            };
            Twins.idleButRow("an empty one", empty, x -> x.order(), 0);
            JarsThatLeak x = empty.get();
            x.order();
            Check.row(x, "an empty one", 0, 0);
        });
        Edges.edge("STEPS with ; between: p, a JAR, >, a JAR, *, DROPS: pour(); b, a number: bells(); w, a JAR, *, a number: wax(); "
            + "s, a JAR, *, DROPS: spring() of ORIGIN 6", () -> {
            JarsThatLeak p = Twins.rich();
            Check.due("p", Check.order(p, "p0>1*9"), 1);
            Check.due("all were poured", p.jar(1, 0) * 10 + p.jar(0, 0), 90);
            Check.due("the debt is paid", p.owes(0, 1), 0);
            JarsThatLeak b = Twins.rich();
            Check.due("b", Check.order(b, "b99"), 1);
            Check.due("99 went by", b.count(1), 101);
            JarsThatLeak w = Twins.rich();
            Check.due("w", Check.order(w, "w2*99"), 1);
            Check.due("wax", w.jar(2, 6), 99);
            JarsThatLeak s = Twins.rich();
            Check.due("s", Check.order(s, "s2*60"), 1);
            Check.due("of origin 6", s.share(2, 6), 14);
        });
        Edges.edge("(JARS are digits, whether there or not;", () -> {
            for (String step : new String[] {"p3>0*1", "p0>3*1", "p9>9*1", "w3*1", "w9*1", "s3*1", "s9*1"}) {
                JarsThatLeak x = Twins.rich();
                Check.due(step + " can stand", Check.order(x, "b0;" + step), 1);
                Check.row(x, step + " is refused", 0, 1);
            }
            flaw("w10*1", 2);
            flaw("p10>1*1", 2);
            flaw("p1>10*1", 4);
            flaw("s-", 1);
        });
        Edges.edge("numbers have 1 or 2 digits):", () -> {
            Check.due("b0", Check.order(Twins.rich(), "b0"), 1);
            Check.due("b00", Check.order(Twins.rich(), "b00"), 1);
            Check.due("b09", Check.order(Twins.rich(), "b09"), 1);
            flaw("b", 1);
            flaw("b100", 3);
            flaw("p0>1*001", 7);
            flaw("w0*001", 5);
            flaw("s0*001", 5);
        });
    }

    private static void promise16Steps() {
        Edges.edge("they are done one by one, till one is refused: how many were done;", () -> {
            Check.due("the first is", Check.order(Twins.rich(), "w3*1;b1"), 0);
            JarsThatLeak x = Twins.rich();
            Check.due("the second is", Check.order(x, "b1;w3*1;b1"), 1);
            Check.due("none behind it is done", x.count(1), 3);
            String[] refused = {"p0>0*1", "p0>1*0", "p2>1*99", "p1>0*1", "p2>0*1", "w0*0", "s0*0", "s0*61", "s0*99"};
            for (String step : refused) {
                Check.due(step, Check.order(Twins.rich(), "b0;" + step + ";b0"), 1);
            }
            Check.due("wax twice in a bell", Check.order(Twins.rich(), "w0*1;w0*1"), 1);
            Check.due("wax twice, a bell between", Check.order(Twins.rich(), "w0*1;b1;w0*1"), 3);
            Check.due("a spring that brings nothing is not refused", Check.order(Twins.rich(), "s0*1;b1"), 2);
            JarsThatLeak many = Twins.rich();
            Check.due("13 that can be undone", Check.order(many, "b1;b1;b1;b1;b1;b1;b1;b1;b1;b1;b1;b1;b1"), 13);
            Check.due("12 of them are kept", many.count(4), 12);
        });
        Edges.edge("the ROW: LOST in them, 1 if one was refused, else 0.", () -> {
            JarsThatLeak x = Twins.rich();
            Check.order(x, "b1");
            Check.row(x, "none was refused", 1, 0);
            Check.order(x, "b1;b1;w3*1;b1");
            Check.row(x, "the third was", 2, 1);
            Check.order(x, "w3*1");
            Check.row(x, "the first was", 0, 1);
            Check.order(x, "b0");
            Check.row(x, "nothing lost", 0, 0);
        });
    }

    private static void flaw(String text, int place) {
        Twins.idleButText(text, () -> {
            JarsThatLeak x = Twins.rich();
            Check.type(x, text);
            return x;
        }, x -> x.order(), -1 - place);
    }

    private static void promise16Signs() {
        String sixty = "b1;b1;b1;b1;b1;b1;b1;b1;b1;b1;b1;b1;b1;b1;b1;b1;b1;b1;b1;b00";
        Edges.edge("-1 - p: the sign at p can't stand there", () -> {
            flaw("x", 0);
            flaw(";b1", 0);
            flaw("1", 0);
            flaw("b1;;b1", 3);
            flaw("b1 ", 2);
            flaw("b1b1", 2);
            flaw("p0*1", 2);
            flaw("p0>1>1", 4);
            flaw("w0>1", 2);
            flaw("b-1", 1);
            flaw("b1\0", 2);
        });
        Edges.edge("(as town(); 60 signs);", () -> {
            for (String text : new String[] {"p", "p0", "p0>", "p0>1", "p0>1*", "b", "w", "w0", "w0*", "s", "s0", "s0*", "b1;"}) {
                flaw(text, text.length());
            }
            Check.due("60", Check.order(Twins.rich(), sixty), 20);
            flaw(sixty + "1", 60);
            flaw(sixty + "x", 60);
            flaw(sixty + ";", 60);
            flaw(sixty + ";b1;b1;b1;b1;b1;b1;b", 60);
            flaw(sixty.substring(0, 59) + ";", 60);
            flaw(sixty.substring(0, 59) + ";b1", 60);
            flaw(sixty.substring(0, 57) + "b11;", 60);
            flaw(sixty.substring(0, 57) + "w1*1", 60);
            flaw(sixty.substring(0, 59) + "x;b1", 59);
            flaw("x" + sixty, 0);
        });
        Edges.edge("nothing is done then.", () -> {
            flaw("b1;p0>1*3;w0*9;s1*3;x", 20);
            flaw("b1;p0>1*3;w0*9;s1*3;", 20);
            flaw(sixty + ";w9*1", 60);
        });
    }

    private static void promise17() {
        Edges.promise(17);
        Edges.edge("DEBT of an OWNER to another one.", () -> {
            JarsThatLeak x = Check.with("d0>5*999;d5>0*1");
            Check.due("999", x.owes(0, 5), 999);
            Check.due("1", x.owes(5, 0), 1);
            Check.due("0", x.owes(0, 4), 0);
        });
        Edges.edge("NONE: none such,", () -> {
            Twins.refused("from", Twins.NO_OWNERS, (x, owner) -> x.owes(owner, 0));
            Twins.refused("to", Twins.NO_OWNERS, (x, owner) -> x.owes(0, owner));
            Twins.refused("from and to", Twins.NO_OWNERS, (x, owner) -> x.owes(owner, owner));
        });
        Edges.edge("like ones.", () -> {
            for (int owner = 0; owner < 6; owner++) {
                int like = owner;
                Twins.idle("owner " + owner, Twins::rich, x -> x.owes(like, like), -1);
            }
        });
    }
}
