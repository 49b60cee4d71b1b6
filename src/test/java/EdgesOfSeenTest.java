import java.util.function.Supplier;

/** Promises 39 to 44, at their edges: what was seen. */
public final class EdgesOfSeenTest {
    public static void main(String[] args) {
        promise39();
        promise40();
        promise41();
        promise42();
        promise43();
        promise43Ways();
        promise44();
        Edges.finish();
    }

    private static JarsThatLeak tenSeen() {
        JarsThatLeak x = Twins.rich();
        for (int many = 3; many <= 10; many++) {
            x.seen(1, 0, 0);
        }
        return x;
    }

    private static void promise39() {
        Edges.promise(39);
        Edges.edge("LEVEL (0 .. 60) of a JAR n BELLS on (0 .. 200;", () -> {
            JarsThatLeak x = Check.losing(200);
            Check.due("60, 0 on", x.seen(0, 0, 60), 1);
            Check.due("1, 199 on", x.seen(0, 199, 1), 2);
            Check.due("0, 200 on", x.seen(0, 200, 0), 3);
            Check.due("of the last jar", x.seen(3, 0, 20), 4);
            x.explains();
            Check.due("all of it is so", x.row(x.count(6) - 1), 1);
            Check.due("what can't be is told all the same", x.seen(0, 200, 60), 5);
            x.explains();
            Check.due("then it is not so", x.row(x.count(6) - 1), 0);
        });
        Edges.edge("from when it is asked for what was seen) is told as seen: how many were.", () -> {
            JarsThatLeak x = Check.with("9/9,1,0,0");
            x.seen(0, 1, 8);
            Check.due("a bell on", x.holes(0), 2);
            x.bells(1);
            Check.due("a bell on from a bell on", x.holes(0), 1);
            x.undo();
            Check.due("from where it was", x.holes(0), 2);
            Check.due("as many as were", x.seen(0, 1, 8), 2);
        });
        Edges.edge("Refused: others,", () -> {
            Twins.refused("jar", Twins.NO_JARS, (x, jar) -> x.seen(jar, 0, 0));
            Twins.refused("n", Twins.NO_BELLS, (x, n) -> x.seen(0, n, 0));
            Twins.refused("level", Twins.NO_LEVELS, (x, level) -> x.seen(0, 0, level));
        });
        Edges.edge("10.", () -> {
            JarsThatLeak x = Check.with("9/9,1,0,0");
            for (int many = 1; many <= 10; many++) {
                Check.due("number " + many, x.seen(0, 0, 9), many);
            }
            Twins.idle("an eleventh", EdgesOfSeenTest::tenSeen, y -> y.seen(0, 0, 0), -1);
            x.forget();
            Check.due("a tenth again", x.seen(0, 0, 9), 10);
        });
    }

    private static void promise40() {
        Edges.promise(40);
        Edges.edge("The latest that was seen is forgotten: how many are left.", () -> {
            JarsThatLeak x = tenSeen();
            for (int left = 9; left >= 0; left--) {
                Check.due("forget()", x.forget(), left);
                Check.due("so many are left", x.count(5), left);
            }
            x.seen(0, 0, 9);
            x.seen(0, 0, 1);
            Check.due("both can't be", x.holes(0), 0);
            x.forget();
            Check.due("the first is left", x.holes(0), 1023);
        });
        Edges.edge("Refused: none.", () -> {
            Twins.idle("of a new object", JarsThatLeak::new, x -> x.forget(), -1);
            Supplier<JarsThatLeak> all = () -> {
                JarsThatLeak x = Twins.rich();
                x.forget();
                x.forget();
                return x;
            };
            Twins.idle("when all are forgotten", all, x -> x.forget(), -1);
        });
    }

    private static void promise41() {
        Edges.promise(41);
        Edges.edge("HOLES 0 .. 9 (bits) of a JAR, all else as it is, by which all that was seen would be so.", () -> {
            for (int hole = 0; hole <= 9; hole++) {
                JarsThatLeak x = Check.with("60/60,5,0,0");
                x.seen(0, 1, 60 - hole);
                Check.due("hole " + hole + " alone", x.holes(0), 1 << hole);
            }
            Check.due("nothing seen: all", Check.with("60/60,5,0,0").holes(0), 1023);
            JarsThatLeak none = Check.with("60/60,5,0,0");
            none.seen(0, 1, 50);
            Check.due("a hole of 10 there is not", none.holes(0), 0);
            JarsThatLeak few = Check.with("9/3,5,0,0");
            few.seen(0, 1, 0);
            Check.due("3 and all above", few.holes(0), 1016);
            JarsThatLeak far = Check.losing(200);
            far.seen(0, 199, 1);
            far.seen(0, 200, 0);
            Check.due("200 bells on", far.holes(0), 2);
            Twins.idle("holes(0)", Twins::rich, x -> x.holes(0), 2);
            Twins.idle("holes(1)", Twins::rich, x -> x.holes(1), 1023);
        });
        Edges.edge("NONE: none such.", () -> {
            Twins.refused("jar", Twins.NO_JARS, (x, jar) -> x.holes(jar));
        });
    }

    private static void explains(JarsThatLeak x, int want, int... row) {
        Check.due("explains()", x.explains(), want);
        Check.row(x, "explains()", row);
    }

    private static void promise42() {
        Edges.promise(42);
        Edges.edge("Pairs (JAR, HOLE, unlike its HOLE now), one JAR's HOLE alone being otherwise, by which all that was seen would be so: how many;", () -> {
            explains(Check.with("9/9,1,0,0"), 9, 0, 0, 1);
            explains(Check.with("9/9,0,0,0"), 9, 0, 1, 1);
            JarsThatLeak nine = Check.with("1/1,1,0,0;1/1,1,0,0;1/1,1,0,0;1/1,1,0,0;1/1,1,0,0;1/1,1,0,0;1/1,1,0,0");
            Check.town(nine, "1/1,1,0,0;60/60,9,0,0");
            explains(nine, 81, 0, 0, 1);
            nine.seen(8, 1, 60);
            explains(nine, 1, 8, 0, 0);
            nine.seen(0, 1, 1);
            explains(nine, 0, 0);
            Twins.idleButRow("explains()", Twins::rich, x -> x.explains(), 18);
        });
        Edges.edge("the ROW: the first (JAR, then HOLE; none without),", () -> {
            JarsThatLeak x = Check.with("60/60,9,0,0;60/60,9,0,0");
            x.seen(1, 1, 52);
            explains(x, 1, 1, 8, 0);
            x.forget();
            x.seen(0, 1, 52);
            explains(x, 1, 0, 8, 0);
            explains(Twins.rich(), 18, 1, 0, 1);
        });
        Edges.edge("1 if it would be so as it is, else 0 (alone, without a pair).", () -> {
            JarsThatLeak x = Check.with("60/60,9,0,0");
            x.seen(0, 1, 51);
            explains(x, 0, 1);
            x.seen(0, 1, 50);
            explains(x, 0, 0);
            explains(new JarsThatLeak(), 0, 1);
        });
    }

    private static void looks(JarsThatLeak x, int n, int want, int... row) {
        Check.due("looks(" + n + ")", x.looks(n), want);
        Check.row(x, "looks(" + n + ")", row);
    }

    private static void promise43() {
        Edges.promise(43);
        Edges.edge("The JAR to be looked at n BELLS (0 .. 200) on,", () -> {
            looks(Check.with("9/9,1,0,0"), 0, 0, 2, 1);
            looks(Check.with("9/9,1,0,0"), 1, 0, 1, 2);
            looks(Check.with("9/9,1,0,0"), 8, 0, 1, 2);
            looks(Check.with("9/9,1,0,0"), 9, 0, 2, 1);
            JarsThatLeak wax = Check.with("9/9,1,0,0");
            wax.wax(0, 99);
            looks(wax, 99, 0, 2, 1);
            looks(wax, 100, 0, 1, 2);
            // jar 0 has 9 still, or 0 if its own hole is wider
            looks(Check.with("9/9,0,0,0;9/9,1,0,0"), 200, 0, 2, 2);
            Twins.idleButRow("looks(0)", Twins::rich, x -> x.looks(0), 0);
            Twins.idleButRow("looks(200)", Twins::rich, x -> x.looks(200), 0);
        });
        Edges.edge("-2: no JARS;", () -> {
            Twins.idle("looks(0)", JarsThatLeak::new, x -> x.looks(0), -2);
            Twins.idle("looks(200)", JarsThatLeak::new, x -> x.looks(200), -2);
        });
        Edges.edge("NONE: another n.", () -> {
            for (int n : Twins.NO_BELLS) {
                Twins.idle("n " + n, Twins::rich, x -> x.looks(n), -1);
                Twins.idle("n " + n + " without jars", JarsThatLeak::new, x -> x.looks(n), -1);
            }
        });
    }

    private static void promise43Ways() {
        Edges.edge("so as to know which one JAR's HOLE is 1 more than told, or none's (those ways; a HOLE of 9 is never more):", () -> {
            looks(Check.with("60/60,8,0,0"), 1, 0, 1, 2);
            looks(Check.with("60/60,9,0,0"), 1, 0, 1, 1);
            looks(Check.with("60/60,9,0,0;60/60,8,0,0"), 1, 1, 1, 2);
            looks(Check.with("60/60,9,0,0;60/60,9,0,0"), 1, 0, 1, 1);
        });
        Edges.edge("the one of whose LEVELS the most likely (as many such ways) leaves the fewest ways;", () -> {
            JarsThatLeak nine = Check.with("9/9,1,0,0;9/9,1,0,0;9/9,1,0,0;9/9,1,0,0;9/9,1,0,0;9/9,1,0,0;9/9,1,0,0");
            Check.town(nine, "9/9,1,0,0;9/9,1,0,0");
            looks(nine, 1, 0, 9, 2);
            looks(nine, 0, 0, 10, 1);
            // jar 1 has 7, 7, 6, 8 and 7, the others two unlike LEVELS each
            JarsThatLeak mid = Check.with("9/9,1,0,0;9/8,1,0,1;9/9,0,0,2>1;9/9,1,0,0");
            looks(mid, 1, 1, 3, 3);
        });
        Edges.edge("of equal ones the first: it;", () -> {
            looks(Check.with("9/9,1,0,0;9/9,1,0,0"), 1, 0, 2, 2);
            looks(Check.with("9/0,1,0,0;9/9,1,0,0;9/9,1,0,0"), 1, 1, 3, 2);
            looks(Check.with("9/0,1,0,0;9/0,1,0,0"), 200, 0, 3, 1);
        });
        Edges.edge("the ROW: how many that leaves, how many unlike LEVELS.", () -> {
            looks(Check.with("9/4,1,0,0;9/9,1,0,1>0"), 1, 0, 1, 3);
            looks(Check.with("9/0,0,0,0"), 200, 0, 2, 1);
        });
    }

    private static void secret(JarsThatLeak x, int want, int... row) {
        Check.due("secret()", x.secret(), want);
        Check.row(x, "secret()", row);
    }

    private static void promise44() {
        Edges.promise(44);
        Edges.edge("DROPS (1 .. 60) secretly poured from the spring into one JAR now,", () -> {
            JarsThatLeak none = Check.with("60/0,1,0,0");
            none.seen(0, 0, 0);
            secret(none, 0);
            none.forget();
            none.seen(0, 0, 1);
            secret(none, 1, 0, 1);
            none.forget();
            none.seen(0, 0, 60);
            secret(none, 1, 0, 60);
            Twins.idleButRow("secret()", Twins::rich, x -> x.secret(), 0);
            secret(new JarsThatLeak(), 0);
        });
        Edges.edge("as many as it still HOLDS at most,", () -> {
            secret(Check.with("60/60,1,0,0"), 0);
            secret(Check.with("60/59,1,0,0"), 1, 0, 1);
            secret(Check.with("60/0,1,0,0"), 60, 0, 1);
            secret(Check.with("1/0,1,0,0"), 1, 0, 1);
            JarsThatLeak over = Check.with("9/5,1,0,0");
            over.seen(0, 0, 10);
            secret(over, 0);
        });
        Edges.edge("by which all that was seen would be so: in how many ways (JAR, how many);", () -> {
            JarsThatLeak nine = Check.with("60/0,1,0,0;60/0,1,0,0;60/0,1,0,0;60/0,1,0,0;60/0,1,0,0;60/0,1,0,0;60/0,1,0,0");
            Check.town(nine, "60/0,1,0,0;60/0,1,0,0");
            secret(nine, 540, 0, 1);
            nine.seen(8, 1, 59);
            secret(nine, 1, 8, 60);
            nine.seen(8, 0, 60);
            secret(nine, 1, 8, 60);
            nine.seen(0, 0, 1);
            secret(nine, 0);
            JarsThatLeak far = Check.losing(200);
            far.seen(0, 200, 1);
            // one more in jar 3 is there at the end; the others are full
            secret(far, 1, 3, 1);
        });
        Edges.edge("the ROW: the first way (JAR, then how many; none without).", () -> {
            secret(Check.with("9/9,1,0,0;9/9,1,0,0;9/8,1,0,0"), 1, 2, 1);
            secret(Check.with("9/9,1,0,0;9/7,1,0,0;9/7,1,0,0"), 4, 1, 1);
            JarsThatLeak x = Check.with("9/5,9,0,0");
            x.seen(0, 0, 8);
            secret(x, 1, 0, 3);
            x.seen(0, 0, 9);
            secret(x, 0);
        });
    }
}
