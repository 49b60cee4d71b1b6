/** Promises 18 to 22: how it goes on. */
public final class GoingOnTest {
    public static void main(String[] args) {
        promise18();
        promise18Wax();
        promise18Wet();
        promise19();
        promise20();
        promise21();
        promise22();
        Check.finish();
    }

    private static void promise18() {
        JarsThatLeak none = new JarsThatLeak();
        Check.due("rest() without jars", none.rest(), 0);
        Check.row(none, "rest() without jars", 0, -1);
        JarsThatLeak x = Check.with("9/4,0,0,0;9/5,2,1,1;9/9,1,2,5>1");
        String before = Check.stateText(x);
        // jar 2 lets its last go at bell 9, jar 1 lets that one go at bell 10
        Check.due("rest()", x.rest(), 10);
        Check.row(x, "rest()", 14, 1);
        Check.dueText("nothing changes", Check.stateText(x), before);
        x.bells(4);
        Check.due("from now on", x.rest(), 6);
        Check.row(x, "from now on", 14 - x.count(2), 1);
        x.bells(6);
        Check.due("at rest", x.rest(), 0);
        Check.row(x, "at rest: none that is empty was wet, now or later", 0, -1);
        JarsThatLeak full = Check.with("9/4,0,0,0;9/5,0,1,1");
        Check.due("jars without holes", full.rest(), 0);
        Check.row(full, "jars without holes", 0, -1);
    }

    private static void promise18Wax() {
        JarsThatLeak x = Check.with("9/4,2,0,0;9/0,2,0,0");
        x.wax(0, 7);
        Check.due("wax puts it off", x.rest(), 9);
        Check.row(x, "wax puts it off", 4, 0);
        x.bells(9);
        x.wax(1, 50);
        Check.due("wax on what is empty is not waited for", x.rest(), 0);
        Check.row(x, "wax on what is empty", 0, -1);
    }

    private static void promise18Wet() {
        JarsThatLeak x = Check.with("9/4,2,0,0;9/2,1,0,0;9/0,1,0,0");
        Check.due("two at once", x.rest(), 2);
        Check.row(x, "two at once: the first", 6, 0);
        JarsThatLeak kept = Check.with("9/0,0,0,0;9/9,1,0,3>0;3/1,3,0,0");
        Check.due("the one that keeps it", kept.rest(), 9);
        Check.row(kept, "is not empty then", 1, 1);
        JarsThatLeak later = Check.with("9/0,1,0,0;9/1,1,0,3>0");
        Check.due("one that gets wet later", later.rest(), 2);
        Check.row(later, "one that gets wet later", 1, 0);
    }

    private static void promise19() {
        JarsThatLeak x = Check.with("9/4,3,0,0;9/0,1,1,1;9/9,1,2,5>1;9/1,0,0,0");
        Check.due("dry(0)", x.dry(0), 2);
        Check.due("dry(1): now, though it gets wet", x.dry(1), 0);
        Check.due("dry(2)", x.dry(2), 9);
        Check.due("dry(3): never", x.dry(3), -2);
        Check.due("dry(4)", x.dry(4), -1);
        Check.due("dry(-1)", x.dry(-1), -1);
        JarsThatLeak slow = Check.with("60/60,1,0,9");
        for (int wax = 0; wax < 2; wax++) {
            slow.wax(0, 99);
            Check.due("wax of 99", slow.dry(0), 159);
            slow.bells(1);
        }
        Check.due("no row", x.count(6), 0);
        JarsThatLeak chain = Check.with("60/60,1,0,1;60/60,1,0,2>0;60/60,1,0,3>1;60/21,1,0,4>2");
        Check.due("201 bells are too many", chain.dry(0), -2);
        chain.spring(0, 0, 1);
        chain.bells(1);
        Check.due("200 are not", chain.dry(0), 200);
    }

    private static void promise20() {
        JarsThatLeak x = Check.with("9/0,1,1,1;9/9,3,2,5>0");
        Check.due("now", x.later(1, 0), 9);
        Check.due("later(0, 1)", x.later(0, 1), 3);
        Check.due("later(0, 2)", x.later(0, 2), 5);
        Check.due("later(0, 3)", x.later(0, 3), 7);
        Check.due("later(0, 10)", x.later(0, 10), 0);
        Check.due("later(1, 200)", x.later(1, 200), 0);
        int[][] wrong = {{0, -1}, {0, 201}, {2, 0}, {-1, 0}};
        for (int[] w : wrong) {
            Check.due("later " + w[0] + " " + w[1], x.later(w[0], w[1]), -1);
        }
        x.wax(1, 2);
        Check.due("wax", x.later(1, 2), 9);
        Check.due("wax gone by", x.later(1, 3), 6);
        Check.due("nothing changes", x.count(1), 0);
    }

    private static void promise21() {
        JarsThatLeak x = Check.with("9/4,1,1,1;9/9,3,2,5>0");
        Check.due("now", x.flood(0, 0), 4);
        Check.row(x, "now", 0);
        Check.due("flood(0, 1)", x.flood(0, 1), 6);
        Check.row(x, "flood(0, 1)", 1);
        Check.due("flood(0, 200)", x.flood(0, 200), 9);
        Check.row(x, "flood(0, 200)", 3);
        Check.due("flood(1, 9)", x.flood(1, 9), 9);
        Check.row(x, "flood(1, 9)", 0);
        int[][] wrong = {{0, -1}, {0, 201}, {2, 0}, {-1, 0}};
        for (int[] w : wrong) {
            Check.due("flood " + w[0] + " " + w[1], x.flood(w[0], w[1]), -1);
        }
        Check.row(x, "refused calls leave the row", 0);
    }

    private static void promise22() {
        JarsThatLeak x = Check.with("9/4,1,1,1;9/9,0,2,5>0;9/9,3,2,7>1;9/9,3,2,7>0;9/9,1,1,9");
        Check.due("above(0), holes of 0 too", x.above(0), 15);
        Check.due("above(1)", x.above(1), 6);
        Check.due("above(2)", x.above(2), 4);
        Check.due("above(4)", x.above(4), 16);
        Check.due("above(5)", x.above(5), -1);
        Check.due("above(-1)", x.above(-1), -1);
        x.below(1, -1);
        x.below(4, 2);
        Check.due("above(0) then", x.above(0), 9);
        Check.due("above(1) then", x.above(1), 22);
    }
}
