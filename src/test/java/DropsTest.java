/** Promises 32 to 38: whose drops. */
public final class DropsTest {
    public static void main(String[] args) {
        promise32();
        promise33();
        promise34();
        promise35();
        promise36();
        promise36Wax();
        promise37();
        promise38();
        Check.finish();
    }

    /** Jar 0 has 1,1,6,6,6,3; jar 1 has 3,3; jar 2 has none. */
    private static JarsThatLeak mixed() {
        JarsThatLeak x = Check.with("9/2,1,1,1;9/3,2,3,5>0;9/0,1,5,9>1");
        x.spring(0, 6, 3);
        x.pour(1, 0, 1);
        return x;
    }

    private static void promise32() {
        JarsThatLeak x = mixed();
        int[] want = {0, 2, 0, 1, 0, 0, 3};
        for (int origin = 0; origin < 7; origin++) {
            Check.due("share(0, " + origin + ")", x.share(0, origin), want[origin]);
        }
        Check.due("share(2, 5)", x.share(2, 5), 0);
        int[][] wrong = {{3, 0}, {-1, 0}, {0, -1}, {0, 7}};
        for (int[] w : wrong) {
            Check.due("share " + w[0] + " " + w[1], x.share(w[0], w[1]), -1);
        }
    }

    private static void promise33() {
        JarsThatLeak x = mixed();
        String before = Check.stateText(x);
        Check.due("cup(0, 3)", x.cup(0, 3), 3);
        Check.row(x, "cup(0, 3)", 0, 2, 0, 0, 0, 0, 1);
        Check.due("cup(0, 60)", x.cup(0, 60), 6);
        Check.row(x, "cup(0, 60)", 0, 2, 0, 1, 0, 0, 3);
        Check.due("cup(0, 0)", x.cup(0, 0), 0);
        Check.row(x, "cup(0, 0)", 0, 0, 0, 0, 0, 0, 0);
        Check.due("cup(2, 5)", x.cup(2, 5), 0);
        int[][] wrong = {{3, 0}, {-1, 0}, {0, -1}, {0, 61}};
        for (int[] w : wrong) {
            Check.due("cup " + w[0] + " " + w[1], x.cup(w[0], w[1]), -1);
        }
        Check.dueText("nothing changes", Check.stateText(x), before);
    }

    private static void promise34() {
        JarsThatLeak x = mixed();
        Check.due("spread(3)", x.spread(3), 3);
        Check.row(x, "spread(3)", 1, 2, 3);
        x.pour(1, 2, 1);
        Check.due("spread(3) of equal ones", x.spread(3), 3);
        Check.row(x, "spread(3) of equal ones", 0, 1, 7);
        Check.due("spread(6)", x.spread(6), 3);
        Check.row(x, "spread(6)", 0, 3, 1);
        Check.due("spread(7)", x.spread(7), -1);
        Check.due("spread(-1)", x.spread(-1), -1);
        Check.row(x, "refused calls leave the row", 0, 3, 1);
        Check.due("spread(0)", x.spread(0), 0);
        Check.row(x, "spread(0)");
    }

    private static void promise35() {
        JarsThatLeak x = Check.with("9/2,1,1,1;9/3,2,3,5>0;9/4,1,5,9>1");
        Check.due("there now", x.comes(0, 1), 0);
        Check.due("of the next", x.comes(0, 3), 1);
        // jar 1 has 3,3,3: two go, 3,5 is left: they go together
        Check.due("of the last", x.comes(0, 5), 2);
        Check.due("never up", x.comes(1, 1), -2);
        Check.due("of none", x.comes(0, 0), -2);
        x.spring(2, 0, 1);
        Check.due("behind four others", x.comes(1, 0), 5);
        Check.due("and further down", x.comes(0, 0), 6);
        Check.due("nothing changes", x.count(1), 0);
        int[][] wrong = {{3, 0}, {-1, 0}, {0, -1}, {0, 7}};
        for (int[] w : wrong) {
            Check.due("comes " + w[0] + " " + w[1], x.comes(w[0], w[1]), -1);
        }
        x.wax(2, 90);
        Check.due("wax is waited for", x.comes(0, 0), 96);
        JarsThatLeak far = Check.with("60/9,1,0,0;60/60,1,1,1>0;60/60,1,1,2>1;60/60,1,1,3>2;60/18,1,1,4>3");
        far.spring(4, 6, 2);
        // a drop goes out of jar 0's neighbour behind 60 + 60 + 60 + 18 others
        Check.due("at bell 199", far.comes(0, 6), 199);
        JarsThatLeak further = Check.with("60/9,1,0,0;60/60,1,1,1>0;60/60,1,1,2>1;60/60,1,1,3>2;60/19,1,1,4>3");
        further.spring(4, 6, 2);
        Check.due("at bell 200", further.comes(0, 6), 200);
        JarsThatLeak over = Check.with("60/9,1,0,0;60/60,1,1,1>0;60/60,1,1,2>1;60/60,1,1,3>2;60/20,1,1,4>3");
        over.spring(4, 6, 2);
        Check.due("at bell 201", over.comes(0, 6), -2);
    }

    private static void promise36() {
        JarsThatLeak x = Check.with("5/2,0,1,1;9/3,1,3,5>0;9/4,1,5,9>1");
        String before = Check.stateText(x);
        // room for three in jar 0: jar 1's three come first
        Check.due("marks(0)", x.marks(0), 0);
        Check.row(x, "marks(0)", 2, 0, 0);
        Check.due("marks(1)", x.marks(1), 0);
        Check.row(x, "marks(1)", 3, 0, 0);
        Check.due("marks(2)", x.marks(2), 4);
        Check.row(x, "marks(2)", 0, 0, 0);
        Check.due("marks(3)", x.marks(3), -1);
        Check.due("marks(-1)", x.marks(-1), -1);
        Check.row(x, "refused calls leave the row", 0, 0, 0);
        Check.dueText("nothing changes", Check.stateText(x), before);
        x.bells(5);
        Check.due("later, of those that are in it now", x.marks(1), 2);
        Check.row(x, "later", 0, 0, 0);
        JarsThatLeak few = Check.with("5/2,0,1,1;9/3,1,3,5>0;9/4,0,5,9>1;9/4,1,5,9>1");
        few.hole(0, 0);
        Check.due("some of each", few.marks(3), 4);
        Check.row(few, "some of each", 0, 0, 0, 0);
        Check.due("one without a hole", few.marks(2), 0);
        Check.row(few, "one without a hole", 0, 0, 4, 0);
    }

    private static void promise36Wax() {
        JarsThatLeak x = Check.with("5/2,0,1,1;9/3,1,3,5>0;9/3,1,5,9>0");
        Check.due("jar 1 comes ahead of jar 2", x.marks(2), 2);
        Check.row(x, "jar 1 ahead of jar 2", 1, 0, 0);
        x.wax(1, 9);
        Check.due("wax turns it", x.marks(2), 0);
        Check.row(x, "wax turns it", 3, 0, 0);
        Check.due("wax gone by", x.marks(1), 3);
        Check.row(x, "wax gone by", 0, 0, 0);
    }

    private static void promise37() {
        JarsThatLeak x = mixed();
        x.bells(1);
        // jar 0: 1,6,6,6,3,3,3; jar 1 and 2 are empty
        Check.due("tax(0)", x.tax(0), 0);
        Check.row(x, "tax(0)", 0, 0, 0, 0, 0, 0, 0);
        Check.due("tax(3)", x.tax(3), 3);
        Check.row(x, "tax(3)", 0, 1, 0, 0, 0, 0, 2);
        Check.due("tax(200)", x.tax(200), 7);
        Check.row(x, "tax(200)", 0, 1, 0, 3, 0, 0, 3);
        Check.due("tax(201)", x.tax(201), -1);
        Check.due("tax(-1)", x.tax(-1), -1);
        Check.row(x, "refused calls leave the row", 0, 1, 0, 3, 0, 0, 3);
        Check.due("nothing changes", x.count(2), 1);
        JarsThatLeak over = Check.with("2/2,1,1,1;9/3,3,3,5>0");
        Check.due("what flows over, too", over.tax(1), 3);
        Check.row(over, "what flows over", 0, 1, 0, 2, 0, 0, 0);
        over.wax(1, 4);
        Check.due("wax", over.tax(5), 3);
        Check.row(over, "wax", 0, 2, 0, 1, 0, 0, 0);
    }

    private static void promise38() {
        JarsThatLeak x = mixed();
        int[] want = {1, 1, 6, 6, 6, 3, -1};
        for (int k = 0; k < want.length; k++) {
            Check.due("drop(0, " + k + ")", x.drop(0, k), want[k]);
        }
        int[][] wrong = {{3, 0}, {-1, 0}, {0, -1}, {2, 0}, {0, Integer.MAX_VALUE}, {0, Integer.MIN_VALUE}};
        for (int[] w : wrong) {
            Check.due("drop " + w[0] + " " + w[1], x.drop(w[0], w[1]), -1);
        }
        JarsThatLeak round = Check.with("60/58,9,1,1");
        for (int i = 0; i < 30; i++) {
            round.bells(1);
            round.spring(0, i % 7, 9);
        }
        Check.due("the oldest of many", round.drop(0, 0), 23 % 7);
        Check.due("the latest of many", round.drop(0, 57), 29 % 7);
        Check.due("none behind", round.drop(0, 58), -1);
    }
}
