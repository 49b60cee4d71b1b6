/** Promises 23 to 31: what has to be done. */
public final class ToDoTest {
    public static void main(String[] args) {
        promise23();
        promise24();
        promise25();
        promise26();
        promise27();
        promise27Rows();
        promise27Many();
        promise28();
        promise29And30();
        promise31();
        promise31Edges();
        Check.finish();
    }

    private static void promise23() {
        JarsThatLeak x = Check.with("9/1,1,1,1;9/3,3,2,5>0");
        String before = Check.stateText(x);
        Check.due("as it is", x.least(0, 0, 3, 1), 0);
        Check.row(x, "as it is", 1);
        Check.due("into the same", x.least(0, 0, 5, 1), 2);
        Check.row(x, "into the same", 1);
        Check.due("into the one above", x.least(1, 0, 5, 2), 3);
        Check.row(x, "into the one above", 2);
        Check.due("all it holds", x.least(0, 0, 9, 0), 8);
        Check.row(x, "all it holds", 0);
        Check.due("not by all it holds", x.least(1, 0, 9, 2), -2);
        Check.row(x, "which leaves the row", 0);
        Check.due("into one below", x.least(0, 1, 4, 0), -2);
        Check.due("v of 0", x.least(1, 0, 0, 200), 0);
        Check.row(x, "v of 0", 4);
        Check.due("v of 60", x.least(0, 0, 60, 0), -2);
        int[][] wrong = {{2, 0, 1, 1}, {0, 2, 1, 1}, {-1, 0, 1, 1}, {0, -1, 1, 1}, {0, 0, -1, 1}, {0, 0, 61, 1},
            {0, 0, 1, -1}, {0, 0, 1, 201}};
        for (int[] w : wrong) {
            Check.due("least of a wrong number", x.least(w[0], w[1], w[2], w[3]), -1);
        }
        Check.dueText("nothing changes", Check.stateText(x), before);
        x.bells(1);
        Check.due("lost from now on", x.least(0, 0, 3, 1), 1);
        Check.row(x, "lost from now on", 1);
    }

    private static void promise24() {
        JarsThatLeak x = Check.with("9/4,2,1,1;9/6,1,2,5>0;9/3,0,2,5");
        Check.law(x, "0");
        Check.due("none has to be", x.stops(0, 3, 1), 0);
        Check.row(x, "none has to be", 0, 3);
        Check.due("its own", x.stops(0, 5, 1), 1);
        Check.row(x, "its own", 1, 5);
        Check.due("its own, later", x.stops(1, 6, 3), 1);
        Check.row(x, "its own, later", 2, 6);
        Check.due("none do", x.stops(0, 8, 3), -2);
        Check.row(x, "which leaves the row", 2, 6);
        Check.due("one without a hole", x.stops(2, 4, 1), -2);
        Check.due("now", x.stops(0, 4, 0), 0);
        Check.row(x, "now", 0, 4);
        Check.due("more now", x.stops(0, 5, 0), -2);
        int[][] wrong = {{3, 1, 1}, {-1, 1, 1}, {0, -1, 1}, {0, 61, 1}, {0, 1, -1}, {0, 1, 201}};
        for (int[] w : wrong) {
            Check.due("stops of a wrong number", x.stops(w[0], w[1], w[2]), -1);
        }
        Check.law(x, "");
        x.wax(0, 2);
        Check.due("wax there is", x.stops(0, 6, 2), 0);
        Check.row(x, "wax there is", 0, 6);
        Check.due("wax there is, but not as long", x.stops(0, 7, 3), 1);
        Check.row(x, "wax there is, but not as long", 1, 7);
        Check.due("nothing changes", x.jar(0, 6), 2);
    }

    private static void promise25() {
        // jar 0 loses 2 a bell, jar 1 lets 1 down on it, jar 2 loses 1, jar 3 has no hole
        JarsThatLeak x = Check.with("9/6,2,1,1;9/6,1,2,5>0;9/6,1,2,5;9/9,0,0,0");
        Check.law(x, "0");
        Check.due("none", x.saves(0, 3), 9);
        Check.row(x, "none", 0);
        Check.due("one", x.saves(1, 3), 3);
        Check.row(x, "one", 1);
        Check.due("two", x.saves(2, 3), 0);
        Check.row(x, "two", 5);
        Check.due("no more than are needed", x.saves(9, 3), 0);
        Check.row(x, "no more than are needed", 5);
        Check.due("now", x.saves(9, 0), 0);
        Check.row(x, "now", 0);
        x.spring(0, 0, 3);
        Check.due("what flows over is lost, too", x.saves(1, 3), 6);
        Check.row(x, "of as little the least", 1);
        Check.due("a full one needs the one above stopped", x.saves(2, 3), 3);
        Check.row(x, "of as few the least", 3);
        Check.due("all three", x.saves(3, 3), 0);
        Check.row(x, "all three", 7);
        int[][] wrong = {{-1, 1}, {10, 1}, {1, -1}, {1, 201}};
        for (int[] w : wrong) {
            Check.due("saves of a wrong number", x.saves(w[0], w[1]), -1);
        }
        Check.row(x, "refused calls leave the row", 7);
        JarsThatLeak none = new JarsThatLeak();
        Check.due("without jars", none.saves(9, 200), 0);
        Check.row(none, "without jars", 0);
    }

    private static void promise26() {
        JarsThatLeak x = Check.with("5/3,0,0,0;9/0,1,0,0;9/0,0,0,0;9/9,1,0,4>0;9/0,0,0,4");
        Check.due("now", x.place(3, 0), 0);
        Check.row(x, "now: none", -1);
        Check.due("two bells", x.place(3, 2), 0);
        Check.row(x, "two bells: the first", 0);
        Check.due("four bells", x.place(3, 4), 0);
        Check.row(x, "four bells: one with room and no hole", 2);
        Check.due("of the lowest", x.place(1, 5), 3);
        Check.row(x, "of the lowest: none", -1);
        Check.due("the JAR BELOW is as it was", x.jar(3, 5), 0);
        x.bells(3);
        Check.due("from now on", x.place(4, 6), x.tax(6));
        int[][] wrong = {{5, 1}, {-1, 1}, {0, -1}, {0, 201}};
        for (int[] w : wrong) {
            Check.due("place of a wrong number", x.place(w[0], w[1]), -1);
        }
    }

    private static void promise27() {
        JarsThatLeak x = Check.with("9/5,1,0,0;9/5,1,1,0");
        Check.due("no debts", x.payoff(), 0);
        Check.row(x, "no debts");
        Check.town(x, "d0>1*4");
        String before = Check.stateText(x);
        Check.due("one", x.payoff(), 1);
        Check.row(x, "one", 104);
        Check.town(x, "d0>1*5");
        Check.due("more than there is room for", x.payoff(), -2);
        Check.row(x, "which leaves the row", 104);
        Check.town(x, "d0>1*4;d1>0*9");
        Check.due("back and forth, one too many", x.payoff(), -2);
        Check.town(x, "d1>0*8");
        Check.due("back and forth", x.payoff(), 2);
        Check.row(x, "back and forth", 104, 1008);
        Check.town(x, "d2>0*1");
        Check.due("an OWNER without a jar", x.payoff(), -2);
        Check.town(x, "d2>0*0;d1>0*0");
        Check.dueText("nothing changes", Check.stateText(x), before);
    }

    private static void promise27Rows() {
        JarsThatLeak x = Check.with("9/2,1,0,0;9/3,1,0,0;9/9,1,0,0;9/7,1,1,0;4/0,1,1,0;d0>1*4");
        Check.due("of as few the least row", x.payoff(), 1);
        Check.row(x, "of as few the least row", 2404);
        Check.town(x, "d0>1*5");
        Check.due("two", x.payoff(), 2);
        // jar 0 has 2 and jar 1 has 3: both fill to 5, into 3 first, where room is 2
        Check.row(x, "two", 302, 1403);
        Check.town(x, "d0>1*7");
        Check.due("more than there is room for", x.payoff(), -2);
        JarsThatLeak y = Check.with("9/3,1,0,0;9/0,1,1,0;9/0,1,2,0;d0>1*3;d1>2*3;d2>0*3");
        Check.due("three, one behind the other", y.payoff(), 3);
        Check.row(y, "three", 103, 1203, 2003);
        JarsThatLeak late = Check.with("9/3,1,0,0;9/2,1,1,0;9/0,1,2,0;d0>1*3;d1>2*5");
        Check.due("later numbers first, if that is fewer", late.payoff(), 2);
        Check.row(late, "later numbers first", 103, 1205);
    }

    private static void promise27Many() {
        // two debts of 54 there and back between jars that hold 9: twelve pourings, of which ten are told
        JarsThatLeak x = Check.with("9/9,1,0,0;9/0,1,1,0;d0>1*54;d1>0*54");
        Check.due("twelve", x.payoff(), 12);
        Check.row(x, "ten at most", 109, 1009, 109, 1009, 109, 1009, 109, 1009, 109, 1009);
        JarsThatLeak many = Check.with("60/59,1,0,0;59/58,1,0,0;58/57,1,0,0;57/56,1,0,0");
        Check.town(many, "60/31,1,1,0;59/22,1,1,0;58/13,1,1,0;57/4,1,1,0;d0>1*150;d1>0*140");
        Check.due("too many states", many.payoff(), -3);
        Check.due("no row", many.count(6), 0);
        Check.town(many, "d0>1*1;d1>0*0");
        Check.due("afterwards", many.payoff(), 1);
        Check.row(many, "afterwards", 401);
        JarsThatLeak easy = Check.with("60/59,1,0,0;59/58,1,0,0;58/57,1,0,0;57/56,1,0,0");
        Check.town(easy, "60/31,1,1,0;59/22,1,1,0;58/13,1,1,0;57/4,1,1,0;d0>1*53;d1>0*31");
        Check.due("all are counted first, even if few would do", easy.payoff(), -3);
        JarsThatLeak just = Check.with("3/1,0,0,0;7/4,0,1,0;13/2,0,1,0;6/4,0,1,0;d0>1*27;d1>0*38");
        Check.due("3000 states, the one there is counted", just.payoff(), -2);
        JarsThatLeak over = Check.with("7/7,0,1,0;8/7,0,0,0;15/12,0,1,0;13/2,0,1,0;d0>1*38;d1>0*28");
        Check.due("3001 states", over.payoff(), -3);
    }

    private static void promise28() {
        JarsThatLeak x = Check.with("9/5,1,0,0;9/5,1,1,0;4/3,0,0,2;8/7,0,1,2;d0>1*5;d1>0*6;d2>3*1");
        Check.due("pays(0, 1)", x.pays(0, 1), 1);
        Check.row(x, "pays(0, 1)", 8, 5);
        Check.due("pays(1, 0): no room", x.pays(1, 0), 0);
        Check.row(x, "pays(1, 0)", 12, 5);
        Check.due("pays(2, 3): none has jars", x.pays(2, 3), 0);
        Check.row(x, "pays(2, 3)", 0, 0);
        Check.due("pays(3, 2): nothing owed", x.pays(3, 2), 1);
        Check.town(x, "d0>1*9");
        Check.due("not as many", x.pays(0, 1), 0);
        int[][] wrong = {{0, 0}, {6, 0}, {0, 6}, {-1, 0}, {0, -1}};
        for (int[] w : wrong) {
            Check.due("pays " + w[0] + " " + w[1], x.pays(w[0], w[1]), -1);
            Check.due("soonest " + w[0] + " " + w[1], x.soonest(w[0], w[1]), -1);
            Check.due("latest " + w[0] + " " + w[1], x.latest(w[0], w[1]), -1);
        }
        Check.row(x, "refused calls leave the row", 8, 5);
    }

    private static void promise29And30() {
        // owner 0 loses 1 a bell of 9; owner 1's jar of 9 gets room by 2 a bell
        JarsThatLeak x = Check.with("9/9,1,0,0;9/9,2,1,0;d0>1*4");
        Check.due("soonest", x.soonest(0, 1), 2);
        Check.due("latest", x.latest(0, 1), 5);
        Check.town(x, "d0>1*6");
        Check.due("soonest of 6, when both would do", x.soonest(0, 1), 3);
        Check.due("latest of 6", x.latest(0, 1), 3);
        Check.town(x, "d0>1*7");
        Check.due("soonest of 7", x.soonest(0, 1), -2);
        Check.due("latest of 7", x.latest(0, 1), -2);
        Check.due("nothing owed", x.soonest(1, 0), 0);
        Check.due("nothing owed, at the latest", x.latest(1, 0), 200);
        x.wax(0, 99);
        Check.due("with wax", x.soonest(0, 1), 4);
        Check.due("with wax, at the latest", x.latest(0, 1), 101);
        Check.due("nothing changes", x.count(1), 0);
        Check.due("no row", x.count(6), 0);
        JarsThatLeak far = Check.with("60/60,1,0,1;60/60,1,0,2>0;60/60,1,0,3>1;60/21,1,0,4>2;60/0,0,1,0;d0>1*1");
        Check.due("200 at the latest", far.latest(0, 1), 200);
        JarsThatLeak chain = Check.with("60/60,1,1,1;60/60,1,2,2>0;60/60,1,2,3>1;60/60,1,2,4>2");
        Check.town(chain, "60/19,1,2,5>3;60/9,0,0,0;d0>1*1");
        Check.due("200 is none too late", chain.soonest(0, 1), 200);
        chain.spring(4, 2, 1);
        Check.due("201 is", chain.soonest(0, 1), -2);
        Check.due("and so is the latest", chain.latest(0, 1), -2);
    }

    private static void promise31() {
        JarsThatLeak x = Check.with("9/9,1,0,0;d0>1*5;d1>0*3;d1>2*4;d2>3*9");
        x.bells(1);
        // 0>1 2, 1>2 4, 2>3 9; 0,1,2: 0>2 2, 1>2 2; 0,2,3: 0>3 2, 2>3 7; 1,2,3: 1>3 2, 2>3 5
        Check.due("settle()", x.settle(), 3);
        Check.row(x, "settle()", 21, 9);
        Check.due("0 owes 3", x.owes(0, 3), 2);
        Check.due("1 owes 3", x.owes(1, 3), 2);
        Check.due("2 owes 3", x.owes(2, 3), 5);
        Check.due("undo() forgets", x.undo(), -1);
        Check.due("settled", x.settle(), 0);
        Check.row(x, "settled", 9, 9);
        JarsThatLeak none = new JarsThatLeak();
        Check.due("without debts", none.settle(), 0);
        Check.row(none, "without debts", 0, 0);
    }

    private static void promise31Edges() {
        JarsThatLeak ring = Check.with("d0>1*5;d1>2*5;d2>0*5");
        // 0,1,2: 0>2 5 against 2>0 5: nothing is left
        Check.due("a ring", ring.settle(), 1);
        Check.row(ring, "a ring", 15, 0);
        JarsThatLeak much = Check.with("d0>1*900;d1>2*800;d0>2*500");
        Check.due("above 999", much.settle(), 1);
        Check.row(much, "above 999 is forgiven", 2200, 1099);
        Check.due("0 owes 2", much.owes(0, 2), 999);
        Check.due("0 owes 1", much.owes(0, 1), 100);
        Check.due("1 owes 2", much.owes(1, 2), 0);
        JarsThatLeak back = Check.with("d3>4*9;d4>3*9;d5>0*1");
        Check.due("two who owe as much", back.settle(), 0);
        Check.row(back, "two who owe as much", 19, 1);
        JarsThatLeak first = Check.with("d2>1*4;d1>0*3;d0>2*1;d3>2*1");
        // 0,2,1: 0>2 0, 2>1 3, 0>1 1 against 1>0 3: 1>0 2; 2,1,0: 2>1 1, 1>0 0, 2>0 2; 3,2,0: 3>2 0, 2>0 1, 3>0 1
        Check.due("the first row first", first.settle(), 3);
        Check.row(first, "the first row first", 9, 3);
        Check.due("2 owes 0", first.owes(2, 0), 1);
        Check.due("2 owes 1", first.owes(2, 1), 1);
        Check.due("3 owes 0", first.owes(3, 0), 1);
    }
}
