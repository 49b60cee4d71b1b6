/** Promises 10 to 17: water. */
public final class WaterTest {
    public static void main(String[] args) {
        promise10();
        promise11();
        promise12();
        promise13();
        promise13Order();
        promise14();
        promise14Rest();
        promise15();
        promise16Signs();
        promise16Steps();
        promise17();
        Check.finish();
    }

    private static void promise10() {
        JarsThatLeak x = Check.with("9/5,1,2,3");
        Check.due("spring(0, 6, 3)", x.spring(0, 6, 3), 3);
        Check.due("spring(0, 0, 60)", x.spring(0, 0, 60), 1);
        Check.due("spring into a full one", x.spring(0, 3, 1), 0);
        Check.dueText("the drops, the oldest first", Check.jarText(x, 0), "9 9 1 2 3 -1 0 :222226660");
        Check.due("the others are not lost", x.count(2), 0);
        Check.due("all three can be undone", x.count(4), 3);
        int[][] wrong = {{1, 0, 1}, {-1, 0, 1}, {0, 7, 1}, {0, -1, 1}, {0, 0, 0}, {0, 0, 61}, {0, 0, -5}};
        for (int[] w : wrong) {
            Check.due("spring " + w[0] + " " + w[1] + " " + w[2], x.spring(w[0], w[1], w[2]), -1);
        }
        Check.due("refused ones can't be undone", x.count(4), 3);
    }

    private static void promise11() {
        JarsThatLeak x = Check.with("9/5,1,2,3;9/4,0,1,3;6/0,0,2,0;d2>1*4;d1>2*3");
        x.spring(0, 6, 2);
        Check.due("pour(0, 1, 3)", x.pour(0, 1, 3), 3);
        Check.dueText("the oldest go first", Check.jarText(x, 0), "4 9 1 2 3 -1 0 :2266");
        Check.dueText("they come behind", Check.jarText(x, 1), "7 9 0 1 3 -1 0 :1111222");
        Check.due("the debt is less", x.owes(2, 1), 1);
        Check.due("the other debt is as it was", x.owes(1, 2), 3);
        Check.due("pour(0, 1, 2)", x.pour(0, 1, 2), 2);
        Check.due("0 at least", x.owes(2, 1), 0);
        Check.due("not as many, nor as much room", x.pour(0, 1, 3), -2);
        Check.due("no room", x.pour(0, 1, 1), -3);
        Check.due("too many by far", x.pour(0, 1, Integer.MAX_VALUE), -2);
        Check.due("of an empty one", x.pour(2, 0, 1), -2);
        int[][] wrong = {{0, 0, 1}, {0, 3, 1}, {3, 0, 1}, {-1, 0, 1}, {0, -1, 1}, {0, 1, 0}, {0, 1, -1}};
        for (int[] w : wrong) {
            Check.due("pour " + w[0] + " " + w[1] + " " + w[2], x.pour(w[0], w[1], w[2]), -1);
        }
        Check.due("only what was poured can be undone", x.count(4), 3);
        Check.due("between JARS of one OWNER", x.pour(0, 2, 1), 1);
        Check.due("no debt is paid", x.count(8), 3);
        Check.due("back", x.pour(1, 2, 5), 5);
        Check.due("the other debt is paid", x.owes(1, 2), 0);
        Check.due("nothing is lost", x.count(2), 0);
    }

    private static void promise12() {
        JarsThatLeak x = Check.with("9/5,2,0,3;9/5,1,1,3");
        int[][] wrong = {{2, 1}, {-1, 1}, {0, 0}, {0, 100}, {0, -1}};
        for (int[] w : wrong) {
            Check.due("wax " + w[0] + " " + w[1], x.wax(w[0], w[1]), false);
        }
        Check.due("wax(0, 2)", x.wax(0, 2), true);
        Check.due("it is there", x.jar(0, 6), 2);
        Check.due("once in a BELL", x.wax(0, 2), false);
        Check.due("another JAR neither", x.wax(1, 2), false);
        x.bells(0);
        Check.due("no BELL has gone by", x.wax(1, 2), false);
        x.bells(1);
        Check.due("1 less", x.jar(0, 6), 1);
        Check.due("what it has counts no more", x.wax(0, 1), true);
        Check.due("so", x.jar(0, 6), 1);
        Check.due("it stopped the hole", x.jar(0, 0), 5);
        x.bells(1);
        Check.due("it stops it this BELL", x.jar(0, 0), 5);
        x.bells(1);
        Check.due("it is gone", x.jar(0, 0), 3);
        Check.due("0 at least", x.jar(0, 6), 0);
        Check.law(x, "j");
        Check.due("the law is 0 for 0", x.wax(0, 1), false);
        Check.due("and 1 for 1", x.wax(1, 99), true);
        x.bells(1);
        Check.law(x, "j-2");
        Check.due("below 0 is not 0", x.wax(1, 1), true);
        x.undo();
        Check.due("undone: no wax was set this BELL", x.wax(0, 3), true);
        Check.due("now it was", x.wax(1, 3), false);
    }

    private static void promise13() {
        JarsThatLeak x = Check.with("9/2,3,1,3;4/3,2,2,5>0;9/7,4,3,6>1");
        Check.due("bells(-1)", x.bells(-1), -1);
        Check.due("bells(201)", x.bells(201), -1);
        Check.due("the row is as it was", x.count(6), 0);
        Check.due("bells(1)", x.bells(1), 3);
        Check.row(x, "bells(1)", 0, 9);
        Check.dueText("jar 0 has what came", Check.jarText(x, 0), "2 9 3 1 3 -1 0 :22");
        Check.dueText("jar 1 held three more", Check.jarText(x, 1), "4 4 2 2 5 0 0 :2333");
        Check.dueText("jar 2", Check.jarText(x, 2), "3 9 4 3 6 1 0 :333");
        Check.due("what is lost in all", x.count(2), 3);
        Check.due("bells", x.count(1), 1);
        Check.due("bells(200)", x.bells(200), 9);
        Check.row(x, "bells(200)", 3, 0);
        Check.due("bells(0)", x.bells(0), 0);
        Check.row(x, "bells(0)", 3, 0);
        Check.due("bells in all", x.count(1), 201);
        Check.due("lost in all", x.count(2), 12);
        JarsThatLeak none = new JarsThatLeak();
        Check.due("bells without jars", none.bells(3), 0);
        Check.row(none, "bells without jars", 0, 0);
    }

    /** Two jars above one that has room for few: by numbers, whoever is higher. */
    private static void promise13Order() {
        JarsThatLeak x = Check.with("3/3,1,0,0;5/2,2,1,1>0;5/2,2,2,9>0");
        Check.due("one lost of jar 0, three of 2 and 1", x.bells(1), 4);
        Check.dueText("jar 0 let go first, then jar 1's came", Check.jarText(x, 0), "3 3 1 0 0 -1 0 :001");
        JarsThatLeak up = Check.with("9/9,9,0,0;60/60,9,1,9>0;60/0,0,2,1");
        up.below(0, -1);
        up.wax(1, 1);
        Check.due("wax on one does not stop another", up.bells(1), 9);
        up.bells(1);
        Check.dueText("drops that went lie apart from those that come", Check.jarText(up, 0), "9 9 9 0 0 -1 0 :111111111");
        Check.due("all of them go on", up.bells(1), 9);
        Check.dueText("and others come", Check.jarText(up, 0), "9 9 9 0 0 -1 0 :111111111");
    }

    private static void promise14() {
        JarsThatLeak x = Check.with("9/5,2,0,3;9/4,1,1,1;d0>1*3");
        Check.due("nothing to undo", x.undo(), -1);
        String[] states = new String[5];
        states[0] = Check.stateText(x);
        x.pour(0, 1, 2);
        states[1] = Check.stateText(x);
        x.spring(1, 6, 3);
        states[2] = Check.stateText(x);
        x.wax(0, 7);
        states[3] = Check.stateText(x);
        x.bells(3);
        x.bells(0);
        x.bells(-1);
        x.pour(0, 0, 1);
        x.pour(0, 1, 50);
        x.spring(0, 7, 1);
        x.wax(0, 0);
        for (int left = 3; left >= 0; left--) {
            Check.due("undo to " + left, x.undo(), left);
            Check.dueText("all is as ahead of it, " + left, Check.stateText(x), states[left]);
        }
        Check.due("none is left", x.undo(), -1);
        for (int i = 1; i <= 15; i++) {
            x.bells(1);
            Check.due("12 are kept", x.count(4), Math.min(12, i));
        }
        for (int left = 11; left >= 0; left--) {
            Check.due("undo of many", x.undo(), left);
        }
        Check.due("no more than 12", x.undo(), -1);
        Check.due("three are not undone", x.count(1), 3);
    }

    private static void promise14Rest() {
        JarsThatLeak x = Check.with("9/5,2,0,3;9/4,1,1,1");
        x.wax(0, 5);
        x.bells(1);
        x.undo();
        Check.due("back in the BELL in which wax was set", x.wax(1, 1), false);
        x.undo();
        Check.due("back ahead of it", x.wax(1, 1), true);
        x.hole(0, 7);
        x.below(0, 1);
        x.undo();
        Check.due("HOLES stay", x.jar(0, 2), 7);
        Check.due("JARS BELOW stay", x.jar(0, 5), 1);
        x.keep(1);
        x.bells(2);
        Check.due("again() that is refused", x.again(0), false);
        Check.due("forgets nothing", x.count(4), 1);
        Check.due("again()", x.again(1), true);
        Check.due("forgets", x.count(4), 0);
        x.bells(1);
        x.settle();
        Check.due("settle() forgets", x.undo(), -1);
    }

    private static void promise15() {
        JarsThatLeak x = Check.with("9/5,2,0,3;9/4,1,1,1;20/0,0,2,0;d0>1*3;d1>2*9");
        String before = Check.stateText(x);
        Check.due("judge(4, ..)", x.judge(4, 101, 101, 101), -1);
        Check.due("judge(-1, ..)", x.judge(-1, 101, 101, 101), -1);
        Check.due("no row", x.count(6), 0);
        Check.due("judge(0, ..)", x.judge(0, 7, 7, 7), -2);
        Check.row(x, "judge(0)", 0, 12);
        Check.due("one", x.judge(1, 102, 7, 7), -2);
        Check.row(x, "one", 2, 10);
        Check.due("three", x.judge(3, 105, 1209, 2101), -2);
        Check.row(x, "three", 15, 0);
        Check.due("the second needs the first", x.judge(2, 1209, 105, 0), 0);
        Check.row(x, "the second needs the first", 0, 12);
        Check.due("there and back", x.judge(3, 1204, 2104, 105), -2);
        Check.row(x, "there and back", 13, 5);
        Check.due("no room", Check.with("9/9,2,0,3;9/9,1,1,1").judge(1, 101, 0, 0), 0);
        Check.due("the third", x.judge(3, 105, 2001, 7), 1);
        Check.row(x, "the third", 5, 9);
        int[] wrong = {0, 100, 1, 1101, 3001, 301, 9001, 10101, -1, -102, -1000, Integer.MIN_VALUE, Integer.MAX_VALUE,
            110, 106};
        for (int w : wrong) {
            Check.due("judge of " + w, x.judge(1, w, 0, 0), 0);
            Check.due("judge of " + w + " as the third", x.judge(3, 101, 101, w), 2);
            Check.row(x, "judge of " + w, 2, 10);
        }
        Check.dueText("nothing changes", Check.stateText(x), before);
    }

    private static int flaw(String text) {
        JarsThatLeak x = Check.with("9/5,2,0,3;9/4,1,1,1");
        String before = Check.stateText(x);
        int answer = Check.order(x, text);
        Check.due("the text is gone", x.count(7), 0);
        Check.dueText("nothing is done", Check.stateText(x), before);
        Check.due("no row", x.count(6), 0);
        return -1 - answer;
    }

    private static void promise16Signs() {
        String[] cutShort = {"p", "p0", "p0>", "p0>1", "p0>1*", "b", "w", "w0", "w0*", "s", "s0", "s0*", "b1;", "s0*1;b"};
        for (String text : cutShort) {
            Check.due(text + " ends too early", flaw(text), text.length());
        }
        String[] wrongAtLast = {"x", ";", "1", "pp", "p0*", "p01", "p0>x", "p0>1>", "p0>11", "p0>1*x", "p0>1*123", "bx",
            "b1b", "b123", "wx", "w0>", "w00", "w0*123", "s0>", "sx", "s0*123", "b1;;", "b1,", "b-", "b1;x", " ", "B"};
        for (String text : wrongAtLast) {
            Check.due(text + ": its last sign", flaw(text), text.length() - 1);
        }
        String sixty = "b0;b0;b0;b0;b0;b0;b0;b0;b0;b0;b0;b0;b0;b0;b0;b0;b0;b0;b0;b00";
        Check.due("60 signs", Check.order(new JarsThatLeak(), sixty), 20);
        Check.due("61 signs, the first 60 could end", flaw(sixty + ";b0"), 60);
        Check.due("61 signs, the first 60 could go on", flaw(sixty.substring(0, 59) + ";b0"), 60);
        Check.due("61 signs, a flaw behind", flaw(sixty + "x"), 60);
        Check.due("a flaw in the first 60", flaw(sixty.substring(0, 59) + "x;b0"), 59);
        Check.due("60 signs that end too early", flaw(sixty.substring(0, 59) + ";"), 60);
        Check.due("JARS that are not there are no flaw", Check.order(new JarsThatLeak(), "p8>9*1;w9*1"), 0);
    }

    private static void promise16Steps() {
        JarsThatLeak x = Check.with("9/5,2,0,3;9/4,1,1,1;d0>1*3");
        Check.due("an empty order", Check.order(x, ""), 0);
        Check.row(x, "an empty order", 0, 0);
        Check.due("p, s, w, b", Check.order(x, "p0>1*2;s0*3;w1*4;b02"), 4);
        Check.row(x, "p, s, w, b", 4, 0);
        Check.dueText("jar 0", Check.jarText(x, 0), "2 9 2 0 3 -1 0 :66");
        Check.dueText("jar 1", Check.jarText(x, 1), "6 9 1 1 1 -1 2 :111100");
        Check.due("the debt", x.owes(0, 1), 1);
        Check.due("each can be undone", x.count(4), 4);
        Check.due("till one is refused", Check.order(x, "b1;w1*9;w0*9;b9"), 2);
        Check.row(x, "till one is refused", 2, 1);
        Check.due("what was done stays", x.jar(1, 6), 9);
        Check.due("what was not is not", x.count(1), 3);
        String[] refused = {"p0>0*1", "p0>1*0", "p0>9*1", "p9>0*1", "p0>1*9", "p1>0*10", "w9*1", "w0*0", "s9*1", "s0*0",
            "s0*61"};
        for (String step : refused) {
            Check.due(step + " is refused", Check.order(x, "b0;" + step + ";b0"), 1);
            Check.row(x, step, 0, 1);
        }
        JarsThatLeak full = Check.with("9/9,2,0,3;9/9,1,1,1");
        Check.due("no room is refused, too", Check.order(full, "p0>1*1;b1"), 0);
        Check.due("a spring that brings nothing is not", Check.order(full, "s0*1;b1"), 2);
        Check.row(full, "a spring that brings nothing", 3, 0);
        Check.due("b0 is done, though it can't be undone", Check.order(full, "b0;b1;b0"), 3);
        Check.due("what can be undone", full.count(4), 3);
        Check.law(full, "0");
        Check.due("the law is looked at", Check.order(full, "w0*1"), 0);
    }

    private static void promise17() {
        JarsThatLeak x = Check.with("d0>5*1;d5>0*2;d3>4*999");
        Check.due("owes(0, 5)", x.owes(0, 5), 1);
        Check.due("owes(5, 0)", x.owes(5, 0), 2);
        Check.due("owes(3, 4)", x.owes(3, 4), 999);
        Check.due("owes(4, 3)", x.owes(4, 3), 0);
        int[][] wrong = {{0, 0}, {5, 5}, {6, 0}, {0, 6}, {-1, 0}, {0, -1}};
        for (int[] w : wrong) {
            Check.due("owes " + w[0] + " " + w[1], x.owes(w[0], w[1]), -1);
        }
    }
}
