/** Promises 45 to 48: kept. */
public final class KeptTest {
    public static void main(String[] args) {
        promise45And46();
        promise46Wax();
        promise46Jars();
        promise47();
        promise48();
        Check.finish();
    }

    private static void promise45And46() {
        JarsThatLeak x = Check.with("9/5,1,0,3;9/6,2,1,5>0;d0>1*4;d1>0*3");
        Check.due("keep(2)", x.keep(2), false);
        Check.due("keep(-1)", x.keep(-1), false);
        Check.due("again(0), nothing kept", x.again(0), false);
        Check.due("again(2)", x.again(2), false);
        Check.due("again(-1)", x.again(-1), false);
        String first = Check.stateText(x);
        Check.due("keep(0)", x.keep(0), true);
        x.pour(0, 1, 2);
        x.spring(0, 6, 1);
        x.wax(1, 9);
        x.bells(2);
        x.hole(0, 7);
        x.below(1, -1);
        Check.due("keep(1)", x.keep(1), true);
        x.settle();
        String second = Check.stateText(x);
        Check.due("again(0)", x.again(0), true);
        Check.dueText("all is as it was kept", Check.stateText(x), first);
        Check.due("again(1)", x.again(1), true);
        Check.due("HOLE of it", x.jar(0, 2), 7);
        Check.due("JAR BELOW of it", x.jar(1, 5), -1);
        Check.due("WAX of it", x.jar(1, 6), 7);
        Check.due("BELLS of it", x.count(1), 2);
        Check.due("LOST of it", x.count(2), 2);
        Check.due("DEBTS of it", x.owes(0, 1) * 10 + x.owes(1, 0), 23);
        x.settle();
        Check.dueText("all else of it", Check.stateText(x), second);
        x.bells(1);
        Check.due("a second time", x.again(1), true);
        x.bells(5);
        Check.due("a third time, what was kept having changed by nothing", x.again(1), true);
        Check.due("BELLS of it still", x.count(1), 2);
        x.keep(1);
        x.bells(1);
        x.keep(1);
        x.bells(1);
        x.again(1);
        Check.due("kept anew", x.count(1), 3);
        Check.due("the other as it was", x.again(0), true);
        Check.dueText("so it is", Check.stateText(x), first);
    }

    private static void promise46Wax() {
        JarsThatLeak x = Check.with("9/5,1,0,3;9/6,2,1,5>0");
        x.wax(0, 3);
        x.keep(0);
        x.bells(1);
        x.keep(1);
        x.again(0);
        Check.due("wax was set this BELL", x.wax(1, 1), false);
        x.again(1);
        Check.due("none was set this BELL", x.wax(1, 1), true);
        Check.due("again() forgets what can be undone", x.undo(), 0);
        x.bells(2);
        x.again(1);
        Check.due("nothing can be undone", x.undo(), -1);
        x.seen(0, 0, 0);
        Check.law(x, "0");
        x.again(1);
        Check.due("what was seen stays", x.count(5), 1);
        Check.due("the law stays", x.jar(0, 7), 0);
    }

    private static void promise46Jars() {
        JarsThatLeak x = new JarsThatLeak();
        Check.due("no jars can be kept", x.keep(0), true);
        Check.town(x, "d0>1*5");
        Check.due("debts are no jars", x.again(0), true);
        Check.due("they are as they were", x.count(8), 0);
        Check.town(x, "9/5,1,0,3");
        Check.due("jars came", x.again(0), false);
        x.bells(1);
        Check.due("refused: nothing changes", x.again(0) || x.count(4) != 1 || x.count(1) != 1, false);
        x.keep(0);
        Check.town(x, "9/5,1,0,9>9");
        Check.due("a town that was refused brings none", x.again(0), true);
    }

    private static void promise47() {
        JarsThatLeak x = Check.with("9/5,1,0,3;9/6,2,1,5;d0>1*4;d1>0*3");
        x.bells(2);
        x.wax(0, 1);
        x.seen(0, 0, 0);
        x.tax(1);
        x.sign(0);
        x.end(3);
        int[] want = {2, 2, 6, 5, 2, 1, 7, 3, 7};
        for (int what = 0; what < want.length; what++) {
            Check.due("count(" + what + ")", x.count(what), want[what]);
        }
        for (int what : new int[] {-1, 9, Integer.MIN_VALUE, Integer.MAX_VALUE}) {
            Check.due("count(" + what + ")", x.count(what), -1);
        }
    }

    private static void promise48() {
        JarsThatLeak x = Check.with("9/5,1,0,3");
        Check.row(x, "no call");
        x.bells(1);
        Check.row(x, "bells(1)", 0, 4);
        x.flood(0, 3);
        Check.row(x, "flood(0, 3)", 0);
        x.later(0, 1);
        x.pour(0, 0, 1);
        x.spring(0, 6, 1);
        x.undo();
        Check.row(x, "calls that tell no row leave it", 0);
        x.cup(0, 2);
        Check.row(x, "cup(0, 2)", 2, 0, 0, 0, 0, 0, 0);
        for (int i : new int[] {-1, 7, 10, Integer.MIN_VALUE, Integer.MAX_VALUE}) {
            Check.due("row(" + i + ")", Check.rowAt(x, i), Check.THROWS);
        }
    }
}
