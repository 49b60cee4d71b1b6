/** Promises 39 to 44: what was seen. */
public final class SeenTest {
    public static void main(String[] args) {
        promise39And40();
        promise41();
        promise42();
        promise43();
        promise43Nine();
        promise44();
        Check.finish();
    }

    private static void promise39And40() {
        JarsThatLeak x = Check.with("9/5,1,0,3");
        Check.due("nothing to forget", x.forget(), -1);
        int[][] wrong = {{1, 0, 0}, {-1, 0, 0}, {0, -1, 0}, {0, 201, 0}, {0, 0, -1}, {0, 0, 61}};
        for (int[] w : wrong) {
            Check.due("seen of a wrong number", x.seen(w[0], w[1], w[2]), -1);
        }
        Check.due("a LEVEL that it can't hold is told all the same", x.seen(0, 200, 60), 1);
        for (int many = 2; many <= 10; many++) {
            Check.due("seen " + many, x.seen(0, 0, 5), many);
        }
        Check.due("an eleventh", x.seen(0, 0, 5), -1);
        Check.due("how many were", x.count(5), 10);
        for (int left = 9; left >= 0; left--) {
            Check.due("forget to " + left, x.forget(), left);
        }
        Check.due("none is left", x.forget(), -1);
        x.seen(0, 1, 4);
        x.seen(0, 1, 3);
        Check.due("both can't be", x.holes(0), 0);
        x.forget();
        Check.due("the latest is forgotten", x.holes(0), 2);
        x.bells(1);
        Check.due("from when it is asked", x.holes(0), 1);
    }

    private static void promise41() {
        JarsThatLeak x = Check.with("9/5,1,0,3;9/6,2,1,5>0");
        Check.due("nothing seen", x.holes(0), 1023);
        x.seen(1, 2, 0);
        Check.due("3 and more", x.holes(1), 1016);
        Check.due("another one's can't tell", x.holes(0), 0);
        x.seen(0, 1, 8);
        // jar 0 lets 1 go and gets 4
        Check.due("4 alone", x.holes(1), 16);
        x.forget();
        x.forget();
        x.seen(0, 1, 9);
        Check.due("what it holds at most", x.holes(1), 992);
        Check.due("its own can't be below", x.holes(0), 0);
        Check.due("holes(2)", x.holes(2), -1);
        Check.due("holes(-1)", x.holes(-1), -1);
        Check.due("nothing changes", x.jar(1, 2), 2);
        x.wax(1, 3);
        Check.due("wax stops any hole", x.holes(1), 0);
    }

    private static void promise42() {
        JarsThatLeak x = Check.with("9/5,1,0,3;9/6,2,1,5>0");
        Check.due("nothing seen", x.explains(), 18);
        Check.row(x, "nothing seen", 0, 0, 1);
        x.seen(0, 1, 6);
        Check.due("as it is", x.explains(), 0);
        Check.row(x, "as it is", 1);
        x.forget();
        x.seen(0, 1, 5);
        // hole 0 of 2, or hole 1 of 1
        Check.due("two ways", x.explains(), 2);
        Check.row(x, "two ways", 0, 2, 0);
        x.seen(1, 1, 5);
        Check.due("one way", x.explains(), 1);
        Check.row(x, "one way", 1, 1, 0);
        x.seen(1, 1, 6);
        Check.due("no way", x.explains(), 0);
        Check.row(x, "no way", 0);
        x.forget();
        x.forget();
        x.forget();
        x.seen(0, 0, 5);
        Check.due("now", x.explains(), 18);
        Check.row(x, "now", 0, 0, 1);
        x.hole(0, 0);
        Check.due("unlike its HOLE now", x.explains(), 18);
        Check.row(x, "unlike its HOLE now", 0, 1, 1);
    }

    private static void promise43() {
        JarsThatLeak none = new JarsThatLeak();
        Check.due("no jars", none.looks(5), -2);
        Check.due("no jars and no such n", none.looks(201), -1);
        JarsThatLeak x = Check.with("9/5,1,0,3;9/6,2,1,5>0;9/6,0,1,5");
        Check.due("now: all alike, the first", x.looks(0), 0);
        Check.row(x, "now", 4, 1);
        // jar 0 has 6, 5, 7, 6; jar 1 has 4, 4, 3, 4; jar 2 has 6, 6, 6, 5
        Check.due("a bell on", x.looks(1), 0);
        Check.row(x, "a bell on", 2, 3);
        Check.due("looks(-1)", x.looks(-1), -1);
        Check.due("looks(201)", x.looks(201), -1);
        Check.row(x, "refused calls leave the row", 2, 3);
        Check.due("nothing changes", x.jar(0, 2), 1);
        x.seen(0, 1, 0);
        Check.due("what was seen is nothing to it", x.looks(1), 0);
        JarsThatLeak later = Check.with("9/0,1,0,3;9/1,1,1,5;9/9,1,1,5");
        // jar 0 has 0 always; jar 1 has 0 always; jar 2 has 8, 8, 8, 7
        Check.due("the last one", later.looks(1), 2);
        Check.row(later, "the last one", 3, 2);
    }

    private static void promise43Nine() {
        JarsThatLeak x = Check.with("60/50,9,0,3;60/50,8,1,5");
        Check.due("a hole of 9 is never more", x.looks(1), 1);
        Check.row(x, "a hole of 9", 1, 2);
        x.hole(1, 9);
        Check.due("one way alone", x.looks(1), 0);
        Check.row(x, "one way alone", 1, 1);
    }

    private static void promise44() {
        JarsThatLeak x = Check.with("9/5,1,0,3;9/6,2,1,5>0");
        Check.due("nothing seen", x.secret(), 7);
        Check.row(x, "nothing seen", 0, 1);
        x.seen(0, 1, 6);
        Check.due("as it is: what changes nothing there", x.secret(), 3);
        Check.row(x, "as it is", 1, 1);
        x.seen(1, 0, 8);
        Check.due("one", x.secret(), 1);
        Check.row(x, "one", 1, 2);
        x.seen(0, 0, 6);
        Check.due("none", x.secret(), 0);
        Check.row(x, "none");
        x.forget();
        x.forget();
        x.forget();
        x.seen(0, 4, 9);
        // jar 0 has 5, 6, 7, 8, then 7 as it is; with 1 .. 3 more above: 8, 9, 9; with 2 .. 4 more in it: 8 at most
        Check.due("from above", x.secret(), 2);
        Check.row(x, "from above", 1, 2);
        Check.due("nothing changes", x.count(3), 11);
        JarsThatLeak full = Check.with("9/9,1,0,3");
        Check.due("no room", full.secret(), 0);
        Check.row(full, "no room");
        JarsThatLeak big = Check.with("60/0,1,0,3");
        Check.due("60 at most", big.secret(), 60);
        Check.row(big, "60 at most", 0, 1);
    }
}
