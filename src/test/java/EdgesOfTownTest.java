/** Promises 1 to 9, at their edges: the town. */
public final class EdgesOfTownTest {
    private static final int LEAST_INT = Integer.MIN_VALUE;
    private static final int MOST_INT = Integer.MAX_VALUE;

    public static void main(String[] args) {
        promise1();
        promise2();
        promise3();
        promise4Empty();
        promise4Signs();
        promise4Values();
        promise4Owners();
        promise4Jars();
        promise4Nothing();
        promise5();
        promise5Signs();
        promise6();
        promise7();
        promise8();
        promise9();
        promise9Wrong();
        Edges.finish();
    }

    private static void promise1() {
        Edges.promise(1);
        Edges.edge("No JARS.", () -> {
            JarsThatLeak x = new JarsThatLeak();
            Check.due("jars", x.count(0), 0);
            Check.due("jar(0, 0)", Check.jarAt(x, 0, 0), Check.THROWS);
            int[] none = {x.hole(0, 0), x.spring(0, 0, 1), x.pour(0, 1, 1), x.dry(0), x.later(0, 0), x.flood(0, 0), x.above(0),
                x.least(0, 0, 0, 0), x.stops(0, 0, 0), x.place(0, 0), x.share(0, 0), x.cup(0, 0), x.comes(0, 0), x.marks(0),
                x.drop(0, 0), x.seen(0, 0, 0), x.holes(0), x.undo(), x.forget()};
            for (int i = 0; i < none.length; i++) {
                Check.due("call " + i + " of those that need a jar, or something ahead", none[i], -1);
            }
            Check.due("below(0, NONE)", x.below(0, -1), false);
            Check.due("wax(0, 1)", x.wax(0, 1), false);
            Check.row(x, "no call");
            int[] zero = {x.town(), x.law(), x.order(), x.sheet(0, 9, 1, 1), x.bells(200), x.rest(), x.saves(9, 200), x.payoff(),
                x.settle(), x.spread(0), x.tax(200), x.explains(), x.secret()};
            for (int i = 0; i < zero.length; i++) {
                Check.due("call " + i + " of those that need none", zero[i], 0);
            }
            Check.due("looks(0)", x.looks(0), -2);
            Check.due("judge(0, ..)", x.judge(0, 0, 0, 0), -2);
            Check.due("judge(1, 1)", x.judge(1, 1, 0, 0), 0);
            Check.due("pays(0, 1), nothing being owed", x.pays(0, 1), 1);
        });
    }

    private static void promise2() {
        Edges.promise(2);
        Edges.edge("Four signs come behind THE TEXT, of v the highest byte first: how many it has.", () -> {
            JarsThatLeak x = new JarsThatLeak();
            Check.due("into an empty one", x.sign(0x312F302C), 4);
            Check.due("behind it", x.sign(0x332C342C), 8);
            Check.due("the last", x.sign(0x35000000), 12);
            x.end(9);
            Check.due("1/0,3,4,5", x.town(), 1);
            Check.dueText("so it is", Check.jarText(x, 0), "0 1 3 4 5 -1 0 :");
            x.sign(-1);
            Check.due("signs of 255", x.town(), -1);
            x.sign(0x64303E80);
            Check.due("a sign of 128, the lowest byte", x.town(), -4);
            x.sign(0x31FF0000);
            Check.due("a sign of 255 behind one that can stand", x.town(), -2);
            x.sign(LEAST_INT);
            Check.due("a sign of 128, the highest byte", x.law(), -1);
            x.sign(0);
            Check.due("signs of 0", x.order(), -1);
        });
        Edges.edge("Refused: there would be more than 80.", () -> {
            JarsThatLeak x = new JarsThatLeak();
            for (int many = 4; many <= 80; many += 4) {
                Check.due("to " + many, x.sign(0), many);
            }
            Check.due("to 84", x.sign(0), -1);
            for (int many = 79; many >= 77; many--) {
                x.end(many);
                Check.due("to " + (many + 4), x.sign(0), -1);
                Check.due("it has as many as it had", x.count(7), many);
            }
            x.end(76);
            Check.due("to 80 again", x.sign(0), 80);
            Twins.idle("sign()", () -> signs(80), y -> y.sign(0x31313131), -1);
            Twins.idle("sign() at 77", () -> signs(77), y -> y.sign(0x31313131), -1);
        });
    }

    private static JarsThatLeak signs(int many) {
        JarsThatLeak x = Twins.rich();
        Check.type(x, "d0>1*1;d0>1*1;d0>1*1;d0>1*1;d0>1*1;d0>1*1;d0>1*1;d0>1*1;d0>1*1;d0>1*1;d0>1*100;0".substring(0, many));
        return x;
    }

    private static void promise3() {
        Edges.promise(3);
        Edges.edge("THE TEXT has its first n signs alone: true;", () -> {
            JarsThatLeak x = signs(80);
            Check.due("all", x.end(80), true);
            Check.due("all but one", x.end(79), true);
            Check.due("so many", x.count(7), 79);
            Check.due("six", x.end(6), true);
            Check.due("the first six", x.town(), 1);
            Check.due("none of none", x.end(0), true);
            x.sign(0x6C6C6C6C);
            Check.due("none of four", x.end(0), true);
            Check.due("none", x.count(7), 0);
            x.sign(0x31323334);
            x.end(2);
            x.sign(0x2B313131);
            x.end(4);
            Check.due("what comes then, comes behind those: 12+1", x.law(), 0);
            Check.due("13", x.jar(0, 7), 13);
        });
        Edges.edge("false if it has not so many,", () -> {
            Twins.idle("one more", Twins::rich, x -> Twins.one(x.end(10)), 0);
            Twins.idle("81", Twins::rich, x -> Twins.one(x.end(81)), 0);
            Twins.idle("the most", Twins::rich, x -> Twins.one(x.end(MOST_INT)), 0);
            Check.due("1 of none", new JarsThatLeak().end(1), false);
        });
        Edges.edge("or n is below 0.", () -> {
            Twins.idle("-1", Twins::rich, x -> Twins.one(x.end(-1)), 0);
            Twins.idle("the least", Twins::rich, x -> Twins.one(x.end(LEAST_INT)), 0);
        });
    }

    /** Lines of debts and a ; behind each, so many signs in all (from 30 on). */
    private static String filled(int signs) {
        int lines = (signs + 8) / 9;
        StringBuilder text = new StringBuilder();
        for (int i = 0; i < lines; i++) {
            int digits = signs / lines + (i < signs % lines ? 1 : 0) - 6;
            text.append("d0>1*").append("000", 0, digits - 1).append("1;");
        }
        Check.due("the length of a filling", text.length(), signs);
        return text.toString();
    }

    private static void flaw(String text, int place) {
        JarsThatLeak x = Check.with("9/9,1,0,5");
        Check.due(text, Check.town(x, text), -1 - place);
        Check.due(text + ": jars then", x.count(0), 1);
        Check.due(text + ": debts then", x.count(8), 0);
    }

    private static void fine(String text, int lines) {
        Check.due(text, Check.town(Check.with("9/9,1,0,5"), text), lines);
    }

    private static void promise4Empty() {
        Edges.promise(4);
        Edges.edge("THE TEXT tells of THE TOWN", () -> {
            JarsThatLeak x = Check.with("1/0,0,0,0;60/60,9,5,9>0;d0>5*999");
            Check.dueText("all the least", Check.jarText(x, 0), "0 1 0 0 0 -1 0 :");
            Check.dueText("all the most", Check.jarText(x, 1), "60 60 9 5 9 0 0 :" + "5".repeat(60));
            Check.due("the debt", x.owes(0, 5), 999);
        });
        Edges.edge("(an empty one: nothing)", () -> {
            Twins.idle("an empty text", () -> emptied(Twins.rich()), x -> x.town(), 0);
            Check.due("of a new object", new JarsThatLeak().town(), 0);
        });
        Edges.edge(": how many LINES.", () -> {
            fine("d0>1*1", 1);
            fine("1/1,1,1,1", 1);
            fine("1/1,1,1,1;d0>1*1;1/1,1,1,1", 3);
            fine("1/1,1,1,1;1/1,1,1,1;1/1,1,1,1;1/1,1,1,1;1/1,1,1,1;1/1,1,1,1;1/1,1,1,1", 7);
            fine("d0>1*1;d0>1*1;d0>1*1;d0>1*1;d0>1*1;d0>1*1;d0>1*1;d0>1*1;d0>1*1;d0>1*1;d0>1*1", 11);
        });
    }

    private static JarsThatLeak emptied(JarsThatLeak x) {
        x.end(0);
        return x;
    }

    private static void promise4Signs() {
        Edges.edge("-1 - p: the sign at p can't stand there", () -> {
            flaw("x", 0);
            flaw(";", 0);
            flaw("D0>1*1", 0);
            flaw("1x1,1,1,1", 1);
            flaw("11x1,1,1,1", 2);
            flaw("1/1,1,1,1,", 9);
            flaw("1/1,1,1,1 ", 9);
            flaw("1/1,1,1,6>x", 10);
            flaw("1/1,1,1,6>0>", 11);
            flaw("d0>1*1;;d0>1*1", 7);
            flaw("d0>1*1;x", 7);
            flaw("d0>1*-1", 5);
            flaw("d0>1*1\0", 6);
        });
        Edges.edge("its end, if it ends too early;", () -> {
            String[] all = {"d", "d0", "d0>", "d0>1", "d0>1*", "1", "11", "1/", "1/1", "1/1,", "1/1,1", "1/1,1,", "1/1,1,1",
                "1/1,1,1,", "1/1,1,1,6>", "d0>1*1;", "1/1,1,1,1;", "1/1,1,1,6>0;"};
            for (String text : all) {
                flaw(text, text.length());
            }
            String seventySix = filled(75) + "1";
            flaw(seventySix, 76);
        });
        Edges.edge("76, if it has more and the first 76 could go on or end;", () -> {
            fine(filled(67) + "1/1,1,1,1", 9);
            flaw(filled(67) + "1/1,1,1,1>", 76);
            flaw(filled(67) + "1/1,1,1,1x", 76);
            flaw(filled(67) + "1/1,1,1,1;d0>", 76);
            flaw(filled(76) + "d", 76);
            flaw(filled(75) + "d0>1*", 76);
            flaw(filled(74) + "1/1,1,", 76);
            flaw(filled(76) + "xxxx", 76);
            flaw(filled(75) + "x1", 75);
            flaw("x" + filled(79), 0);
        });
        Edges.edge("as far as they stand in the first 76:", () -> {
            flaw(filled(75) + "05/1", 75);
            flaw(filled(75) + "61/1", 76);
            flaw(filled(74) + "61/1", 75);
            flaw(filled(74) + "00/1", 75);
            flaw(filled(74) + "60/1", 76);
            flaw(filled(73) + "1/2,1", 75);
            flaw(filled(73) + "1/10,1", 76);
            flaw(filled(72) + "1/10,", 75);
        });
    }

    private static void promise4Values() {
        Edges.edge("HOLDS of 0", () -> {
            flaw("0/0,1,1,1", 0);
            flaw("0", 0);
            flaw("0x", 0);
            flaw("00/0,1,1,1", 1);
            fine("01/0,1,1,1", 1);
        });
        Edges.edge("or above 60,", () -> {
            fine("60/0,1,1,1", 1);
            flaw("61/0,1,1,1", 1);
            flaw("99/0,1,1,1", 1);
            flaw("61", 1);
            flaw("d0>1*1;61/0", 8);
        });
        Edges.edge("a LEVEL above HOLDS,", () -> {
            fine("9/9,1,1,1", 1);
            fine("9/09,1,1,1", 1);
            flaw("8/9,1,1,1", 2);
            flaw("1/2", 2);
            fine("60/60,1,1,1", 1);
            flaw("59/60,1,1,1", 4);
            flaw("60/61,1,1,1", 4);
            flaw("60/99,1,1,1", 4);
        });
        Edges.edge(": at the last digit;", () -> {
            flaw("00", 1);
            flaw("61", 1);
            flaw("8/9", 2);
            flaw("8/09", 3);
            flaw("8/10", 3);
        });
    }

    private static void promise4Owners() {
        Edges.edge("an OWNER above 5,", () -> {
            fine("9/9,1,5,1", 1);
            flaw("9/9,1,6,1", 6);
            flaw("9/9,1,9,1", 6);
            flaw("d6>1*1", 1);
            flaw("d9", 1);
            flaw("d1>6*1", 3);
            flaw("d6>6*1", 1);
            fine("d5>4*1", 1);
        });
        Edges.edge("the same one again,", () -> {
            flaw("d0>0*1", 3);
            flaw("d5>5*1", 3);
            fine("d5>0*1;d0>5*1", 2);
        });
    }

    private static void promise4Jars() {
        Edges.edge("a JAR that is not there", () -> {
            flaw("9/9,1,1,9>1", 10);
            flaw("9/9,1,1,9>9", 10);
            flaw("9/9,1,1,9>2;9/9,1,1,1", 10);
            fine("9/9,1,1,1;9/9,1,1,9>1", 2);
            Check.due("of a new object", Check.town(new JarsThatLeak(), "9/9,1,1,9>0"), -11);
        });
        Edges.edge("or not of less HEIGHT:", () -> {
            flaw("9/9,1,1,5>0", 10);
            flaw("9/9,1,1,0>0", 10);
            fine("9/9,1,1,6>0", 1);
            flaw("9/9,1,1,1;9/9,1,1,1>1", 20);
        });
        Edges.edge("at its digit;", () -> {
            flaw("d0>1*1;d7", 8);
            flaw("d0>1*1;d1>1", 10);
            flaw("d0>1*1;9/9,1,7", 13);
            flaw("d0>1*1;9/9,1,1,9>3", 17);
        });
        Edges.edge("the first sign of a JAR for which there is no room).", () -> {
            JarsThatLeak x = Check.with("1/1,1,1,1;1/1,1,1,1;1/1,1,1,1;1/1,1,1,1;1/1,1,1,1;1/1,1,1,1;1/1,1,1,1");
            Check.town(x, "1/1,1,1,1");
            Check.due("a ninth and a tenth", Check.town(x, "1/1,1,1,1;1/1,1,1,1"), -11);
            Check.due("none came", x.count(0), 8);
            Check.due("a ninth and a debt", Check.town(x, "1/1,1,1,1;d0>1*1"), 2);
            Check.due("a tenth", Check.town(x, "1/1,1,1,1"), -1);
            Check.due("a tenth of which one sign stands", Check.town(x, "1"), -1);
            Check.due("a tenth that HOLDS 0", Check.town(x, "d0>1*2;00/1,1,1,1"), -8);
            Check.due("another sign", Check.town(x, "x"), -1);
            Check.due("a debt", Check.town(x, "d0>1*3"), 1);
            Check.due("the nine are there", x.count(0), 9);
        });
    }

    private static void promise4Nothing() {
        Edges.edge("Nothing of it comes, if a LINE can't.", () -> {
            String[] flaws = {"x", "0/0,1,1,1", "61/0,1,1,1", "1/2,1,1,1", "1/1,1,6,1", "1/1,1,1,1>5", "1/1,1,1,1>0", "d6>0*1",
                "d0>6*1", "d0>0*1", "d0>1*1000", "1/1,1,1,1;", "1/1,1,1,1>"};
            for (String flawed : flaws) {
                String text = "5/5,1,1,9>0;d0>1*1;d1>2*900;" + flawed;
                Twins.idleButText(text, () -> typed(text), x -> Math.min(x.town(), -1) < -27 ? 1 : 0, 1);
            }
        });
        Edges.edge("Nothing of it comes,", () -> {
            JarsThatLeak x = Check.with("9/5,1,0,1;d0>1*4");
            Check.due("a town that can't come", Check.town(x, "7/7,7,1,7>0;6/6,6,2,6;d3>4*9;d0>1*8;x"), -37);
            Check.due("one that can", Check.town(x, "8/0,0,3,2"), 1);
            Check.dueText("its jar has nothing of the other", Check.jarText(x, 1), "0 8 0 3 2 -1 0 :");
            Check.due("jars", x.count(0), 2);
            Check.due("debts", x.count(8), 4);
            x.pour(0, 1, 2);
            x.below(1, 0);
            Check.town(x, "d5>0*1");
            Check.due("nor is anything as it was at an earlier one", x.owes(0, 1), 4);
            Check.due("the debt told", x.owes(5, 0), 1);
        });
        Edges.edge("Nothing of it comes, if a LINE can't", () -> {
            String long80 = filled(67) + "1/1,1,1,1;d2>";
            Twins.idleButText("of more than 76", () -> typed(long80), x -> x.town(), -77);
        });
    }

    private static JarsThatLeak typed(String text) {
        JarsThatLeak x = Twins.rich();
        Check.type(x, text);
        return x;
    }

    private static void promise5() {
        Edges.promise(5);
        Edges.edge("THE TEXT is THE LAW", () -> {
            JarsThatLeak x = typed("l*2");
            Check.due("it is told", x.law(), 0);
            Check.due("of a full jar", x.jar(0, 7), 18);
            Check.due("of an empty jar", x.jar(1, 7), 0);
            Check.due("THE TEXT is empty", x.count(7), 0);
            Check.due("what can be undone is as it was", x.count(4), 4);
        });
        Edges.edge("(an empty one: none): 0.", () -> {
            JarsThatLeak x = Check.with("9/9,1,1,1");
            Check.law(x, "0");
            Check.due("0", x.wax(0, 1), false);
            Check.due("an empty one", x.law(), 0);
            Check.due("none: 1", x.jar(0, 7), 1);
            Check.due("lets wax", x.wax(0, 1), true);
        });
    }

    private static void lawFlaw(String text, int place) {
        Twins.idleButText(text, () -> typed(text), x -> x.law(), -1 - place);
    }

    private static void promise5Signs() {
        String forty = "1+1+1+1+1+1+1+1+1+1+1+1+1+1+1+1+1+1+1+11";
        Edges.edge("-1 - p: as town()", () -> {
            lawFlaw("x", 0);
            lawFlaw("+1", 0);
            lawFlaw("1+", 2);
            lawFlaw("-", 1);
            lawFlaw("(", 1);
            lawFlaw("(1", 2);
            lawFlaw("()", 1);
            lawFlaw("1)", 1);
            lawFlaw("1<2<3", 3);
            lawFlaw("(1<2>3)", 4);
            lawFlaw("1234", 3);
            lawFlaw("(((((1)))))", 4);
            lawFlaw("jb", 1);
            lawFlaw("1j", 1);
            lawFlaw("j1", 1);
            lawFlaw("1;", 1);
            lawFlaw("1\0", 1);
            lawFlaw("\u00ff", 0);
        });
        Edges.edge("(40 signs).", () -> {
            Check.due("40", Check.law(new JarsThatLeak(), forty), 0);
            lawFlaw(forty + "1", 40);
            lawFlaw(forty + "x", 40);
            lawFlaw(forty + "+", 40);
            lawFlaw(forty + forty, 40);
            lawFlaw(forty.substring(0, 39) + "+", 40);
            lawFlaw(forty.substring(0, 39) + "+1", 40);
            lawFlaw(forty.substring(0, 39) + "x1", 39);
            lawFlaw(forty.substring(0, 38) + "(1", 40);
            lawFlaw(forty.substring(0, 38) + "(1)", 40);
            lawFlaw("x" + forty, 0);
        });
    }

    private static void promise6() {
        Edges.promise(6);
        Edges.edge("Of a JAR, what 0: LEVEL, 1: HOLDS, 2: HOLE, 3: OWNER, 4: HEIGHT, 5: the JAR BELOW (NONE), 6: WAX, "
            + "7: what THE LAW is for it.", () -> {
            JarsThatLeak x = Check.with("1/0,0,0,0;60/60,9,5,9>0");
            int[] least = {0, 1, 0, 0, 0, -1, 0, 1};
            int[] most = {60, 60, 9, 5, 9, 0, 99, 1};
            x.wax(1, 99);
            for (int what = 0; what < 8; what++) {
                Check.due("what " + what + " at the least", Check.jarAt(x, 0, what), least[what]);
                Check.due("what " + what + " at the most", Check.jarAt(x, 1, what), most[what]);
            }
            Check.law(x, "0-l");
            Check.due("a law below 0", Check.jarAt(x, 1, 7), -60);
        });
        Edges.edge("NoSuchElementException: none such,", () -> {
            for (int jar : Twins.NO_JARS) {
                for (int what = 0; what < 8; what++) {
                    int of = what;
                    Twins.idle("jar " + jar + ", what " + what, Twins::rich, x -> Check.jarAt(x, jar, of), Check.THROWS);
                }
            }
            Check.due("of none", Check.jarAt(new JarsThatLeak(), 0, 0), Check.THROWS);
        });
        Edges.edge("another what.", () -> {
            for (int what : new int[] {-1, 8, LEAST_INT, MOST_INT}) {
                Twins.idle("what " + what, Twins::rich, x -> Check.jarAt(x, 2, what), Check.THROWS);
                Twins.idle("what " + what + " of none", Twins::rich, x -> Check.jarAt(x, 3, what), Check.THROWS);
            }
        });
    }

    private static void promise7() {
        Edges.promise(7);
        Edges.edge("HOLE of a JAR becomes v: what it was.", () -> {
            JarsThatLeak x = Check.with("9/9,1,0,0;9/9,2,0,0;9/9,3,0,0");
            Check.due("to 0", x.hole(0, 0), 1);
            Check.due("nothing goes then", x.later(0, 200), 9);
            Check.due("to 9", x.hole(0, 9), 0);
            Check.due("all goes then", x.later(0, 1), 0);
            Check.due("to 9 again", x.hole(0, 9), 9);
            Check.due("of the last", x.hole(2, 9), 3);
            Check.due("of the one between nothing", x.jar(1, 2), 2);
        });
        Edges.edge("Refused: others.", () -> {
            Twins.refused("v", Twins.NO_HOLES, (x, v) -> x.hole(0, v));
            Twins.refused("jar", Twins.NO_JARS, (x, jar) -> x.hole(jar, 5));
        });
    }

    private static void promise8() {
        Edges.promise(8);
        Edges.edge("The JAR BELOW becomes another one, of less HEIGHT,", () -> {
            JarsThatLeak x = Twins.rich();
            Check.due("one of less", x.below(2, 0), true);
            Check.due("so", x.jar(2, 5), 0);
            Check.due("the same again", x.below(2, 0), true);
            Check.due("another one", x.below(2, 1), true);
            Check.due("then so", x.jar(2, 5), 1);
            JarsThatLeak one = Check.with("9/9,1,0,1;9/9,1,0,0");
            Check.due("1 less, though of a later number", one.below(0, 1), true);
        });
        Edges.edge("or none (NONE): true.", () -> {
            JarsThatLeak x = Twins.rich();
            Check.due("none", x.below(2, -1), true);
            Check.due("so", x.jar(2, 5), -1);
            Check.due("none again", x.below(2, -1), true);
            Check.due("of the lowest", x.below(0, -1), true);
        });
        Edges.edge("Refused: others.", () -> {
            Twins.refusedAsFalse("none such,", new int[] {-2, 3, 9, LEAST_INT, MOST_INT}, (x, other) -> x.below(2, other));
            Twins.idle("of more", Twins::rich, x -> Twins.one(x.below(0, 1)), 0);
            Twins.idle("itself", Twins::rich, x -> Twins.one(x.below(1, 1)), 0);
            Twins.refusedAsFalse("of none such,", Twins.NO_JARS, (x, jar) -> x.below(jar, 0));
            Twins.refusedAsFalse("none of none such,", Twins.NO_JARS, (x, jar) -> x.below(jar, -1));
            JarsThatLeak like = Check.with("9/9,1,0,1;9/9,1,0,1");
            Check.due("of the same", like.below(0, 1), false);
            Check.due("of the same, the other way", like.below(1, 0), false);
        });
    }

    /** On three jars with holes 1, 2, 3: what the call answers, and the holes then. */
    private static void sheet(int kind, int n, int f, int step, int want, String holes) {
        JarsThatLeak x = Check.with("9/5,1,0,3;9/5,2,0,3;9/5,3,0,3");
        String name = "sheet(" + kind + ", " + n + ", " + f + ", " + step + ")";
        Check.due(name, x.sheet(kind, n, f, step), want);
        Check.dueText("the holes of " + name, "" + x.jar(0, 2) + x.jar(1, 2) + x.jar(2, 2), holes);
    }

    private static void promise9() {
        Edges.promise(9);
        Edges.edge("HOLES of JARS 0, 1, .., as a sheet tells them: bytes (kind 0), shorts (1), ints (2) of n entries f, f + step, ..", () -> {
            for (int kind = 0; kind <= 2; kind++) {
                sheet(kind, 3, 2, 3, 15, "258");
                sheet(kind, 3, 8, -3, 15, "852");
                sheet(kind, 3, 4, 0, 12, "444");
                sheet(kind, 9, 1, 1, 6, "123");
            }
            sheet(2, 3, MOST_INT, 1, 9, "900");
            sheet(2, 3, LEAST_INT, -1, 18, "099");
            sheet(2, 3, 5, MOST_INT, 8, "503");
            sheet(2, 3, 5, LEAST_INT, 10, "505");
        });
        Edges.edge("(of bytes, shorts the lowest bits, with their sign;", () -> {
            sheet(0, 3, 127, 1, 9, "900");
            sheet(0, 3, 254, 1, 0, "000");
            sheet(0, 3, 255, 2, 4, "013");
            sheet(0, 3, -256, 1, 3, "012");
            sheet(0, 3, LEAST_INT, 256, 0, "000");
            sheet(0, 3, MOST_INT, 2, 4, "013");
            sheet(1, 3, 32767, 1, 9, "900");
            sheet(1, 3, 65535, 2, 4, "013");
            sheet(1, 3, 65536, 128, 18, "099");
            sheet(1, 3, 128, 127, 27, "999");
            sheet(1, 3, LEAST_INT, 65536, 0, "000");
            sheet(2, 3, 256, 65280, 27, "999");
        });
        Edges.edge("put to 0 .. 9)", () -> {
            for (int kind = 0; kind <= 2; kind++) {
                sheet(kind, 3, -1, 1, 1, "001");
                sheet(kind, 3, 9, 1, 27, "999");
                sheet(kind, 3, 8, 2, 26, "899");
            }
            sheet(2, 3, MOST_INT, 0, 27, "999");
            sheet(2, 3, LEAST_INT, 0, 0, "000");
        });
        Edges.edge("those behind it have 0: the sum of all.", () -> {
            for (int kind = 0; kind <= 2; kind++) {
                sheet(kind, 0, 5, 1, 0, "000");
                sheet(kind, 1, 5, 1, 5, "500");
                sheet(kind, 2, 5, 1, 11, "560");
            }
            JarsThatLeak nine = Check.with("1/1,1,1,1;1/1,1,1,1;1/1,1,1,1;1/1,1,1,1;1/1,1,1,1;1/1,1,1,1;1/1,1,1,1");
            Check.town(nine, "1/1,1,1,1;1/1,1,1,1");
            Check.due("of nine", nine.sheet(0, 9, 9, 0), 81);
            Check.due("of eight", nine.sheet(1, 8, 9, 0), 72);
            Check.due("of the ninth none", nine.jar(8, 2), 0);
            Check.due("without jars", new JarsThatLeak().sheet(2, 9, 9, 0), 0);
        });
    }

    private static void promise9Wrong() {
        Edges.edge("or a missing one (3):", () -> {
            sheet(3, 0, 5, 5, -3, "000");
            sheet(3, 9, 5, 5, -3, "000");
        });
        Edges.edge("-2: n below 0 (of kinds 0 .. 2; nothing changes);", () -> {
            for (int kind = 0; kind <= 2; kind++) {
                int of = kind;
                Twins.idle("-1 of kind " + kind, Twins::rich, x -> x.sheet(of, -1, 5, 1), -2);
                Twins.idle("the least of kind " + kind, Twins::rich, x -> x.sheet(of, LEAST_INT, 5, 1), -2);
            }
        });
        Edges.edge("-3: missing (all 0).", () -> {
            sheet(3, -1, 5, 5, -3, "000");
            sheet(3, LEAST_INT, 5, 5, -3, "000");
            Check.due("without jars", new JarsThatLeak().sheet(3, 0, 0, 0), -3);
        });
        Edges.edge("NONE: another kind, n above 9", () -> {
            Twins.refused("kind", new int[] {-1, 4, LEAST_INT, MOST_INT}, (x, kind) -> x.sheet(kind, 3, 5, 1));
            for (int kind = 0; kind <= 2; kind++) {
                int of = kind;
                Twins.idle("10 of kind " + kind, Twins::rich, x -> x.sheet(of, 10, 5, 1), -1);
                Twins.idle("the most of kind " + kind, Twins::rich, x -> x.sheet(of, MOST_INT, 5, 1), -1);
            }
        });
        Edges.edge("(these first).", () -> {
            Twins.idle("another kind, n below 0", Twins::rich, x -> x.sheet(4, -1, 5, 1), -1);
            Twins.idle("another kind below 0, n below 0", Twins::rich, x -> x.sheet(-1, -1, 5, 1), -1);
            Twins.idle("missing, n above 9", Twins::rich, x -> x.sheet(3, 10, 5, 1), -1);
        });
    }
}
