import java.util.Arrays;

/** Promises 1 to 9: the town. */
public final class TownTest {
    private static final String JAR = "9/5,1,0,3";

    public static void main(String[] args) {
        promise1();
        promise2And3();
        promise4Lines();
        promise4Signs();
        promise4Values();
        promise4Limits();
        promise5Signs();
        promise5Worth();
        promise6();
        promise7();
        promise8();
        promise9();
        Check.finish();
    }

    private static void promise1() {
        JarsThatLeak x = new JarsThatLeak();
        for (int what = 0; what <= 8; what++) {
            Check.due("count(" + what + ") of a new object", x.count(what), 0);
        }
        Check.due("jar(0, 0) of a new object", Check.jarAt(x, 0, 0), Check.THROWS);
        Check.due("owes(0, 5) of a new object", x.owes(0, 5), 0);
        Check.due("undo() of a new object", x.undo(), -1);
        Check.due("again(0) of a new object", x.again(0), false);
        Check.due("NONE", JarsThatLeak.NONE, -1);
    }

    private static void promise2And3() {
        JarsThatLeak x = new JarsThatLeak();
        Check.due("sign", x.sign(0x392F352C), 4);
        Check.due("end behind", x.end(5), false);
        Check.due("end below 0", x.end(-1), false);
        Check.due("end of all", x.end(4), true);
        Check.due("count(7)", x.count(7), 4);
        for (int many = 8; many <= 80; many += 4) {
            Check.due("sign to " + many, x.sign(0x312C302C), many);
        }
        Check.due("sign above 80", x.sign(0), -1);
        Check.due("count(7) behind it", x.count(7), 80);
        Check.due("end(77)", x.end(77), true);
        Check.due("sign to 81", x.sign(0), -1);
        Check.due("end(76)", x.end(76), true);
        Check.due("sign to 80", x.sign(0), 80);
        Check.due("end(8)", x.end(8), true);
        Check.due("sign the last", x.sign(0x33FFFFFF), 12);
        Check.due("end(9)", x.end(9), true);
        Check.due("the text, the highest byte first", x.town(), 1);
        Check.dueText("the jar of it", Check.jarText(x, 0), "5 9 1 0 3 -1 0 :00000");
        Check.due("a text that is read is empty", x.count(7), 0);
        Check.due("end(0) of an empty text", x.end(0), true);
        Check.due("end(1) of an empty text", x.end(1), false);
    }

    private static void promise4Lines() {
        JarsThatLeak x = new JarsThatLeak();
        Check.due("an empty town", Check.town(x, ""), 0);
        Check.due("jars and debts", Check.town(x, "60/60,9,5,9;d5>0*999;07/07,0,1,2;d0>5*007;1/0,0,2,3>1"), 5);
        Check.due("jars of it", x.count(0), 3);
        Check.due("debts of it", x.owes(5, 0), 999);
        Check.due("a debt of three digits", x.owes(0, 5), 7);
        Check.dueText("jar 1", Check.jarText(x, 1), "7 7 0 1 2 -1 0 :1111111");
        Check.dueText("jar 2", Check.jarText(x, 2), "0 1 0 2 3 1 0 :");
        Check.due("a debt told again is what it is then", Check.town(x, "d5>0*3;d5>0*04"), 2);
        Check.due("so it is", x.owes(5, 0), 4);
        Check.due("jars come behind", Check.town(x, "2/1,0,3,9>2"), 1);
        Check.due("below one that was there", x.jar(3, 5), 2);
        String before = Check.stateText(x);
        Check.due("nothing comes if a line can't", Check.town(x, "1/1,1,1,1;d1>2*5;d0>5*1;1/1,1,1,1>0"), -35);
        Check.dueText("nothing came", Check.stateText(x), before);
        Check.due("the text is gone all the same", x.count(7), 0);
        x.bells(1);
        Check.town(x, "x");
        Check.town(x, "");
        Check.due("refused and empty towns leave what can be undone", x.count(4), 1);
        Check.town(x, "d1>2*1");
        Check.due("another one forgets it", x.count(4), 0);
    }

    private static int flaw(String text) {
        return -1 - Check.town(Check.with("9/9,1,0,5"), text);
    }

    private static void promise4Signs() {
        String line = "12/10,3,4,7>0";
        Check.due("the whole line", Check.town(Check.with("9/9,1,0,5"), line), 1);
        for (int cut = 1; cut < line.length(); cut++) {
            boolean whole = cut == 11;
            Check.due("cut to " + cut, flaw(line.substring(0, cut)), whole ? -2 : cut);
            if (!Character.isDigit(line.charAt(cut)) || !Character.isDigit(line.charAt(cut - 1))) {
                Check.due("x at " + cut, flaw(line.substring(0, cut) + "x" + line.substring(cut)), cut);
            }
        }
        String debt = "d1>2*345";
        for (int cut = 1; cut < debt.length(); cut++) {
            Check.due("debt cut to " + cut, flaw(debt.substring(0, cut)), cut > 5 ? -2 : cut);
        }
        for (int at = 0; at < 6; at++) {
            Check.due("debt, x at " + at, flaw(debt.substring(0, at) + "x" + debt.substring(at)), at);
        }
        Check.due("three digits of HOLDS", flaw("123/1,1,1,1"), 2);
        Check.due("three digits of LEVEL", flaw("12/011,1,1,1"), 5);
        Check.due("two digits of a HOLE", flaw("12/1,11,1,1"), 6);
        Check.due("two digits of a HEIGHT", flaw("12/1,1,1,11"), 10);
        Check.due("four digits of a DEBT", flaw("d1>2*3456"), 8);
        Check.due("; at the end", flaw("d1>2*3;"), 7);
        Check.due("; at the beginning", flaw(";d1>2*3"), 0);
        Check.due("two of ;", flaw("d1>2*3;;d1>2*3"), 7);
        Check.due("a blank", flaw(" d1>2*3"), 0);
        Check.due("a sign of 0", flaw("d1>2*3\0"), 6);
        Check.due("a sign of 233", flaw("\u00e9"), 0);
        Check.due("a sign of 0xB1, the low bits of which are those of a digit", flaw("\u00b1/1,1,1,1"), 0);
    }

    private static void promise4Values() {
        Check.due("HOLDS of 0", flaw("0/0,1,1,1"), 0);
        Check.due("HOLDS of 00", flaw("00/0,1,1,1"), 1);
        Check.due("HOLDS of 61", flaw("61/0,1,1,1"), 1);
        Check.due("HOLDS of 60", flaw("60/60,1,1,1"), -2);
        Check.due("LEVEL above HOLDS", flaw("9/10,1,1,1"), 3);
        Check.due("LEVEL above HOLDS, a digit", flaw("8/9,1,1,1"), 2);
        Check.due("LEVEL above HOLDS, cut off", flaw("8/9"), 2);
        Check.due("OWNER above 5", flaw("9/9,1,6,1"), 6);
        Check.due("OWNER above 5 of a debt", flaw("d6>1*1"), 1);
        Check.due("the other OWNER above 5", flaw("d1>6*1"), 3);
        Check.due("the same OWNER again", flaw("d1>1*1"), 3);
        Check.due("a JAR that is not there", flaw("9/9,1,1,9>1"), 10);
        Check.due("a JAR that comes only later", flaw("9/9,1,1,9>2;9/9,1,1,1"), 10);
        Check.due("a JAR of the same text", flaw("9/9,1,1,1;9/9,1,1,9>1"), -3);
        Check.due("a JAR of the same HEIGHT", flaw("9/9,1,1,5>0"), 10);
        Check.due("a JAR of more HEIGHT", flaw("9/9,1,1,4>0"), 10);
        Check.due("a JAR of less HEIGHT", flaw("9/9,1,1,6>0"), -2);
        Check.due("the first flaw counts", flaw("9/9,1,6,1;0/0"), 6);
    }

    private static void promise4Limits() {
        JarsThatLeak x = new JarsThatLeak();
        for (int jars = 1; jars <= 9; jars++) {
            Check.due("jar " + jars, Check.town(x, "1/1,1,1,1"), 1);
        }
        Check.due("no room: at the first sign", Check.town(x, "d0>1*1;1/1,1,1,1"), -8);
        Check.due("no room, even if it is told wrong", Check.town(x, "0"), -1);
        Check.due("debts still come", Check.town(x, "d0>1*1"), 1);
        String debts = "d0>1*1;d0>1*1;d0>1*1;d0>1*1;d0>1*1;d0>1*1;d0>1*1;d0>1*1;d0>1*1;";
        Check.due("76 signs", Check.town(x, debts + "d0>1*1;d2>3*1".substring(0, 13)), 11);
        Check.due("77 signs, the first 76 could end", Check.town(x, debts + "d0>1*1;d2>3*11"), -77);
        Check.due("80 signs, the first 76 could go on", Check.town(x, debts + "d0>1*123;d2>3*1"), -77);
        Check.due("77 signs, a flaw behind", Check.town(x, debts + "d0>1*1;d2>3*1x"), -77);
        Check.due("77 signs, a flaw in the first 76", Check.town(x, debts + "d0>1*1;d2>2*11"), -74);
        Check.due("a flaw of the last of the 76", Check.town(x, debts + "d0>1*1;d2>3*x1"), -76);
        JarsThatLeak y = new JarsThatLeak();
        String ahead = debts.substring(0, 49);
        String to75 = ahead + "d0>1*123;d0>1*123;d0>1*12;";
        Check.due("HOLDS of 0, as far as it stands in the 76", Check.town(y, to75 + "05/1,1"), -76);
        Check.due("HOLDS of 6, as far as it stands in the 76", Check.town(y, to75 + "61/1,1"), -77);
        String to73 = ahead + "d0>1*12;d0>1*12;d0>1*12;";
        Check.due("LEVEL of 1, as far as it stands in the 76", Check.town(y, to73 + "1/10,1"), -77);
        Check.due("LEVEL of 2, as far as it stands in the 76", Check.town(y, to73 + "1/2,11"), -76);
        Check.due("nothing came", y.count(0) + y.count(8), 0);
    }

    private static int lawFlaw(String text) {
        JarsThatLeak x = Check.with(JAR);
        Check.law(x, "77");
        int answer = Check.law(x, text);
        Check.due("the text is gone", x.count(7), 0);
        if (answer != 0) {
            Check.due("the law is as it was", x.jar(0, 7), 77);
        }
        return -1 - answer;
    }

    private static void promise5Signs() {
        Check.due("all is well", lawFlaw("-(1+2)*j<--b/999"), -1);
        String[] cutShort = {"-", "--", "1+", "1-", "1*", "1/", "1<", "(", "(1", "(1+", "((1)", "1=-", "-("};
        for (String text : cutShort) {
            Check.due(text + " ends too early", lawFlaw(text), text.length());
        }
        String[] wrongAtLast = {"x", "+", "*", "<", ")", "1(", "j1", "1j", "jj", "1)", "1+*", "1+<", "1<<", "1<2=",
            "1>2>", "(1<2<", "()", "1+)", "1234", "(1)1", "(1)(", "1<2)", " ", "1 ", "1+(2)3", "1<-<", ";"};
        for (String text : wrongAtLast) {
            Check.due(text + ": its last sign", lawFlaw(text), text.length() - 1);
        }
        Check.due("a comparison in ( ) behind one", lawFlaw("(1<2)<(3>4)=1"), 11);
        Check.due("comparisons in ( )", lawFlaw("(1<2)<(3>4)"), -1);
        Check.due("4 ( in one another", lawFlaw("((((1))))"), -1);
        Check.due("5 ( in one another", lawFlaw("(((((1)))))"), 4);
        Check.due("more ( behind one another", lawFlaw("(1)+(1)+(1)+(1)+(1)+((((1))))"), -1);
        Check.due("5 at the end", lawFlaw("(1)+((((("), 8);
        String forty = "1+1+1+1+1+1+1+1+1+1+1+1+1+1+1+1+1+1+1+11";
        Check.due("40 signs", lawFlaw(forty), -1);
        Check.due("41 signs, the first 40 could end", lawFlaw(forty + "1"), 40);
        Check.due("80 signs", lawFlaw(forty + forty), 40);
        Check.due("41 signs, the first 40 could go on", lawFlaw(forty.substring(0, 39) + "+1"), 40);
        Check.due("41 signs, a flaw in the first 40", lawFlaw(forty.substring(0, 39) + "x1"), 39);
        Check.due("40 signs that end too early", lawFlaw(forty.substring(0, 39) + "+"), 40);
        Check.due("40 of -", lawFlaw("----------------------------------------"), 40);
        Check.due("39 of -", lawFlaw("---------------------------------------1"), -1);
        Check.due("an OWNER of no jar", lawFlaw("o"), -1);
    }

    private static void worth(JarsThatLeak x, int jar, String text, int want) {
        Check.due("law " + text, Check.law(x, text), 0);
        Check.due(text, x.jar(jar, 7), want);
    }

    private static void promise5Worth() {
        JarsThatLeak x = Check.with("30/20,0,1,2;40/7,3,5,9>0;d5>0*12;d5>1*30;d0>5*4");
        Check.due("no law", x.jar(1, 7), 1);
        x.bells(26);
        x.wax(1, 50);
        worth(x, 1, "j", 1);
        worth(x, 1, "b", 26);
        worth(x, 1, "t", 2);
        worth(x, 0, "l", 27);
        worth(x, 1, "h", 3);
        worth(x, 1, "c", 40);
        worth(x, 1, "o", 5);
        worth(x, 1, "g", 9);
        worth(x, 1, "w", 50);
        worth(x, 1, "d", 42);
        worth(x, 0, "d", 0);
        worth(x, 0, "999", 999);
        worth(x, 0, "007", 7);
        worth(x, 0, "2+3*4", 14);
        worth(x, 0, "(2+3)*4", 20);
        worth(x, 0, "20-3-4", 13);
        worth(x, 0, "100/7/2", 7);
        worth(x, 0, "100/7*2", 28);
        worth(x, 0, "7/0", 0);
        worth(x, 0, "7/(1-1)+5", 5);
        worth(x, 0, "-7/2", -3);
        worth(x, 0, "7/-2", -3);
        worth(x, 0, "-7/-2", 3);
        worth(x, 0, "--7", 7);
        worth(x, 0, "---7", -7);
        worth(x, 0, "2--3", 5);
        worth(x, 0, "2*-3", -6);
        worth(x, 0, "-2*-3", 6);
        worth(x, 0, "-(2-5)", 3);
        worth(x, 0, "1<2", 1);
        worth(x, 0, "2<2", 0);
        worth(x, 0, "2>1", 1);
        worth(x, 0, "2>2", 0);
        worth(x, 0, "1+1=2", 1);
        worth(x, 0, "1=2", 0);
        worth(x, 0, "1+1<1+2*1", 1);
        worth(x, 0, "5-(1<2)", 4);
        worth(x, 0, "999*999*999*9", 999 * 999 * 999 * 9);
        worth(x, 0, "(0-999*999*999*3)*5", -999 * 999 * 999 * 3 * 5);
        worth(x, 0, "-(128*256*256*256)/-1", Integer.MIN_VALUE);
        worth(x, 0, "-(128*256*256*256)", Integer.MIN_VALUE);
        Check.due("an empty law", Check.law(x, ""), 0);
        Check.due("is none", x.jar(0, 7), 1);
    }

    private static void promise6() {
        JarsThatLeak x = Check.with("30/20,4,1,2;40/7,3,5,9>0");
        x.wax(1, 8);
        int[] want = {7, 40, 3, 5, 9, 0, 8, 1};
        for (int what = 0; what < 8; what++) {
            Check.due("jar(1, " + what + ")", Check.jarAt(x, 1, what), want[what]);
        }
        Check.due("no JAR BELOW", Check.jarAt(x, 0, 5), -1);
        Check.due("no WAX", Check.jarAt(x, 0, 6), 0);
        int[] wrong = {-1, 2, 8, 9, Integer.MIN_VALUE, Integer.MAX_VALUE};
        for (int jar : wrong) {
            Check.due("jar " + jar, Check.jarAt(x, jar, 0), Check.THROWS);
        }
        for (int what : new int[] {-1, 8, Integer.MIN_VALUE, Integer.MAX_VALUE}) {
            Check.due("what " + what, Check.jarAt(x, 0, what), Check.THROWS);
        }
    }

    private static void promise7() {
        JarsThatLeak x = Check.with(JAR);
        Check.due("hole(0, 9)", x.hole(0, 9), 1);
        Check.due("hole(0, 0)", x.hole(0, 0), 9);
        Check.due("hole(0, 10)", x.hole(0, 10), -1);
        Check.due("hole(0, -1)", x.hole(0, -1), -1);
        Check.due("hole(1, 1)", x.hole(1, 1), -1);
        Check.due("hole(-1, 1)", x.hole(-1, 1), -1);
        Check.due("the HOLE", x.jar(0, 2), 0);
        x.hole(0, 2);
        x.bells(1);
        Check.due("what goes out by it", x.jar(0, 0), 3);
        x.undo();
        Check.due("undo() leaves it", x.jar(0, 2), 2);
    }

    private static void promise8() {
        JarsThatLeak x = Check.with("9/5,1,0,3;9/5,1,0,3;9/5,1,0,2");
        Check.due("one of less HEIGHT", x.below(0, 2), true);
        Check.due("it is below", x.jar(0, 5), 2);
        Check.due("one of the same HEIGHT", x.below(0, 1), false);
        Check.due("one of more HEIGHT", x.below(2, 1), false);
        Check.due("itself", x.below(0, 0), false);
        Check.due("none such", x.below(0, 3), false);
        Check.due("below none", x.below(0, -2), false);
        Check.due("of none such", x.below(3, 2), false);
        Check.due("of none such, none", x.below(-1, -1), false);
        Check.due("refused calls change nothing", x.jar(0, 5), 2);
        Check.due("none", x.below(0, -1), true);
        Check.due("none is below", x.jar(0, 5), -1);
    }

    private static void sheet(JarsThatLeak x, int[] call, int want, int... holes) {
        String name = "sheet" + Arrays.toString(call);
        Check.due(name, x.sheet(call[0], call[1], call[2], call[3]), want);
        for (int jar = 0; jar < holes.length; jar++) {
            Check.due(name + " of jar " + jar, x.jar(jar, 2), holes[jar]);
        }
    }

    private static void promise9() {
        JarsThatLeak x = Check.with("9/5,1,0,3;9/5,2,0,3;9/5,3,0,3");
        sheet(x, new int[] {4, 1, 1, 1}, -1, 1, 2, 3);
        sheet(x, new int[] {-1, 1, 1, 1}, -1, 1, 2, 3);
        sheet(x, new int[] {0, 10, 1, 1}, -1, 1, 2, 3);
        sheet(x, new int[] {3, 10, 1, 1}, -1, 1, 2, 3);
        sheet(x, new int[] {4, -1, 1, 1}, -1, 1, 2, 3);
        sheet(x, new int[] {0, -1, 1, 1}, -2, 1, 2, 3);
        sheet(x, new int[] {2, -7, 1, 1}, -2, 1, 2, 3);
        sheet(x, new int[] {3, -1, 1, 1}, -3, 0, 0, 0);
        sheet(x, new int[] {2, 3, 4, 2}, 18, 4, 6, 8);
        sheet(x, new int[] {2, 2, 4, 2}, 10, 4, 6, 0);
        sheet(x, new int[] {2, 9, 4, 2}, 18, 4, 6, 8);
        sheet(x, new int[] {2, 3, -1, 6}, 14, 0, 5, 9);
        sheet(x, new int[] {0, 3, 127, 1}, 9, 9, 0, 0);
        sheet(x, new int[] {0, 3, 255, 2}, 4, 0, 1, 3);
        sheet(x, new int[] {1, 3, 32767, 1}, 9, 9, 0, 0);
        sheet(x, new int[] {1, 3, 65535, 2}, 4, 0, 1, 3);
        sheet(x, new int[] {1, 3, 255, 2}, 27, 9, 9, 9);
        sheet(x, new int[] {2, 3, 65535, 2}, 27, 9, 9, 9);
        sheet(x, new int[] {2, 3, Integer.MAX_VALUE, 1}, 9, 9, 0, 0);
        sheet(x, new int[] {2, 0, 5, 5}, 0, 0, 0, 0);
        x.hole(1, 5);
        sheet(x, new int[] {3, 9, 1, 1}, -3, 0, 0, 0);
        sheet(new JarsThatLeak(), new int[] {0, 9, 1, 1}, 0);
    }
}
