/** The Terms, at their edges. */
public final class EdgesOfTermsTest {
    public static void main(String[] args) {
        Edges.terms(1);
        jars();
        drops();
        debtsAndTown();
        lawSigns();
        lawWorth();
        lawLetters();
        Edges.terms(2);
        bell();
        bellBelow();
        pouring();
        rows();
        refused();
        Edges.finish();
    }

    private static void comes(String text) {
        Check.due(text, Check.town(new JarsThatLeak(), text), 1);
    }

    private static void flaw(String text, int place) {
        Check.due(text, Check.town(new JarsThatLeak(), text), -1 - place);
    }

    private static void jars() {
        Edges.edge("JARS 0 .. (at most 9)", () -> {
            JarsThatLeak x = new JarsThatLeak();
            for (int many = 1; many <= 9; many++) {
                Check.due("jar number " + (many - 1), Check.town(x, "1/1,1,1,1"), 1);
                Check.due("how many there are", x.count(0), many);
            }
            Check.due("a tenth", Check.town(x, "1/1,1,1,1"), -1);
            Check.due("jar 8", Check.jarAt(x, 8, 1), 1);
            Check.due("jar 9", Check.jarAt(x, 9, 1), Check.THROWS);
        });
        Edges.edge("HOLDS 1 .. 60", () -> {
            flaw("0/0,1,1,1", 0);
            comes("1/0,1,1,1");
            comes("60/0,1,1,1");
            flaw("61/0,1,1,1", 1);
            Check.due("one of 1 holds 1", Check.with("1/0,1,1,1").spring(0, 0, 60), 1);
            Check.due("one of 60 holds 60", Check.with("60/0,1,1,1").spring(0, 0, 60), 60);
        });
        Edges.edge("HOLE 0 .. 9", () -> {
            Check.due("0 lets none go", Check.with("60/60,0,0,0").bells(200), 0);
            Check.due("9 lets nine go", Check.with("60/60,9,0,0").bells(1), 9);
        });
        Edges.edge("OWNER 0 .. 5", () -> {
            comes("1/1,1,0,1");
            comes("1/1,1,5,1");
            flaw("1/1,1,6,1", 6);
        });
        Edges.edge("HEIGHT 0 .. 9", () -> {
            JarsThatLeak x = Check.with("1/0,1,0,0;1/0,1,0,2>0;1/0,1,0,3>1;1/0,1,0,4>2;1/0,1,0,5>3;1/0,1,0,6>4");
            Check.due("up to 9", Check.town(x, "1/0,1,0,7>5;1/0,1,0,8>6;1/1,1,0,9>7"), 3);
            Check.due("all over one another", x.above(0), 511);
            Check.due("a drop goes down through nine", x.comes(0, 0), 8);
        });
        Edges.edge("perhaps a JAR BELOW (of less HEIGHT)", () -> {
            Check.due("none", Check.jarAt(Check.with("1/1,1,1,1"), 0, 5), -1);
            Check.due("of 1 less", Check.town(Check.with("1/1,1,1,1"), "1/1,1,1,2>0"), 1);
            Check.due("of the same", Check.town(Check.with("1/1,1,1,1"), "1/1,1,1,1>0"), -11);
        });
    }

    private static void drops() {
        Edges.edge("DROPS in it in a row, the oldest first (LEVEL: how many)", () -> {
            JarsThatLeak x = Check.with("3/0,1,4,1");
            Check.due("an empty one", x.jar(0, 0), 0);
            Check.due("has no oldest", x.drop(0, 0), -1);
            x.spring(0, 6, 1);
            x.spring(0, 2, 2);
            Check.dueText("a full one", Check.jarText(x, 0), "3 3 1 4 1 -1 0 :622");
            x.bells(1);
            x.spring(0, 3, 1);
            Check.dueText("the oldest went", Check.jarText(x, 0), "3 3 1 4 1 -1 0 :223");
        });
        Edges.edge("WAX (bells for which it still stops the HOLE; at first 0)", () -> {
            JarsThatLeak x = Check.with("9/9,1,0,0");
            Check.due("at first", x.jar(0, 6), 0);
            x.wax(0, 1);
            Check.due("for 1 bell: the first", x.bells(1), 0);
            Check.due("for 1 bell: the second", x.bells(1), 1);
            JarsThatLeak long99 = Check.with("9/9,1,0,0");
            long99.wax(0, 99);
            Check.due("for 99 bells", long99.bells(99), 0);
            Check.due("the hundredth", long99.bells(1), 1);
        });
        Edges.edge("Each DROP has an ORIGIN 0 .. 6; at first that is the OWNER of the JAR", () -> {
            JarsThatLeak x = Check.with("60/60,1,0,0;60/60,1,5,0;9/0,1,5,0");
            Check.due("of owner 0", x.share(0, 0), 60);
            Check.due("of owner 5", x.share(1, 5), 60);
            x.spring(2, 0, 1);
            x.spring(2, 6, 1);
            Check.due("origin 0", x.drop(2, 0), 0);
            Check.due("origin 6", x.drop(2, 1), 6);
            Check.due("origin 7", x.spring(2, 7, 1), -1);
        });
    }

    private static void debtsAndTown() {
        Edges.edge("DEBTS of OWNERS to other ones: 0 .. 999 DROPS (at first 0)", () -> {
            JarsThatLeak x = new JarsThatLeak();
            Check.due("at first", x.owes(4, 5), 0);
            Check.town(x, "d4>5*999");
            Check.due("999", x.owes(4, 5), 999);
            Check.town(x, "d4>5*0");
            Check.due("0", x.owes(4, 5), 0);
        });
        Edges.edge("THE TOWN is a text of at most 76 signs: LINES with ; between, what they tell comes behind what there is", () -> {
            JarsThatLeak x = Check.with("1/1,1,1,1");
            Check.due("one line has no ;", Check.town(x, "2/1,1,1,1"), 1);
            Check.due("two lines have one", Check.town(x, "3/1,1,1,1;4/1,1,1,1"), 2);
            for (int jar = 0; jar < 4; jar++) {
                Check.due("jar " + jar, x.jar(jar, 1), jar + 1);
            }
            String ten = "d0>1*1;d0>1*1;d0>1*1;d0>1*1;d0>1*1;d0>1*1;d0>1*1;d0>1*1;d0>1*1;d0>1*1;";
            Check.due("76 signs", Check.town(x, ten + "d1>0*7"), 11);
            Check.due("77 signs", Check.town(x, ten + "d1>0*77"), -77);
        });
        Edges.edge("a JAR: HOLDS (1 or 2 digits), /, LEVEL (1 or 2 digits), a comma, HOLE, a comma, OWNER, a comma, "
            + "HEIGHT (digits), and perhaps > and a JAR (a digit; BELOW)", () -> {
            comes("1/1,1,1,1");
            comes("01/01,1,1,1");
            flaw("001/01,1,1,1", 1);
            flaw("100/01,1,1,1", 2);
            flaw("010/01,1,1,1", 2);
            flaw("10/010,1,1,1", 5);
            flaw("/1,1,1,1", 0);
            flaw("1/,1,1,1", 2);
            flaw("1/1,,1,1", 4);
            flaw("1/1,11,1,1", 5);
            flaw("1/1,1,,1", 6);
            flaw("1/1,1,11,1", 7);
            flaw("1/1,1,1,", 8);
            flaw("1/1,1,1,11", 9);
            flaw("1/1,1,1,1>", 10);
            Check.due("two digits of a JAR", Check.town(Check.with("1/1,1,1,0"), "1/1,1,1,1>00"), -12);
        });
        Edges.edge("or a DEBT: d, an OWNER, >, another one, *, DROPS (1 to 3 digits), which it is then", () -> {
            comes("d0>5*0");
            comes("d5>0*99");
            comes("d5>0*000");
            comes("d5>0*999");
            flaw("d5>0*1000", 8);
            flaw("d5>0*", 5);
            flaw("d5>*1", 3);
            flaw("d>0*1", 1);
            JarsThatLeak x = Check.with("d1>2*30;d1>2*4");
            Check.due("not so much more, but so much", x.owes(1, 2), 4);
        });
    }

    private static void law(String text, int answer) {
        Check.due("the law " + text, Check.law(new JarsThatLeak(), text), answer);
    }

    private static void worth(String text, int want) {
        JarsThatLeak x = Check.with("9/9,1,1,1");
        Check.due("the law " + text, Check.law(x, text), 0);
        Check.due(text, x.jar(0, 7), want);
    }

    private static void lawSigns() {
        Edges.edge("THE LAW is a text of at most 40 signs (at first none: 1)", () -> {
            JarsThatLeak x = Check.with("9/9,1,1,1");
            Check.due("at first", x.jar(0, 7), 1);
            Check.due("wax by no law", x.wax(0, 1), true);
            law("1+1+1+1+1+1+1+1+1+1+1+1+1+1+1+1+1+1+1+11", 0);
            law("1+1+1+1+1+1+1+1+1+1+1+1+1+1+1+1+1+1+1+111", -41);
        });
        Edges.edge("EXPRESSION: < > = bind least (two; 1 or 0; not one behind the other)", () -> {
            worth("1+2<4", 1);
            worth("4>2*2", 0);
            worth("0=-0", 1);
            worth("3<2", 0);
            worth("2<2", 0);
            worth("2>2", 0);
            worth("2=2", 1);
            worth("2=3", 0);
            worth("(3>2)>0", 1);
            law("1<2<3", -4);
            law("1<2=3", -4);
            law("1=2>3", -4);
            law("1<", -3);
            law("<1", -1);
        });
        Edges.edge("things: a NUMBER of 1 to 3 digits", () -> {
            worth("0", 0);
            worth("000", 0);
            worth("999", 999);
            law("0000", -4);
            law("", 0);
        });
        Edges.edge("an EXPRESSION in ( ) (at most 4 in one another)", () -> {
            worth("((((7))))", 7);
            law("(((((7)))))", -5);
            worth("((((7))))+((((8))))", 15);
            law("()", -2);
            law("(1", -3);
            law("1)", -2);
        });
    }

    private static void lawWorth() {
        Edges.edge("then + - (from the left), then * / (from the left;", () -> {
            worth("9-5-3", 1);
            worth("2-9+5", -2);
            worth("1/2*2", 0);
            worth("2*1/2", 1);
            worth("2+3*-4", -10);
        });
        Edges.edge("by 0: 0;", () -> {
            worth("9/0", 0);
            worth("0/0", 0);
            worth("-9/0", 0);
            worth("5+9/(3-3)*7", 5);
            worth("9/5/0+2", 2);
            worth("128*256*256*256/0", 0);
        });
        Edges.edge("cut to 0)", () -> {
            worth("7/2", 3);
            worth("-7/2", -3);
            worth("7/-2", -3);
            worth("-7/-2", 3);
            worth("1/2", 0);
            worth("-1/2", 0);
        });
        Edges.edge("then - ahead of a thing (any many)", () -> {
            worth("-0", 0);
            worth("5--5", 10);
            worth("5*--5", 25);
            worth("---------------------------------------5", -5);
            worth("--------------------------------------55", 55);
            law("-", -2);
            law("5-", -3);
        });
        Edges.edge("As ints", () -> {
            worth("128*256*256*256", Integer.MIN_VALUE);
            worth("128*256*256*256-1", Integer.MAX_VALUE);
            worth("(128*256*256*256-1)+1", Integer.MIN_VALUE);
            worth("-(128*256*256*256)", Integer.MIN_VALUE);
            worth("128*256*256*256/-1", Integer.MIN_VALUE);
            worth("128*256*256*256<0", 1);
            worth("256*256*256*256", 0);
            worth("128*256*256*256*2", 0);
        });
        Edges.edge("A JAR may get WAX, if THE LAW is not 0 for it", () -> {
            JarsThatLeak x = Check.with("9/9,1,1,1;9/9,1,1,1;9/9,1,1,1");
            Check.law(x, "j-1");
            Check.due("0", x.wax(1, 1), false);
            Check.due("below 0", x.wax(0, 1), true);
            x.bells(1);
            Check.due("above 0", x.wax(2, 1), true);
            x.bells(1);
            Check.law(x, "256*256*256*256");
            Check.due("0 by going round", x.wax(2, 1), false);
        });
    }

    private static void lawLetters() {
        Edges.edge("of a JAR: j its number, b BELLS, t BELLS less 12 times as many whole twelves as there are in them", () -> {
            JarsThatLeak x = Check.with("9/9,1,1,1;9/9,1,1,1;9/9,1,1,1");
            int[][] want = {{0, 0}, {1, 1}, {10, 11}, {1, 0}, {1, 1}, {10, 11}, {1, 0}, {200, 8}};
            int bells = 0;
            for (int[] w : want) {
                x.bells(w[0]);
                bells += w[0];
                Check.law(x, "t");
                Check.due("t at " + bells, x.jar(0, 7), w[1]);
                Check.law(x, "b");
                Check.due("b at " + bells, x.jar(0, 7), bells);
            }
            Check.law(x, "j");
            Check.due("j of 0", x.jar(0, 7), 0);
            Check.due("j of 2", x.jar(2, 7), 2);
        });
        Edges.edge("l LEVEL, h HOLE, c HOLDS, o OWNER, g HEIGHT, w WAX, d what its OWNER owes in all", () -> {
            JarsThatLeak x = Check.with("60/60,9,5,9;1/0,0,0,0;d5>0*999;d5>1*999;d5>2*999;d5>3*999;d5>4*999");
            x.wax(0, 99);
            String letters = "lhcogwd";
            int[] most = {60, 9, 60, 5, 9, 99, 4995};
            int[] least = {0, 0, 1, 0, 0, 0, 0};
            for (int i = 0; i < letters.length(); i++) {
                Check.law(x, letters.substring(i, i + 1));
                Check.due(letters.charAt(i) + " at the most", x.jar(0, 7), most[i]);
                Check.due(letters.charAt(i) + " at the least", x.jar(1, 7), least[i]);
            }
        });
    }

    private static void bell() {
        Edges.edge("BELLS: a number, at first 0", () -> {
            JarsThatLeak x = new JarsThatLeak();
            Check.due("at first", x.count(1), 0);
            x.bells(200);
            x.bells(200);
            Check.due("then", x.count(1), 400);
            JarsThatLeak longest = new JarsThatLeak();
            for (int call = 1; call < 512; call++) {
                longest.bells(200);
            }
            Check.due("the most, by the 512th call", longest.count(1), 102200);
        });
        Edges.edge("A BELL goes by: of the LEVELS as they are, out of each JAR without WAX go as many DROPS as its HOLE is, "
            + "or all, if it has fewer, the oldest first", () -> {
            JarsThatLeak x = Check.with("9/9,3,0,0;9/3,3,0,0;9/2,3,0,0;9/0,3,0,0");
            Check.due("3, 3, 2 and 0 go", x.bells(1), 8);
            Check.row(x, "a bell", 3, 6);
            JarsThatLeak over = Check.with("9/0,9,0,0;9/5,5,1,1>0");
            Check.due("what comes does not go on at once", over.bells(1), 0);
            Check.due("it is there", over.jar(0, 0), 5);
            over.wax(0, 1);
            Check.due("out of one with wax none", over.bells(1), 0);
            Check.due("as it was", over.jar(0, 0), 5);
        });
        Edges.edge("then each WAX is 1 less (0 at least)", () -> {
            JarsThatLeak x = Check.with("9/9,1,0,0;9/9,1,0,0");
            x.wax(0, 2);
            int[] want = {1, 0, 0};
            for (int wax : want) {
                x.bells(1);
                Check.due("wax", x.jar(0, 6), wax);
                Check.due("of one without", x.jar(1, 6), 0);
            }
        });
    }

    private static void bellBelow() {
        Edges.edge("then, JAR by JAR by numbers, those that went come, in their order, behind what is left in the JAR BELOW", () -> {
            JarsThatLeak x = Check.with("9/3,1,0,0;9/0,2,1,9>0;9/0,2,2,1>0");
            x.spring(2, 2, 2);
            x.spring(1, 1, 1);
            x.spring(1, 6, 1);
            x.bells(1);
            Check.dueText("left, then of jar 1, then of jar 2", Check.jarText(x, 0), "6 9 1 0 0 -1 0 :001622");
        });
        Edges.edge("as many as it still HOLDS (that one having let go its own), the others to THE SAND (as do all without a JAR BELOW)", () -> {
            JarsThatLeak x = Check.with("4/4,2,0,0;9/0,3,1,1>0");
            x.spring(1, 1, 2);
            x.spring(1, 6, 1);
            Check.due("two of the full one, one of three", x.bells(1), 3);
            Check.dueText("two of three came", Check.jarText(x, 0), "4 4 2 0 0 -1 0 :0011");
            JarsThatLeak stopped = Check.with("4/4,0,0,0;9/3,3,1,1>0");
            Check.due("into a full one none", stopped.bells(1), 3);
            JarsThatLeak just = Check.with("4/1,0,0,0;9/3,3,1,1>0");
            Check.due("just as many as it holds", just.bells(1), 0);
            Check.due("it is full", just.jar(0, 0), 4);
        });
        Edges.edge("LOST: how many went to THE SAND", () -> {
            JarsThatLeak x = Check.with("9/9,9,0,0");
            Check.due("at first", x.count(2), 0);
            x.spring(0, 0, 60);
            Check.due("not what the spring has too many", x.count(2), 0);
            x.bells(1);
            Check.due("then", x.count(2), 9);
            x.bells(200);
            Check.due("none of an empty one", x.count(2), 9);
        });
    }

    private static void pouring() {
        Edges.edge("To pour n DROPS of a JAR into another one: its n oldest ones come behind those there; it has to have as many, "
            + "and the other one to hold as many more", () -> {
            JarsThatLeak x = Check.with("9/0,0,0,0;9/6,0,1,0");
            x.spring(0, 2, 2);
            x.spring(0, 3, 2);
            Check.due("as many as it has and 1", x.pour(0, 1, 5), -2);
            Check.due("as many as it holds more and 1", x.pour(0, 1, 4), -3);
            Check.due("as many as it holds more", x.pour(0, 1, 3), 3);
            Check.dueText("the oldest, behind", Check.jarText(x, 1), "9 9 0 1 0 -1 0 :111111223");
            Check.dueText("the others are left", Check.jarText(x, 0), "1 9 0 0 0 -1 0 :3");
            Check.due("all that it has", Check.with("9/4,0,0,0;9/0,0,1,0").pour(0, 1, 4), 4);
        });
        Edges.edge("A POURING is told as 1000 times the JAR from, 100 times the JAR to, and DROPS", () -> {
            JarsThatLeak x = Check.with("1/0,0,0,0;1/0,0,0,0;1/0,0,0,0;1/0,0,0,0;1/0,0,0,0;1/0,0,0,0;1/0,0,0,0");
            Check.town(x, "60/0,0,1,0;60/60,0,0,0;d0>1*60");
            Check.due("8760", x.judge(1, 8760, 0, 0), -2);
            Check.row(x, "8760", 60, 0);
            Check.due("payoff()", x.payoff(), 1);
            Check.row(x, "payoff()", 8760);
            Check.due("8761", x.judge(1, 8761, 0, 0), 0);
            JarsThatLeak low = Check.with("9/1,0,0,0;9/0,0,1,0;d0>1*1");
            Check.due("101", low.judge(1, 101, 0, 0), -2);
            Check.due("payoff() of 101", low.payoff(), 1);
            Check.row(low, "payoff() of 101", 101);
        });
    }

    private static void rows() {
        Edges.edge("ROW: numbers told last by a call that says so", () -> {
            JarsThatLeak x = Check.with("9/9,1,0,0");
            Check.row(x, "none yet");
            x.tax(1);
            Check.row(x, "tax(1)", 1, 0, 0, 0, 0, 0, 0);
            x.flood(0, 1);
            Check.row(x, "a shorter one", 0);
            x.later(0, 1);
            x.dry(0);
            x.count(6);
            x.spring(0, 0, 1);
            Check.row(x, "calls that say nothing of it", 0);
            x.payoff();
            Check.row(x, "an empty one");
        });
        Edges.edge("Rows of numbers are compared from the first on", () -> {
            JarsThatLeak x = Check.with("9/2,0,0,0;9/2,0,0,0;9/0,0,1,0;9/0,0,1,0;d0>1*4");
            // 202 and 1202, 202 and 1302, 302 and .., or jar 1 first
            Check.due("two", x.payoff(), 2);
            Check.row(x, "two", 202, 1202);
        });
    }

    private static void refused() {
        Edges.edge("Refused calls answer NONE, or false, and change nothing but THE TEXT, which a call that reads it empties", () -> {
            Check.due("NONE", JarsThatLeak.NONE, -1);
            Twins.idle("bells(-1)", Twins::rich, x -> x.bells(-1), -1);
            Twins.idle("wax(3, 1)", Twins::rich, x -> Twins.one(x.wax(3, 1)), 0);
            Twins.idleButText("an order that is none", Twins::rich, x -> x.order(), -1);
            Twins.idleButText("a law that is none", Twins::rich, x -> x.law(), -4);
            Check.due("a town empties it, too", Twins.rich().town(), 1);
            JarsThatLeak x = Twins.rich();
            x.town();
            Check.due("so", x.count(7), 0);
        });
    }
}
