import java.util.Arrays;
import java.util.List;
import java.util.function.Function;
import java.util.function.Supplier;
import java.util.function.ToIntFunction;

/**
 * Whether a call changes anything: of two objects made alike one gets the call, and then both
 * are looked at in every way there is, those that change them, too (each on new twins).
 */
final class Twins {
    private static final int LEAST_INT = Integer.MIN_VALUE;
    private static final int MOST_INT = Integer.MAX_VALUE;
    /** What rich() has not, or what is not in the bounds that the document tells: just outside, and as far as can be. */
    static final int[] NO_JARS = {-1, 3, 9, LEAST_INT, MOST_INT};
    static final int[] NO_BELLS = {-1, 201, LEAST_INT, MOST_INT};
    static final int[] NO_LEVELS = {-1, 61, LEAST_INT, MOST_INT};
    static final int[] NO_HOLES = {-1, 10, LEAST_INT, MOST_INT};
    static final int[] NO_OWNERS = {-1, 6, LEAST_INT, MOST_INT};
    static final int[] NO_ORIGINS = {-1, 7, LEAST_INT, MOST_INT};
    static final int[] NO_NUMBERS = {-1, 2, LEAST_INT, MOST_INT};

    interface Call {
        int make(JarsThatLeak x, int number);
    }

    interface Question {
        boolean ask(JarsThatLeak x, int number);
    }

    private static final List<Function<JarsThatLeak, String>> LOOKS = List.of(
        Check::stateText, Twins::goneOn, Twins::undone, x -> keptText(x, 0), x -> keptText(x, 1), Twins::seenText,
        x -> x.wax(0, 1) + " " + x.wax(1, 1));
    private static final List<Function<JarsThatLeak, String>> LOOKS_AT_TEXT = List.of(
        x -> x.count(7) + " " + x.sign(0) + " " + x.town() + Check.stateText(x),
        x -> x.town() + " " + Check.stateText(x), x -> x.law() + " " + Check.stateText(x),
        x -> x.order() + " " + Check.stateText(x));

    private Twins() {
    }

    static int one(boolean answer) {
        return answer ? 1 : 0;
    }

    /** With each of these numbers the call answers NONE, and changes nothing. */
    static void refused(String name, int[] wrong, Call call) {
        for (int number : wrong) {
            idle(name + " " + number, Twins::rich, x -> call.make(x, number), JarsThatLeak.NONE);
        }
    }

    /** With each of these numbers the call answers false, and changes nothing. */
    static void refusedAsFalse(String name, int[] wrong, Question question) {
        for (int number : wrong) {
            idle(name + " " + number, Twins::rich, x -> one(question.ask(x, number)), 0);
        }
    }

    /** Answers so, and changes nothing. */
    static void idle(String name, Supplier<JarsThatLeak> maker, ToIntFunction<JarsThatLeak> call, int want) {
        idleButRow(name, maker, call, want);
        same(name + ": the row", maker, call, x -> Arrays.toString(Check.rowOf(x)));
    }

    /** Answers so, and changes nothing but the ROW. */
    static void idleButRow(String name, Supplier<JarsThatLeak> maker, ToIntFunction<JarsThatLeak> call, int want) {
        idleButRowAndText(name, maker, call, want);
        for (Function<JarsThatLeak, String> look : LOOKS_AT_TEXT) {
            same(name + ": the text", maker, call, look);
        }
    }

    /** Answers so, and changes nothing but THE TEXT, which is empty then. */
    static void idleButText(String name, Supplier<JarsThatLeak> maker, ToIntFunction<JarsThatLeak> call, int want) {
        idleButRowAndText(name, maker, call, want);
        same(name + ": the row", maker, call, x -> Arrays.toString(Check.rowOf(x)));
        JarsThatLeak x = maker.get();
        call.applyAsInt(x);
        Check.due(name + ": the text is empty", x.count(7), 0);
    }

    private static void idleButRowAndText(String name, Supplier<JarsThatLeak> maker, ToIntFunction<JarsThatLeak> call,
            int want) {
        Check.due(name, call.applyAsInt(maker.get()), want);
        for (Function<JarsThatLeak, String> look : LOOKS) {
            same(name + ": what is left", maker, call, look);
        }
    }

    private static void same(String name, Supplier<JarsThatLeak> maker, ToIntFunction<JarsThatLeak> call,
            Function<JarsThatLeak, String> look) {
        JarsThatLeak called = maker.get();
        call.applyAsInt(called);
        Check.dueText(name, look.apply(called), look.apply(maker.get()));
    }

    private static String goneOn(JarsThatLeak x) {
        return x.tax(200) + " " + x.bells(1) + Check.stateText(x) + x.bells(30) + Check.stateText(x);
    }

    private static String undone(JarsThatLeak x) {
        StringBuilder all = new StringBuilder();
        for (int i = 0; i < 13; i++) {
            all.append(x.undo()).append(Check.stateText(x));
        }
        return all.toString();
    }

    private static String keptText(JarsThatLeak x, int i) {
        return x.again(i) + Check.stateText(x) + x.wax(0, 1);
    }

    private static String seenText(JarsThatLeak x) {
        StringBuilder all = new StringBuilder();
        do {
            for (int jar = 0; jar < x.count(0); jar++) {
                all.append(x.holes(jar)).append(' ');
            }
            all.append(x.explains()).append(' ').append(x.secret()).append(';');
        } while (x.forget() >= 0);
        return all.toString();
    }

    /**
     * Three jars, 0 full (9 of 9), 1 empty (of 9), 2 with 6 of 20 and WAX for 5 bells more; 0 owes 1
     * five, 2 owes 0 seven; four calls can be undone, two were seen, both numbers are kept, a row of
     * seven was told, and THE TEXT is that of a jar. No WAX was set this BELL; THE LAW is never 0.
     */
    static JarsThatLeak rich() {
        JarsThatLeak x = Check.with("9/9,1,0,1;9/0,2,1,3>0;20/4,3,2,5>1;d0>1*5;d2>0*7");
        Check.law(x, "l+1");
        x.keep(0);
        x.wax(2, 7);
        x.bells(2);
        x.spring(0, 6, 2);
        x.spring(2, 5, 2);
        x.keep(1);
        x.seen(0, 1, 8);
        x.seen(2, 0, 6);
        x.cup(0, 9);
        Check.type(x, "9/1,1,1,1");
        return x;
    }

    /** The same, WAX having been set this BELL. */
    static JarsThatLeak waxed() {
        JarsThatLeak x = rich();
        x.wax(0, 3);
        return x;
    }
}
