import com.sun.management.ThreadMXBean;
import java.lang.management.ManagementFactory;
import java.lang.reflect.Array;
import java.lang.reflect.Field;
import java.lang.reflect.Modifier;
import java.util.ArrayDeque;
import java.util.ArrayList;
import java.util.Collections;
import java.util.Deque;
import java.util.IdentityHashMap;
import java.util.List;
import java.util.Set;

/** What is made: rows by the constructor alone, no object and no row by a call (rule 12 of LANGUAGE.md). */
public final class RoomTest {
    private static final ThreadMXBean THREADS = (ThreadMXBean) ManagementFactory.getThreadMXBean();
    /** Of the room of a run, 7.3 million fields and elements and 600,000 objects, what a new object may take. */
    private static final int MOST_ELEMENTS = 60_000;
    private static final int MOST_OBJECTS = 300;
    private static final int TIMES = 5;
    private static final int MORE_CALLS = 100;

    private static final String[] TOWNS = {
        "9/5,1,0,0;9/5,1,1,4>0;d0>1*4;d1>0*8",
        "60/59,1,0,0;59/58,1,0,0;58/57,1,0,0;60/31,1,1,0;59/22,1,1,0;d0>1*53;d1>0*31",
        "3/1,0,0,0;7/4,0,1,0;13/2,0,1,0;6/4,0,1,0;d0>1*27;d1>0*38"};

    private interface Call {
        void make(JarsThatLeak x);
    }

    private static final List<String> NAMES = new ArrayList<>();
    private static final List<Call> ALL = new ArrayList<>();

    public static void main(String[] args) throws IllegalAccessException {
        newObject();
        name();
        for (int i = 0; i < ALL.size(); i++) {
            for (String town : TOWNS) {
                calls(i, town);
            }
        }
        Check.finish();
    }

    private static void newObject() throws IllegalAccessException {
        JarsThatLeak x = Check.with(TOWNS[0]);
        x.payoff();
        Set<Object> found = Collections.newSetFromMap(new IdentityHashMap<>());
        Deque<Object> open = new ArrayDeque<>();
        open.add(x);
        found.add(x);
        long elements = 0;
        while (!open.isEmpty()) {
            Object one = open.remove();
            if (one.getClass().isArray()) {
                int length = Array.getLength(one);
                elements += length;
                for (int i = 0; i < length && one instanceof Object[] row; i++) {
                    meet(row[i], found, open);
                }
                continue;
            }
            for (Field field : one.getClass().getDeclaredFields()) {
                if (!Modifier.isStatic(field.getModifiers())) {
                    elements++;
                    field.setAccessible(true);
                    meet(field.getType().isPrimitive() ? null : field.get(one), found, open);
                }
            }
        }
        Check.due("the " + elements + " elements of an object are few", elements <= MOST_ELEMENTS, true);
        Check.due("the " + found.size() + " objects of an object are few", found.size() <= MOST_OBJECTS, true);
    }

    private static void meet(Object one, Set<Object> found, Deque<Object> open) {
        if (one != null && found.add(one)) {
            open.add(one);
        }
    }

    /** The machine makes something of its own now and then: what a call makes, it makes every time. */
    private static void calls(int which, String town) {
        long first = Long.MAX_VALUE;
        long all = Long.MAX_VALUE;
        for (int time = 0; time < TIMES; time++) {
            JarsThatLeak x = Check.with(town);
            Check.type(x, "b1;p0>1*1;w0*3;s1*2");
            Call call = ALL.get(which);
            long ahead = THREADS.getCurrentThreadAllocatedBytes();
            call.make(x);
            first = Math.min(first, THREADS.getCurrentThreadAllocatedBytes() - ahead);
            for (int i = 0; i < MORE_CALLS; i++) {
                call.make(x);
            }
            all = Math.min(all, THREADS.getCurrentThreadAllocatedBytes() - ahead);
        }
        Check.due("bytes made by " + NAMES.get(which) + " at first", first, 0);
        Check.due("bytes made by many calls of " + NAMES.get(which), all, 0);
    }

    private static void say(String name, Call call) {
        NAMES.add(name);
        ALL.add(call);
    }

    private static void name() {
        say("sign", x -> x.sign(0x392F342C));
        say("end", x -> x.end(2));
        say("town", x -> x.town());
        say("a town of many lines", x -> {
            x.sign(0x64303E31);
            x.sign(0x2A313B64);
            x.sign(0x303E312A);
            x.sign(0x32323232);
            x.end(13);
            x.town();
        });
        say("law", x -> {
            x.end(0);
            x.sign(0x2831392B);
            x.sign(0x6C293C33);
            x.law();
            x.jar(0, 7);
        });
        say("jar", x -> x.jar(1, 0));
        say("hole", x -> x.hole(0, 3));
        say("below", x -> x.below(1, 0));
        say("sheet", x -> x.sheet(0, 2, 1, 1));
        say("spring", x -> x.spring(0, 6, 1));
        say("pour", x -> x.pour(0, 1, 1));
        say("wax", x -> x.wax(0, 5));
        say("bells", x -> x.bells(2));
        say("undo", x -> {
            x.spring(0, 6, 1);
            x.undo();
        });
        say("judge", x -> x.judge(3, 101, 1001, 102));
        say("order", x -> x.order());
        say("owes", x -> x.owes(0, 1));
        nameMore();
    }

    private static void nameMore() {
        say("rest", x -> x.rest());
        say("dry", x -> x.dry(1));
        say("later", x -> x.later(1, 40));
        say("flood", x -> x.flood(0, 40));
        say("above", x -> x.above(0));
        say("least", x -> x.least(1, 0, 9, 3));
        say("stops", x -> x.stops(0, 5, 3));
        say("saves", x -> x.saves(2, 9));
        say("place", x -> x.place(1, 9));
        say("payoff", x -> x.payoff());
        say("pays", x -> x.pays(0, 1));
        say("soonest", x -> x.soonest(0, 1));
        say("latest", x -> x.latest(0, 1));
        say("settle", x -> x.settle());
        say("share", x -> x.share(0, 0));
        say("cup", x -> x.cup(0, 9));
        say("spread", x -> x.spread(0));
        say("comes", x -> x.comes(0, 1));
        say("marks", x -> x.marks(0));
        say("tax", x -> x.tax(20));
        say("drop", x -> x.drop(0, 0));
        say("seen", x -> x.seen(0, 0, 5));
        say("forget", x -> {
            x.seen(0, 0, 5);
            x.forget();
        });
        say("holes", x -> x.holes(0));
        say("explains", x -> x.explains());
        say("looks", x -> x.looks(4));
        say("secret", x -> x.secret());
        say("keep", x -> x.keep(0));
        say("again", x -> {
            x.keep(1);
            x.again(1);
        });
        say("count", x -> x.count(8));
        say("row", x -> {
            x.cup(0, 1);
            x.row(0);
        });
    }
}
