import java.lang.reflect.InvocationTargetException;
import java.lang.reflect.Method;
import java.lang.reflect.Modifier;
import java.util.Arrays;
import java.util.List;
import java.util.Random;

/**
 * Every call with arguments of all sizes, in parks of all kinds, and texts of any bytes: what is thrown is
 * what the document lets the call throw, and a throw statement of the class throws it, never the machine.
 */
public final class AnyArgumentsTest {
    private static final int[] NUMBERS = {
        Integer.MIN_VALUE, -2, -1, 0, 1, 2, 3, 8, 11, 12, 29, 30, 60, 400, Integer.MAX_VALUE};
    private static final int MOST_TRIED = 4000;
    private static final String[] THINGS = {
        "way ", "more ", "wall ", "bar ", "if ", "not ", "and ", "or ", "man", "dog", "far", "mx", "my", "dx", "dy",
        "(", ")", "<", ">", "+", ";", " ", "0 ", "7 ", "11 ", "999 ", "1000 ", "9999999", "10000000", "\0", "\t", "\u00ff"};

    private static final Random chance = new Random(14);

    public static void main(String[] args) {
        callsOn("new", new LeadPark());
        callsOn("small", small());
        callsOn("small, gone back to its image", goneBack());
        callsOn("largest", largest());
        for (int run = 0; run < 3000; run++) {
            textsOfAnything();
        }
        Checks.finish();
    }

    private static LeadPark small() {
        LeadPark x = Texts.parkOf("way 0 0 10 0 20 0;way 0 3 10 4 20 3;way 5 5");
        Texts.law(x, "bar if man > 1 and dog < 1");
        x.mark(false, 1, 2, 3);
        x.mark(true, 1, 2, 3);
        x.begin(0, 1, 400);
        x.step(3);
        return x;
    }

    private static LeadPark goneBack() {
        LeadPark x = small();
        x.image();
        x.step(3);
        Texts.park(x, "way 1 1");
        x.again();
        return x;
    }

    /** As much of all as there can be, with the longest law. */
    private static LeadPark largest() {
        LeadPark x = Texts.largest();
        Texts.park(x, Texts.repeated("wall 999 0 999 999", ";", 8));
        while (x.count(2) < 16) {
            Texts.park(x, " ");
        }
        String line = "bar if man+dog+far+mx+my+dx<dy";
        Texts.law(x, Texts.repeated(line, ";", 11) + ";bar if not(not(man<man+0))");
        for (int k = 0; k < 20; k++) {
            x.mark(k % 3 == 0, 999 * (k % 2), 999 * (k % 3 % 2), 0);
        }
        Checks.isTrue("the walk is begun", x.begin(11, 11, 0));
        Checks.isTrue("it has come to its ends", x.live(60) >= 29 && x.on(4) == 1);
        return x;
    }

    private static void callsOn(String name, LeadPark x) {
        for (Method method : LeadPark.class.getDeclaredMethods()) {
            if (!Modifier.isPublic(method.getModifiers())) {
                continue;
            }
            int choices = 1;
            for (Class<?> type : method.getParameterTypes()) {
                choices *= type == boolean.class ? 2 : NUMBERS.length;
            }
            boolean all = choices <= MOST_TRIED;
            for (int k = 0; k < Math.min(choices, MOST_TRIED); k++) {
                callOnce(name, x, method, choice(method, all ? k : chance.nextInt(choices)));
            }
        }
    }

    private static Object[] choice(Method method, int number) {
        Class<?>[] types = method.getParameterTypes();
        Object[] arguments = new Object[types.length];
        int rest = number;
        for (int k = 0; k < types.length; k++) {
            boolean flag = types[k] == boolean.class;
            int many = flag ? 2 : NUMBERS.length;
            arguments[k] = flag ? (Object) (rest % 2 == 1) : (Object) NUMBERS[rest % many];
            rest /= many;
        }
        return arguments;
    }

    private static void callOnce(String name, LeadPark x, Method method, Object[] arguments) {
        String call = name + ": " + method.getName() + Arrays.toString(arguments);
        try {
            method.invoke(x, arguments);
        } catch (InvocationTargetException e) {
            Checks.text(call, "is let throw", judged(method, e.getCause()));
        } catch (IllegalAccessException e) {
            throw new IllegalStateException(e);
        }
    }

    private static String judged(Method method, Throwable thrown) {
        List<Class<?>> let = List.of(method.getExceptionTypes());
        StackTraceElement[] frames = thrown.getStackTrace();
        boolean byClass = frames.length == 0 || frames[0].getClassName().startsWith("LeadPark");
        return let.contains(thrown.getClass()) && byClass ? "is let throw" : "throws " + thrown;
    }

    private static void textsOfAnything() {
        StringBuilder text = new StringBuilder();
        int most = chance.nextInt(401);
        while (true) {
            String thing = THINGS[chance.nextInt(THINGS.length)];
            if (text.length() + thing.length() > most) {
                break;
            }
            text.append(thing);
        }
        int opens = chance.nextInt(10);
        for (String reader : new String[] {"park", "law", "judge"}) {
            LeadPark x = small();
            String begun = reader.equals("law") ? "bar if " + Texts.repeated("(", "", opens) : "";
            String whole = begun + text;
            whole = whole.substring(0, Math.min(400, whole.length()));
            Texts.tape(x, whole);
            String answer = reader.equals("park") ? Checks.outcome(x::park)
                    : reader.equals("law") ? Checks.outcome(x::law)
                    : Checks.outcome(() -> x.judge(0, 1, 400));
            boolean wrong = answer.equals("throws.IllegalArgumentException");
            Checks.isTrue(reader + " of [" + whole + "] answers " + answer, wrong || !answer.startsWith("throws"));
            if (!reader.equals("judge")) {
                Checks.isTrue("fault of [" + whole + "] is there if it is wrong",
                        wrong ? x.fault() >= 0 && x.fault() <= whole.length() : x.fault() == LeadPark.NONE);
            }
            Checks.equal("the tape is used up by [" + whole + "]", 20, x.feed(0, 0, 0, 0, 0));
        }
    }
}
