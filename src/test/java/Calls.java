import java.lang.reflect.InvocationTargetException;
import java.lang.reflect.Method;
import java.util.HashMap;
import java.util.Map;

/**
 * Calls told as texts with a blank between two, such as "press()=1 hit(5,60)=60 write(p,t) loudness()": behind "=" the
 * answer that is due, where one is told. write(..) appends the characters up to the last bracket, one call each.
 */
final class Calls {
    /** What an object answers behind so many calls is free, so no test may ask for it. */
    private static final int MOST_CALLS = 512;
    private static final Map<String, Method> FACE = new HashMap<>();

    static {
        for (Method method : PedalLayers.class.getDeclaredMethods()) {
            FACE.put(method.getName() + method.getParameterCount(), method);
        }
    }

    final PedalLayers pedal = new PedalLayers();
    private int made;

    /** Makes the calls on a new object; those whose answer is told are looked at. */
    static Calls of(Due due, String sentence, String calls) {
        Calls run = new Calls();
        for (String call : calls.trim().split(" +")) {
            int end = call.lastIndexOf(')') + 1;
            String got = run.answer(call.substring(0, end));
            if (end < call.length()) {
                String want = call.substring(end + 1);
                due.same(sentence + " [" + inShort(calls) + "]: " + call.substring(0, end), got, number(want));
            }
        }
        return run;
    }

    private static String inShort(String calls) {
        return calls.length() < 400 ? calls : calls.substring(0, 200) + " .. " + calls.substring(calls.length() - 200);
    }

    /** A new object behind these calls. */
    static Calls behind(String calls) {
        return of(null, "", calls.replaceAll("=\\S+", ""));
    }

    private static String number(String want) {
        switch (want) {
            case "INVALID_ARGUMENT": return "-1";
            case "NOT_POSSIBLE": return "-2";
            case "LIMIT_REACHED": return "-3";
            case "NOT_FOUND": return "-4";
            default: return want;
        }
    }

    String answer(String call) {
        if (call.isEmpty()) {
            return "";
        }
        String name = call.substring(0, call.indexOf('('));
        String between = call.substring(call.indexOf('(') + 1, call.lastIndexOf(')'));
        if (name.equals("write")) {
            String length = "";
            for (char sign : between.toCharArray()) {
                length = answer("append", (int) sign);
            }
            return length;
        }
        String[] numbers = between.isEmpty() ? new String[0] : between.split(",");
        Object[] values = new Object[numbers.length];
        for (int i = 0; i < numbers.length; i++) {
            values[i] = Integer.valueOf(numbers[i]);
        }
        return answer(name, values);
    }

    private String answer(String name, Object... values) {
        made++;
        if (made > MOST_CALLS) {
            throw new IllegalStateException("a test makes more than " + MOST_CALLS + " calls");
        }
        Method method = FACE.get(name + values.length);
        if (method == null) {
            throw new IllegalStateException("there is no call " + name + " with " + values.length + " arguments");
        }
        try {
            return String.valueOf(method.invoke(pedal, values));
        } catch (InvocationTargetException e) {
            return "threw " + e.getCause();
        } catch (IllegalAccessException e) {
            throw new IllegalStateException(e);
        }
    }
}
