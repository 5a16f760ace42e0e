import java.lang.reflect.InvocationTargetException;
import java.lang.reflect.Method;
import java.util.ArrayList;
import java.util.List;

/** Runs of 512 calls, the same in each session, whose answers are compared with those of the plain model. */
final class RandomRuns {
    private static final int CALLS = 512;
    private static final int RUNS = 600;
    private static final String[] CHANGES = {
        "press", "press", "press", "press", "hit", "hit", "hit", "hit", "hit", "pass", "pass", "pass", "pass",
        "peel", "back", "back", "mute", "speed", "set", "stop", "undo", "save", "restore",
    };
    private static final String[] LOOKS = {
        "fault", "why", "layer", "note", "ring", "heard", "loudest", "buried", "tunes", "count", "count", "count",
        "loudness", "barIn", "drift", "meets", "rounded", "silentIn", "ifPeeled",
    };
    private static final String SIGNS = "psvxyht0123456789.,pqz!~";

    private long seed;
    private PedalLayers pedal;
    private PlainModel model;
    private List<String> calls;
    /** How wide the hits spread: few keys in quiet runs, so that tunes and burials come. */
    private int keys;
    private int cells;

    private RandomRuns(int run) {
        seed = run * 7919L + 12345;
    }

    static void runs(Due due) throws ReflectiveOperationException {
        for (int run = 0; run < RUNS; run++) {
            new RandomRuns(run).compare(due);
        }
    }

    private void compare(Due due) throws ReflectiveOperationException {
        pedal = new PedalLayers();
        model = new PlainModel();
        calls = new ArrayList<>();
        keys = upTo(3) == 0 ? 24 : 3;
        cells = upTo(2) == 0 ? 3 : 12;
        boolean same = true;
        while (same && calls.size() < CALLS) {
            same = step();
        }
        due.holds("the answers of the run " + calls.size() + " calls long are the model's: " + tail(), same);
    }

    private String tail() {
        return calls.subList(Math.max(0, calls.size() - 40), calls.size()).toString();
    }

    private int upTo(int bound) {
        seed = seed * 6364136223846793005L + 1442695040888963407L;
        return (int) ((seed >>> 33) % bound);
    }

    private boolean step() throws ReflectiveOperationException {
        int kind = upTo(60);
        if (kind < 25) {
            return same(CHANGES[upTo(CHANGES.length)]);
        }
        if (kind < 54) {
            return same(LOOKS[upTo(LOOKS.length)]);
        }
        if (kind < 57) {
            return layAndLook();
        }
        if (kind == 57 && upTo(4) == 0) {
            return same("empty");
        }
        return kind == 57 || writeAndRead();
    }

    /** A take with some notes, whatever the mode is, and a look at what was laid. */
    private boolean layAndLook() throws ReflectiveOperationException {
        boolean same = same("press");
        for (int i = upTo(6); i >= 0 && same; i--) {
            same = same("hit") && (upTo(2) == 0 || same("pass", 1 + upTo(3)));
        }
        same = same && same("pass", 1 + upTo(cells)) && same("press") && same("buried") && same("loudest");
        for (int what = 0; what < 5 && same; what++) {
            same = same("heard", upTo(cells), what);
        }
        for (int what = 0; what < 3 && same; what++) {
            same = same("ifPeeled", 1 + upTo(3), what) && same("layer", upTo(3), 1 + upTo(3));
        }
        return same;
    }

    private boolean writeAndRead() throws ReflectiveOperationException {
        String text = upTo(2) == 0 ? orders() : tune();
        if (upTo(5) == 0 && !text.isEmpty()) {
            int at = upTo(text.length());
            text = text.substring(0, at) + SIGNS.charAt(upTo(SIGNS.length())) + text.substring(at + upTo(2));
        }
        boolean same = upTo(8) == 0 || same("erase");
        for (int i = 0; i < text.length() && calls.size() < CALLS && same; i++) {
            same = same("append", (int) text.charAt(i));
        }
        return same && same("fault", 0) && same("fault", 1) && same("tunes") && same("play")
                && same("why", 0) && same("why", 1) && same("why", 2);
    }

    private String orders() {
        StringBuilder text = new StringBuilder();
        int many = 1 + upTo(upTo(6) == 0 ? 25 : 6);
        for (int i = 0; i < many; i++) {
            int kind = upTo(10);
            if (kind < 3) {
                text.append('p');
            } else if (kind < 5) {
                text.append("svxy".charAt(upTo(4)));
            } else if (kind < 8) {
                text.append('h').append(upTo(25)).append('.').append(upTo(8) == 0 ? upTo(1000) : upTo(100));
            } else {
                text.append('t').append(1 + upTo(upTo(4) == 0 ? 99 : cells));
            }
        }
        return text.toString();
    }

    private String tune() {
        StringBuilder text = new StringBuilder();
        int many = 1 + upTo(3);
        for (int i = 0; i < many; i++) {
            text.append(i == 0 ? "" : ",").append(upTo(6) == 0 ? upTo(36) : anyKey());
        }
        return text.toString();
    }

    private boolean same(String name) throws ReflectiveOperationException {
        switch (name) {
            case "hit": return same(name, oddOr(upTo(keys)), oddOr(1 + upTo(99)));
            case "pass": return same(name, oddOr(1 + upTo(upTo(6) == 0 ? 99 : cells)));
            case "mute": return same(name, oddOr(upTo(3)));
            case "set": return sameSet();
            case "fault": return same(name, oddOr(upTo(2)));
            case "why": return same(name, oddOr(upTo(3)));
            case "layer": return same(name, oddOr(upTo(4)), oddOr(upTo(6)));
            case "note": return same(name, oddOr(upTo(4)), oddOr(upTo(cells)), oddOr(anyKey()));
            case "ring": return same(name, oddOr(upTo(cells)), oddOr(anyKey()));
            case "heard": return same(name, oddOr(upTo(cells)), oddOr(upTo(5)));
            case "count": return same(name, oddOr(upTo(16)));
            case "drift": return same(name, oddOr(upTo(100)));
            case "rounded": return same(name, oddOr(1 + upTo(24)));
            case "ifPeeled": return same(name, oddOr(1 + upTo(3)), oddOr(upTo(3)));
            default: return same(name, new int[0]);
        }
    }

    private int anyKey() {
        return upTo(3) == 0 ? upTo(36) : upTo(keys) + 12 * upTo(2);
    }

    private boolean sameSet() throws ReflectiveOperationException {
        int what = upTo(3);
        int value = what == 0 ? 2 + upTo(15) : what == 1 ? upTo(9) : upTo(3) == 0 ? upTo(101) : upTo(8);
        return same("set", oddOr(what), oddOr(value));
    }

    /** Now and then an argument from anywhere. */
    private int oddOr(int value) {
        if (upTo(50) != 0) {
            return value;
        }
        int[] odd = {-1, 0, 1, 5, 6, 16, 24, 25, 36, 48, 99, 100, 101, Integer.MAX_VALUE, Integer.MIN_VALUE, upTo(60)};
        return odd[upTo(odd.length)];
    }

    private boolean same(String name, int... args) throws ReflectiveOperationException {
        if (calls.size() >= CALLS) {
            return true;
        }
        Object got = answer(pedal, name, args);
        Object want = answer(model, name, args);
        StringBuilder call = new StringBuilder(name).append('(');
        for (int i = 0; i < args.length; i++) {
            call.append(i == 0 ? "" : ", ").append(args[i]);
        }
        calls.add(call + ") = " + got + (got.equals(want) ? "" : ", the model's is " + want));
        return got.equals(want);
    }

    private static Object answer(Object of, String name, int[] args) throws ReflectiveOperationException {
        Class<?>[] types = new Class<?>[args.length];
        Object[] values = new Object[args.length];
        for (int i = 0; i < args.length; i++) {
            types[i] = int.class;
            values[i] = args[i];
        }
        Method method = of.getClass().getDeclaredMethod(name, types);
        try {
            return method.invoke(of, values);
        } catch (InvocationTargetException e) {
            return e.getCause().toString();
        }
    }
}
