import java.util.ArrayDeque;
import java.util.ArrayList;
import java.util.Deque;
import java.util.List;
import java.util.Map;
import java.util.TreeMap;
import java.util.regex.Matcher;
import java.util.regex.Pattern;

/**
 * The document once more, as plainly as it can be told: maps and lists, every state a new copy, texts by regular
 * expressions. RandomRuns compares its answers with those of the program.
 */
final class PlainModel {
    private static final Pattern ORDER =
            Pattern.compile("[psvxy]|h(0|[1-9][0-9]?)\\.(0|[1-9][0-9]{0,2})|t([1-9][0-9]?)");
    private static final Pattern ORDERS = Pattern.compile("(" + ORDER.pattern() + ")+");
    private static final Pattern KEY = Pattern.compile("[0-9]|[12][0-9]|3[0-5]");
    private static final Pattern TUNE = Pattern.compile("(" + KEY.pattern() + ")(,(" + KEY.pattern() + "))*");

    private static final class Tape {
        final int length;
        final TreeMap<List<Integer>, Integer> forces = new TreeMap<>(
                (a, b) -> a.get(0).equals(b.get(0)) ? a.get(1) - b.get(1) : a.get(0) - b.get(0));
        boolean muted;
        int passes;

        Tape(int length) {
            this.length = length;
        }

        Tape copy() {
            Tape copy = new Tape(length);
            copy.forces.putAll(forces);
            copy.muted = muted;
            copy.passes = passes;
            return copy;
        }

        int get(int cell, int key) {
            return forces.getOrDefault(List.of(cell, key), 0);
        }

        int add(int cell, int key, int force) {
            return forces.merge(List.of(cell, key), force, (a, b) -> Math.min(99, a + b));
        }

        void fade(int fade) {
            forces.replaceAll((place, force) -> force * (100 - fade) / 100);
            forces.values().removeIf(force -> force == 0);
        }
    }

    private static final class State {
        int[] settings = {8, 1, 0};
        int speed = 2;
        int mode;
        List<Tape> layers = new ArrayList<>();
        Deque<Tape> drawer = new ArrayDeque<>();
        Tape take;
        int takeHalves;
        int takeStart;
        int place;
        int passes;
        int played;
        int laid;

        State copy() {
            State copy = new State();
            copy.settings = settings.clone();
            copy.speed = speed;
            copy.mode = mode;
            for (Tape layer : layers) {
                copy.layers.add(layer.copy());
            }
            for (Tape layer : drawer) {
                copy.drawer.addLast(layer.copy());
            }
            copy.take = take == null ? null : take.copy();
            copy.takeHalves = takeHalves;
            copy.takeStart = takeStart;
            copy.place = place;
            copy.passes = passes;
            copy.played = played;
            copy.laid = laid;
            return copy;
        }
    }

    private State s = new State();
    private State snapshot;
    private final Deque<State> history = new ArrayDeque<>();
    private String pad = "";
    private int[] stopped;

    private int change(State before, int answer) {
        if (answer >= 0) {
            history.addLast(before);
            if (history.size() == 5) {
                history.removeFirst();
            }
        }
        return answer;
    }

    public int press() {
        State before = s.copy();
        return change(before, doPress());
    }

    private int doPress() {
        if (s.mode == 0) {
            s.take = new Tape(24);
            s.takeHalves = 0;
            s.mode = 1;
        } else if (s.mode == 1) {
            if (s.takeHalves == 0) {
                return -2;
            }
            Tape layer = new Tape(round(Math.min(24, (s.takeHalves + 1) / 2)));
            s.take.forces.forEach((at, force) -> {
                if (at.get(0) < layer.length) {
                    layer.forces.put(at, force);
                }
            });
            lay(layer);
            startPlaying();
        } else if (s.mode == 2) {
            if (s.layers.size() == 6) {
                return -3;
            }
            s.take = new Tape(2 * first());
            s.takeHalves = 0;
            s.takeStart = s.place;
            s.mode = 3;
        } else if (s.mode == 3) {
            if (s.takeHalves == 0) {
                return -2;
            }
            endTakeOver();
        } else {
            startPlaying();
        }
        return s.mode;
    }

    private void endTakeOver() {
        int first = first();
        boolean twice = length() == 2 * first || s.takeHalves > 2 * first;
        Tape layer = new Tape(twice ? 2 * first : first);
        s.take.forces.forEach((at, force) -> layer.add(at.get(0) % layer.length, at.get(1), force));
        if (twice) {
            s.place = (s.takeStart + s.takeHalves) % (4 * first);
        }
        lay(layer);
        s.mode = 2;
    }

    private void lay(Tape layer) {
        s.layers.add(layer);
        s.drawer.clear();
        s.take = null;
        s.laid++;
    }

    private void startPlaying() {
        s.mode = 2;
        s.place = 0;
        s.passes = 0;
        s.played = 0;
    }

    private int round(int n) {
        int best = -1;
        for (int length = s.settings[0]; length <= 24; length += s.settings[0]) {
            if (best < 0 || Math.abs(length - n) < Math.abs(best - n)) {
                best = length;
            }
        }
        return best > 0 && Math.abs(best - n) <= s.settings[1] ? best : n;
    }

    private int first() {
        return s.layers.isEmpty() ? 0 : s.layers.get(0).length;
    }

    private int length() {
        return lengthOf(s.layers);
    }

    private static int lengthOf(List<Tape> layers) {
        return layers.stream().mapToInt(layer -> layer.length).max().orElse(0);
    }

    public int stop() {
        State before = s.copy();
        return change(before, doStop());
    }

    private int doStop() {
        if (s.mode == 0 || s.mode == 4) {
            return -2;
        }
        s.mode = s.mode == 1 ? 0 : 4;
        s.take = null;
        return s.mode;
    }

    public int empty() {
        if (s.mode == 0) {
            return -2;
        }
        State before = s;
        s = new State();
        s.settings = before.settings.clone();
        s.speed = before.speed;
        s.laid = before.laid;
        return change(before, before.layers.size());
    }

    public int hit(int key, int force) {
        State before = s.copy();
        return change(before, doHit(key, force));
    }

    private int doHit(int key, int force) {
        if (key < 0 || key > 23 || force < 1 || force > 99) {
            return -1;
        }
        if (s.mode != 1 && s.mode != 3) {
            return -2;
        }
        int cell = s.mode == 1 ? s.takeHalves / 2 : (s.takeStart + s.takeHalves) / 2 % (2 * first());
        return s.take.add(cell, s.speed == 1 ? key + 12 : key, force);
    }

    public int pass(int ticks) {
        State before = s.copy();
        return change(before, doPass(ticks));
    }

    private int doPass(int ticks) {
        if (ticks < 1 || ticks > 99) {
            return -1;
        }
        int ended = 0;
        for (int i = 0; i < ticks; i++) {
            if (s.mode == 1) {
                s.takeHalves += s.speed;
                if (s.takeHalves >= 48) {
                    doPress();
                }
            } else if (s.mode == 2 || s.mode == 3) {
                s.place += s.speed;
                s.played += s.speed;
                s.takeHalves += s.speed;
                if (s.place >= 2 * length()) {
                    s.place -= 2 * length();
                    s.passes++;
                    ended++;
                    for (Tape layer : s.layers) {
                        layer.fade(s.settings[2]);
                        layer.passes++;
                    }
                }
                if (s.mode == 3 && s.takeHalves >= 4 * first()) {
                    doPress();
                }
            }
        }
        return ended;
    }

    public int peel() {
        State before = s.copy();
        return change(before, doPeel());
    }

    private int doPeel() {
        if (s.mode == 1 || s.mode == 3 || s.layers.size() < 2) {
            return -2;
        }
        s.drawer.push(s.layers.remove(s.layers.size() - 1));
        s.place %= 2 * length();
        return s.layers.size();
    }

    public int back() {
        State before = s.copy();
        return change(before, doBack());
    }

    private int doBack() {
        if (s.mode == 1 || s.mode == 3 || s.drawer.isEmpty()) {
            return -2;
        }
        s.layers.add(s.drawer.pop());
        return s.layers.size();
    }

    private boolean isLayer(int layer) {
        return layer >= 0 && layer < s.layers.size();
    }

    public int mute(int layer) {
        if (!isLayer(layer)) {
            return -1;
        }
        State before = s.copy();
        s.layers.get(layer).muted ^= true;
        return change(before, s.layers.get(layer).muted ? 1 : 0);
    }

    public int speed() {
        State before = s.copy();
        return change(before, doSpeed());
    }

    private int doSpeed() {
        s.speed = 3 - s.speed;
        return s.speed == 1 ? 1 : 0;
    }

    public int set(int what, int value) {
        int[][] ranges = {{2, 16}, {0, 8}, {0, 100}};
        if (what < 0 || what > 2 || value < ranges[what][0] || value > ranges[what][1]) {
            return -1;
        }
        State before = s.copy();
        s.settings[what] = value;
        return change(before, before.settings[what]);
    }

    public int append(int code) {
        if (code < 33 || code > 126) {
            return -1;
        }
        if (pad.length() == 60) {
            return -3;
        }
        pad += (char) code;
        return pad.length();
    }

    public int erase() {
        int length = pad.length();
        pad = "";
        return length;
    }

    public int fault(int way) {
        return way == 0 ? faultOf(ORDERS) : way == 1 ? faultOf(TUNE) : -1;
    }

    /** A text begins one of the kind, if it is one, or the matcher would have read on behind its end. */
    private int faultOf(Pattern kind) {
        for (int length = 1; length <= pad.length(); length++) {
            Matcher matcher = kind.matcher(pad.substring(0, length));
            if (!matcher.matches() && !matcher.hitEnd()) {
                return length - 1;
            }
        }
        return kind.matcher(pad).matches() ? -4 : pad.length();
    }

    public int play() {
        if (!ORDERS.matcher(pad).matches()) {
            return -2;
        }
        change(s.copy(), 0);
        stopped = null;
        int done = 0;
        Matcher order = ORDER.matcher(pad);
        while (stopped == null && order.find()) {
            int answer = carryOut(order);
            if (answer < 0) {
                stopped = new int[] {answer, done, order.start()};
            } else {
                done++;
            }
        }
        pad = "";
        return done;
    }

    private int carryOut(Matcher order) {
        switch (order.group().charAt(0)) {
            case 'p': return doPress();
            case 's': return doStop();
            case 'v': return doSpeed();
            case 'x': return doPeel();
            case 'y': return doBack();
            case 't': return doPass(Integer.parseInt(order.group(3)));
            default: return doHit(Integer.parseInt(order.group(1)), Integer.parseInt(order.group(2)));
        }
    }

    public int why(int what) {
        return what < 0 || what > 2 ? -1 : stopped == null ? -4 : stopped[what];
    }

    public int layer(int layer, int what) {
        if (!isLayer(layer) || what < 0 || what > 5) {
            return -1;
        }
        Tape tape = s.layers.get(layer);
        int[] numbers = {
            tape.length,
            tape.forces.size(),
            tape.forces.values().stream().mapToInt(force -> force).sum(),
            tape.forces.values().stream().mapToInt(force -> force).max().orElse(0),
            tape.muted ? 1 : 0,
            tape.passes,
        };
        return numbers[what];
    }

    public int note(int layer, int cell, int key) {
        if (!isLayer(layer) || cell < 0 || cell >= s.layers.get(layer).length || key < 0 || key > 35) {
            return -1;
        }
        return s.layers.get(layer).get(cell, key);
    }

    private static int ringOf(List<Tape> layers, int cell, int heardKey, int octave) {
        int ring = 0;
        for (Tape layer : layers) {
            ring += layer.muted ? 0 : layer.get(cell % layer.length, heardKey + octave);
        }
        return ring;
    }

    /** The rings above 0 by the keys as they are heard. */
    private TreeMap<Integer, Integer> rings(List<Tape> layers, int cell) {
        TreeMap<Integer, Integer> rings = new TreeMap<>();
        for (int key = 0; key < 36; key++) {
            int ring = ringOf(layers, cell, key, s.speed == 1 ? 12 : 0);
            if (ring > 0) {
                rings.put(key, ring);
            }
        }
        return rings;
    }

    private static int sumOf(Map<Integer, Integer> rings) {
        return rings.values().stream().mapToInt(ring -> ring).sum();
    }

    public int ring(int cell, int key) {
        return cell < 0 || cell >= length() || key < 0 || key > 35 ? -1 : rings(s.layers, cell).getOrDefault(key, 0);
    }

    public int heard(int cell, int what) {
        if (cell < 0 || cell >= length() || what < 0 || what > 4) {
            return -1;
        }
        TreeMap<Integer, Integer> rings = rings(s.layers, cell);
        if (what < 2) {
            return what == 0 ? rings.size() : sumOf(rings);
        }
        if (rings.isEmpty()) {
            return -4;
        }
        if (what < 4) {
            return what == 2 ? rings.lastKey() : rings.firstKey();
        }
        int most = rings.values().stream().max(Integer::compare).get();
        return rings.keySet().stream().filter(key -> rings.get(key) == most).findFirst().get();
    }

    public int loudest() {
        if (s.layers.isEmpty()) {
            return -2;
        }
        int loudest = 0;
        for (int cell = 1; cell < length(); cell++) {
            if (sumOf(rings(s.layers, cell)) > sumOf(rings(s.layers, loudest))) {
                loudest = cell;
            }
        }
        return rings(s.layers, loudest).isEmpty() ? -4 : loudest;
    }

    public int buried() {
        int most = 0;
        int found = -4;
        for (int i = 0; i < s.layers.size(); i++) {
            int buried = buriedNotes(s.layers.get(i));
            if (buried > most) {
                most = buried;
                found = i;
            }
        }
        return found;
    }

    private int buriedNotes(Tape layer) {
        int octave = s.speed == 1 ? 12 : 0;
        int buried = 0;
        for (int cell = 0; cell < length() && !layer.muted; cell++) {
            for (Map.Entry<Integer, Integer> heard : rings(s.layers, cell).entrySet()) {
                int force = layer.get(cell % layer.length, heard.getKey() + octave);
                if (force > 0 && force < heard.getValue() / 2.0) {
                    buried++;
                }
            }
        }
        return buried;
    }

    public int tunes() {
        if (s.layers.isEmpty() || !TUNE.matcher(pad).matches()) {
            return -2;
        }
        int times = 0;
        for (int begin = 0; begin < length(); begin++) {
            boolean comes = true;
            int cell = begin;
            for (String key : pad.split(",")) {
                TreeMap<Integer, Integer> rings = rings(s.layers, cell % length());
                comes = comes && !rings.isEmpty() && rings.lastKey() == Integer.parseInt(key);
                cell++;
            }
            times += comes ? 1 : 0;
        }
        return times;
    }

    public int count(int what) {
        if (what < 0 || what > 15) {
            return -1;
        }
        boolean plays = s.mode == 2 || s.mode == 3;
        boolean takes = s.take != null;
        int[] numbers = {
            s.mode, length(), first(), s.layers.size(), s.drawer.size(), plays ? s.place : 0, s.passes,
            takes ? s.takeHalves : 0, takes ? s.take.forces.size() : 0, s.speed == 1 ? 1 : 0,
            s.settings[0], s.settings[1], s.settings[2], pad.length(), history.size(), s.laid,
        };
        return numbers[what];
    }

    private int total(List<Tape> layers) {
        int sum = 0;
        for (int cell = 0; cell < lengthOf(layers); cell++) {
            sum += sumOf(rings(layers, cell));
        }
        return sum;
    }

    public double loudness() {
        return s.layers.isEmpty() ? 0.0 : (double) total(s.layers) / length();
    }

    public int barIn() {
        if (s.mode != 2 && s.mode != 3) {
            return -2;
        }
        int halves = 0;
        while ((s.played + halves) % (2 * s.settings[0]) != 0) {
            halves++;
        }
        return halves;
    }

    public int drift(int pass) {
        if (pass < 0 || pass > 99) {
            return -1;
        }
        if (s.layers.isEmpty()) {
            return -2;
        }
        for (int cell = 0; cell < length(); cell++) {
            if ((pass * length() + cell) % s.settings[0] == 0) {
                return cell;
            }
        }
        return -4;
    }

    public int meets() {
        if (s.layers.isEmpty()) {
            return -2;
        }
        int passes = 1;
        while (passes * length() % s.settings[0] != 0) {
            passes++;
        }
        return passes;
    }

    public int rounded(int cells) {
        return cells < 1 || cells > 24 ? -1 : round(cells);
    }

    public int silentIn() {
        if (s.layers.isEmpty()) {
            return -2;
        }
        List<Tape> faded = new ArrayList<>();
        for (Tape layer : s.layers) {
            faded.add(layer.copy());
        }
        for (int passes = 0; passes < 200; passes++) {
            if (total(faded) == 0) {
                return passes;
            }
            if (s.settings[2] == 0) {
                return -4;
            }
            for (Tape layer : faded) {
                layer.fade(s.settings[2]);
            }
        }
        return -4;
    }

    public int ifPeeled(int layers, int what) {
        if (layers < 1 || layers > s.layers.size() || what < 0 || what > 2) {
            return -1;
        }
        List<Tape> left = s.layers.subList(0, layers);
        if (what < 2) {
            return what == 0 ? lengthOf(left) : total(left);
        }
        int silent = 0;
        for (int cell = 0; cell < lengthOf(left); cell++) {
            silent += rings(left, cell).isEmpty() ? 1 : 0;
        }
        return silent;
    }

    public int undo() {
        if (history.isEmpty()) {
            return -2;
        }
        s = history.removeLast();
        return history.size();
    }

    public int save() {
        snapshot = s.copy();
        return s.mode;
    }

    public int restore() {
        if (snapshot == null) {
            return -2;
        }
        State before = s;
        s = snapshot.copy();
        return change(before, s.mode);
    }
}
