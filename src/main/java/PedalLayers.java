/**
 * A loop pedal: a first layer sets the length of the loop, more layers are laid over it, and what is
 * heard of them can be looked at. ../shared/DOC.md says what each call does.
 */
public final class PedalLayers {
    public static final int INVALID_ARGUMENT = -1;
    public static final int NOT_POSSIBLE = -2;
    public static final int LIMIT_REACHED = -3;
    public static final int NOT_FOUND = -4;
    public static final int BAR = 0, SLACK = 1, FADE = 2;

    private static final int MODE_EMPTY = 0;
    private static final int MODE_FIRST_TAKE = 1;
    private static final int MODE_PLAYS = 2;
    private static final int MODE_TAKE_OVER = 3;
    private static final int MODE_RESTS = 4;

    private static final int KEYS = 36;
    private static final int OCTAVE = 12;
    private static final int HIT_KEYS = 24;
    private static final int MOST_FORCE = 99;
    private static final int MOST_TICKS = 99;
    private static final int LAST_DRIFT_PASS = 99;
    private static final int MOST_LAYERS = 6;
    private static final int FIRST_CELLS = 24;
    private static final int MOST_CELLS = 2 * FIRST_CELLS;

    private static final int[] LEAST_VALUES = {2, 0, 0};
    private static final int[] MOST_VALUES = {16, 8, 100};

    private static final int PAD_SIGNS = 60;
    private static final int LEAST_CODE = 33;
    private static final int MOST_CODE = 126;

    private static final int MOST_STATES = 4;

    private final Pedal now = new Pedal();
    private final Pedal snapshot = new Pedal();
    private final History history = new History();
    private final Pad pad = new Pad();
    private final OrderReading orders = new OrderReading();
    private final TuneReading tune = new TuneReading();
    private final Halt halt = new Halt();
    private final Ear ear = new Ear();
    private boolean snapshotTaken;

    public PedalLayers() {
    }

    // ---- the pedal

    public int press() {
        history.prepare(now);
        return settle(now.pressPedal());
    }

    public int stop() {
        history.prepare(now);
        return settle(now.stopPedal());
    }

    public int empty() {
        history.prepare(now);
        return settle(now.throwAllAway());
    }

    public int hit(int key, int force) {
        history.prepare(now);
        return settle(now.hitNote(key, force));
    }

    public int pass(int ticks) {
        history.prepare(now);
        return settle(now.runTicks(ticks));
    }

    public int peel() {
        history.prepare(now);
        return settle(now.peelOff());
    }

    public int back() {
        history.prepare(now);
        return settle(now.putBack());
    }

    public int mute(int layer) {
        history.prepare(now);
        return settle(now.switchMute(layer));
    }

    public int speed() {
        history.prepare(now);
        return settle(now.switchSpeed());
    }

    public int set(int what, int value) {
        history.prepare(now);
        return settle(now.changeSetting(what, value));
    }

    // ---- texts

    public int append(int code) {
        return pad.add(code);
    }

    public int erase() {
        return pad.wipe();
    }

    public int fault(int way) {
        if (way == 0) {
            return pad.firstFault(orders);
        }
        return way == 1 ? pad.firstFault(tune) : INVALID_ARGUMENT;
    }

    public int play() {
        if (pad.firstFault(orders) != NOT_FOUND) {
            return NOT_POSSIBLE;
        }
        history.prepare(now);
        history.keep();
        halt.forget();
        int done = 0;
        for (int at = 0; at < pad.size() && !halt.isKnown(); at++) {
            if (!pad.isLetter(at)) {
                continue;
            }
            int answer = carryOut(at);
            if (answer < 0) {
                halt.keep(answer, done, at);
            } else {
                done++;
            }
        }
        pad.wipe();
        return done;
    }

    public int why(int what) {
        return halt.tell(what);
    }

    // ---- looks; nothing is changed

    public int layer(int layer, int what) {
        Layer chosen = now.layerOnLoop(layer);
        if (chosen == null) {
            return INVALID_ARGUMENT;
        }
        switch (what) {
            case 0: return chosen.notes.cells();
            case 1: return chosen.notes.howMany();
            case 2: return chosen.notes.sum();
            case 3: return chosen.notes.greatestFrom(0);
            case 4: return chosen.muted ? 1 : 0;
            case 5: return chosen.passes;
            default: return INVALID_ARGUMENT;
        }
    }

    public int note(int layer, int cell, int key) {
        Layer chosen = now.layerOnLoop(layer);
        if (chosen == null || !isKey(key) || cell < 0 || cell >= chosen.notes.cells()) {
            return INVALID_ARGUMENT;
        }
        return chosen.notes.at(cell, key);
    }

    public int ring(int cell, int key) {
        if (!now.isCell(cell) || !isKey(key)) {
            return INVALID_ARGUMENT;
        }
        ear.listen(now, now.onLoop, cell);
        return ear.ringOf(key);
    }

    public int heard(int cell, int what) {
        if (!now.isCell(cell)) {
            return INVALID_ARGUMENT;
        }
        ear.listen(now, now.onLoop, cell);
        switch (what) {
            case 0: return ear.howManyKeys();
            case 1: return ear.sum();
            case 2: return ear.highestKey();
            case 3: return ear.lowestKey();
            case 4: return ear.strongestKey();
            default: return INVALID_ARGUMENT;
        }
    }

    public int loudest() {
        return now.onLoop == 0 ? NOT_POSSIBLE : ear.loudestCell(now);
    }

    public int buried() {
        return ear.mostBuriedLayer(now);
    }

    public int tunes() {
        if (now.onLoop == 0 || pad.firstFault(tune) != NOT_FOUND) {
            return NOT_POSSIBLE;
        }
        return ear.howOften(now, pad);
    }

    public int count(int what) {
        switch (what) {
            case 0: return now.mode;
            case 1: return now.loopLength(now.onLoop);
            case 2: return now.firstLength();
            case 3: return now.onLoop;
            case 4: return now.inDrawer;
            case 5: return now.loopPlays() ? now.place : 0;
            case 6: return now.passes;
            case 7: return now.takeRuns() ? now.take.halves : 0;
            case 8: return now.takeRuns() ? now.take.notes.howMany() : 0;
            case 9: return now.half ? 1 : 0;
            case 10: return now.setting(BAR);
            case 11: return now.setting(SLACK);
            case 12: return now.setting(FADE);
            case 13: return pad.size();
            case 14: return history.size();
            case 15: return now.laid;
            default: return INVALID_ARGUMENT;
        }
    }

    public double loudness() {
        int length = now.loopLength(now.onLoop);
        if (length <= 0) {
            return 0.0;
        }
        return (double) ear.sumOfCells(now, now.onLoop) / (double) length;
    }

    // ---- bars, what would be; nothing is changed

    public int barIn() {
        if (!now.loopPlays()) {
            return NOT_POSSIBLE;
        }
        return untilMultiple(now.played, 2 * now.setting(BAR));
    }

    public int drift(int pass) {
        if (pass < 0 || pass > LAST_DRIFT_PASS) {
            return INVALID_ARGUMENT;
        }
        int length = now.loopLength(now.onLoop);
        if (length == 0) {
            return NOT_POSSIBLE;
        }
        int cell = untilMultiple(pass * length, now.setting(BAR));
        return cell < length ? cell : NOT_FOUND;
    }

    public int meets() {
        int length = now.loopLength(now.onLoop);
        if (length == 0) {
            return NOT_POSSIBLE;
        }
        int bar = now.setting(BAR);
        int passes = 1;
        while (passes < bar && rest(passes * length, bar) != 0) {
            passes++;
        }
        return passes;
    }

    public int rounded(int cells) {
        if (cells < 1 || cells > FIRST_CELLS) {
            return INVALID_ARGUMENT;
        }
        return now.wholeBars(cells);
    }

    public int silentIn() {
        if (now.onLoop == 0) {
            return NOT_POSSIBLE;
        }
        int force = now.greatestHeardForce();
        // A fade of 1 or more takes at least 1 of each force, so as many passes as the greatest force do.
        for (int passes = 0; passes <= MOST_FORCE; passes++) {
            if (force == 0) {
                return passes;
            }
            force = faded(force, now.setting(FADE));
        }
        return NOT_FOUND;
    }

    public int ifPeeled(int layers, int what) {
        if (layers < 1 || layers > now.onLoop) {
            return INVALID_ARGUMENT;
        }
        switch (what) {
            case 0: return now.loopLength(layers);
            case 1: return ear.sumOfCells(now, layers);
            case 2: return ear.silentCells(now, layers);
            default: return INVALID_ARGUMENT;
        }
    }

    // ---- history, snapshot

    public int undo() {
        Pedal before = history.takeLatest();
        if (before == null) {
            return NOT_POSSIBLE;
        }
        now.copyFrom(before);
        return history.size();
    }

    public int save() {
        snapshot.copyFrom(now);
        snapshotTaken = true;
        return now.mode;
    }

    public int restore() {
        if (!snapshotTaken) {
            return NOT_POSSIBLE;
        }
        history.prepare(now);
        now.copyFrom(snapshot);
        return settle(now.mode);
    }

    // ---- helpers

    /** Only a change, a call without an error, keeps the state that was prepared before it. */
    private int settle(int answer) {
        if (answer >= 0) {
            history.keep();
        }
        return answer;
    }

    private int carryOut(int at) {
        switch (pad.signAt(at)) {
            case 'p': return now.pressPedal();
            case 's': return now.stopPedal();
            case 'v': return now.switchSpeed();
            case 'x': return now.peelOff();
            case 'y': return now.putBack();
            case 't': return now.runTicks(pad.numberAt(at + 1));
            case 'h': return now.hitNote(pad.numberAt(at + 1), pad.numberAt(pad.behindNumber(at + 1) + 1));
            default: return NOT_POSSIBLE;
        }
    }

    private static boolean isKey(int key) {
        return key >= 0 && key < KEYS;
    }

    private static boolean isValueOf(int what, int value) {
        return what >= 0 && what < LEAST_VALUES.length && what < MOST_VALUES.length
                && value >= LEAST_VALUES[what] && value <= MOST_VALUES[what];
    }

    private static int rest(int value, int divisor) {
        return divisor > 0 ? value % divisor : 0;
    }

    private static int untilMultiple(int value, int divisor) {
        return rest(divisor - rest(value, divisor), divisor);
    }

    private static int faded(int force, int fade) {
        return force * (100 - fade) / 100;
    }

    /** Forces by cells and keys, as they are kept. */
    private static final class Notes {
        private final int[] forces = new int[MOST_CELLS * KEYS];
        private int cells;

        int cells() {
            return cells;
        }

        int at(int cell, int key) {
            int index = cell * KEYS + key;
            return isKey(key) && index >= 0 && index < forces.length ? forces[index] : 0;
        }

        int add(int cell, int key, int force) {
            int index = cell * KEYS + key;
            if (!isKey(key) || index < 0 || index >= forces.length) {
                return 0;
            }
            forces[index] = Math.min(forces[index] + force, MOST_FORCE);
            return forces[index];
        }

        void clear(int newCells) {
            cells = newCells;
            for (int i = 0; i < cells * KEYS && i < forces.length; i++) {
                forces[i] = 0;
            }
        }

        void copyFrom(Notes other, int newCells) {
            int used = newCells * KEYS;
            if (used >= 0 && used <= other.forces.length && used <= forces.length) {
                System.arraycopy(other.forces, 0, forces, 0, used);
                cells = newCells;
            }
        }

        /** Adds the cells from the length on to those before it. */
        void fold(int length) {
            for (int cell = 0; cell < length; cell++) {
                for (int key = 0; key < KEYS; key++) {
                    add(cell, key, at(cell + length, key));
                }
            }
        }

        void fade(int fade) {
            for (int i = 0; i < cells * KEYS && i < forces.length; i++) {
                forces[i] = faded(forces[i], fade);
            }
        }

        int howMany() {
            int found = 0;
            for (int i = 0; i < cells * KEYS && i < forces.length; i++) {
                if (forces[i] > 0) {
                    found++;
                }
            }
            return found;
        }

        int sum() {
            int sum = 0;
            for (int i = 0; i < cells * KEYS && i < forces.length; i++) {
                sum += forces[i];
            }
            return sum;
        }

        int greatestFrom(int lowestKey) {
            int greatest = 0;
            for (int cell = 0; cell < cells; cell++) {
                for (int key = lowestKey; key < KEYS; key++) {
                    greatest = Math.max(greatest, at(cell, key));
                }
            }
            return greatest;
        }
    }

    private static final class Layer {
        private final Notes notes = new Notes();
        private boolean muted;
        private int passes;

        void copyFrom(Layer other) {
            notes.copyFrom(other.notes, other.notes.cells());
            muted = other.muted;
            passes = other.passes;
        }
    }

    private static final class Take {
        private final Notes notes = new Notes();
        private int halves;
        private int start;

        void begin(int cells, int place) {
            notes.clear(cells);
            halves = 0;
            start = place;
        }

        void copyFrom(Take other) {
            notes.copyFrom(other.notes, other.notes.cells());
            halves = other.halves;
            start = other.start;
        }
    }

    /** All that a change may change, and what history and snapshot keep of it. */
    private static final class Pedal {
        private final int[] settings = {8, 1, 0};
        // Those on the loop, behind them those in the drawer, its top first: together never more than fit.
        private final Layer[] layers = new Layer[MOST_LAYERS];
        private final Take take = new Take();
        private boolean half;
        private int mode;
        private int onLoop;
        private int inDrawer;
        private int place;
        private int passes;
        private int played;
        private int laid;

        Pedal() {
            for (int i = 0; i < layers.length; i++) {
                layers[i] = new Layer();
            }
        }

        void copyFrom(Pedal other) {
            for (int i = 0; i < settings.length; i++) {
                settings[i] = other.setting(i);
            }
            half = other.half;
            mode = other.mode;
            onLoop = other.onLoop;
            inDrawer = other.inDrawer;
            place = other.place;
            passes = other.passes;
            played = other.played;
            laid = other.laid;
            if (takeRuns()) {
                take.copyFrom(other.take);
            }
            for (int i = 0; i < onLoop + inDrawer; i++) {
                copyLayer(layerAt(i), other.layerAt(i));
            }
        }

        private static void copyLayer(Layer to, Layer from) {
            if (to != null && from != null) {
                to.copyFrom(from);
            }
        }

        private Layer layerAt(int index) {
            return index >= 0 && index < layers.length ? layers[index] : null;
        }

        Layer layerOnLoop(int number) {
            return number < onLoop ? layerAt(number) : null;
        }

        int setting(int what) {
            return what >= 0 && what < settings.length ? settings[what] : 0;
        }

        boolean takeRuns() {
            return mode == MODE_FIRST_TAKE || mode == MODE_TAKE_OVER;
        }

        boolean loopPlays() {
            return mode == MODE_PLAYS || mode == MODE_TAKE_OVER;
        }

        int loopLength(int firstLayers) {
            int length = 0;
            for (int i = 0; i < firstLayers; i++) {
                Layer layer = layerAt(i);
                if (layer != null) {
                    length = Math.max(length, layer.notes.cells());
                }
            }
            return length;
        }

        int firstLength() {
            Layer first = layerOnLoop(0);
            return first == null ? 0 : first.notes.cells();
        }

        boolean isCell(int cell) {
            return cell >= 0 && cell < loopLength(onLoop);
        }

        int lowestHeardKey() {
            return half ? OCTAVE : 0;
        }

        /** Null if there is no such layer on the loop, or it is muted. */
        Layer soundingLayer(int number) {
            Layer layer = layerOnLoop(number);
            return layer == null || layer.muted ? null : layer;
        }

        int greatestHeardForce() {
            int greatest = 0;
            for (int i = 0; i < onLoop; i++) {
                Layer layer = soundingLayer(i);
                if (layer != null) {
                    greatest = Math.max(greatest, layer.notes.greatestFrom(lowestHeardKey()));
                }
            }
            return greatest;
        }

        /** The length in whole bars, if the slack allows it, else the cells as they are. */
        int wholeBars(int cells) {
            int bar = setting(BAR);
            int best = cells;
            int leastAway = setting(SLACK) + 1;
            for (int bars = 1; bars <= FIRST_CELLS && bars * bar <= FIRST_CELLS; bars++) {
                int away = Math.abs(bars * bar - cells);
                if (away < leastAway) {
                    leastAway = away;
                    best = bars * bar;
                }
            }
            return best;
        }

        int pressPedal() {
            switch (mode) {
                case MODE_EMPTY: return beginFirstTake();
                case MODE_PLAYS: return beginTakeOver();
                case MODE_RESTS: return startLoop();
                default: return endTake();
            }
        }

        private int beginFirstTake() {
            take.begin(FIRST_CELLS, 0);
            mode = MODE_FIRST_TAKE;
            return mode;
        }

        private int beginTakeOver() {
            if (onLoop >= MOST_LAYERS) {
                return LIMIT_REACHED;
            }
            take.begin(2 * firstLength(), place);
            mode = MODE_TAKE_OVER;
            return mode;
        }

        private int startLoop() {
            place = 0;
            passes = 0;
            played = 0;
            mode = MODE_PLAYS;
            return mode;
        }

        private int endTake() {
            if (take.halves == 0) {
                return NOT_POSSIBLE;
            }
            if (mode == MODE_FIRST_TAKE) {
                lay(wholeBars(Math.min((take.halves + 1) / 2, FIRST_CELLS)));
                return startLoop();
            }
            int first = firstLength();
            if (loopLength(onLoop) > first || take.halves > 2 * first) {
                place = rest(take.start + take.halves, 4 * first);
                lay(2 * first);
            } else {
                take.notes.fold(first);
                lay(first);
            }
            mode = MODE_PLAYS;
            return mode;
        }

        private void lay(int length) {
            Layer layer = layerAt(onLoop);
            if (layer == null) {
                return;
            }
            layer.notes.copyFrom(take.notes, length);
            layer.muted = false;
            layer.passes = 0;
            onLoop++;
            inDrawer = 0;
            laid++;
        }

        int stopPedal() {
            if (mode == MODE_EMPTY || mode == MODE_RESTS) {
                return NOT_POSSIBLE;
            }
            mode = mode == MODE_FIRST_TAKE ? MODE_EMPTY : MODE_RESTS;
            return mode;
        }

        int throwAllAway() {
            if (mode == MODE_EMPTY) {
                return NOT_POSSIBLE;
            }
            int before = onLoop;
            onLoop = 0;
            inDrawer = 0;
            place = 0;
            passes = 0;
            played = 0;
            mode = MODE_EMPTY;
            return before;
        }

        int hitNote(int key, int force) {
            if (key < 0 || key >= HIT_KEYS || force < 1 || force > MOST_FORCE) {
                return INVALID_ARGUMENT;
            }
            if (!takeRuns()) {
                return NOT_POSSIBLE;
            }
            return take.notes.add(cellOfTake(), key + lowestHeardKey(), force);
        }

        private int cellOfTake() {
            int cell = (take.start + take.halves) / 2;
            return mode == MODE_FIRST_TAKE ? cell : rest(cell, 2 * firstLength());
        }

        int runTicks(int ticks) {
            if (ticks < 1 || ticks > MOST_TICKS) {
                return INVALID_ARGUMENT;
            }
            int step = half ? 1 : 2;
            int ended = 0;
            for (int i = 0; i < ticks; i++) {
                ended += loopPlays() ? moveLoop(step) : 0;
                if (!takeRuns()) {
                    continue;
                }
                take.halves += step;
                if (take.halves >= longestTake()) {
                    endTake();
                }
            }
            return ended;
        }

        /** The halves at which a take ends by itself. */
        private int longestTake() {
            return mode == MODE_FIRST_TAKE ? 2 * FIRST_CELLS : 4 * firstLength();
        }

        /** Answers how many passes ended by the step. */
        private int moveLoop(int step) {
            int end = 2 * loopLength(onLoop);
            place += step;
            played += step;
            if (place < end) {
                return 0;
            }
            place -= end;
            passes++;
            fadeLayers();
            return 1;
        }

        private void fadeLayers() {
            for (int i = 0; i < onLoop; i++) {
                Layer layer = layerAt(i);
                if (layer != null) {
                    layer.notes.fade(setting(FADE));
                    layer.passes++;
                }
            }
        }

        int peelOff() {
            if (takeRuns() || onLoop < 2) {
                return NOT_POSSIBLE;
            }
            onLoop--;
            inDrawer++;
            place = rest(place, 2 * loopLength(onLoop));
            return onLoop;
        }

        int putBack() {
            if (takeRuns() || inDrawer == 0) {
                return NOT_POSSIBLE;
            }
            onLoop++;
            inDrawer--;
            return onLoop;
        }

        int switchMute(int number) {
            Layer layer = layerOnLoop(number);
            if (layer == null) {
                return INVALID_ARGUMENT;
            }
            layer.muted = !layer.muted;
            return layer.muted ? 1 : 0;
        }

        int switchSpeed() {
            half = !half;
            return half ? 1 : 0;
        }

        int changeSetting(int what, int value) {
            if (what < 0 || what >= settings.length || !isValueOf(what, value)) {
                return INVALID_ARGUMENT;
            }
            int before = settings[what];
            settings[what] = value;
            return before;
        }
    }

    /** Listens to one cell at a time of a loop of the pedal's first layers. */
    private static final class Ear {
        private final int[] rings = new int[KEYS];
        private final int[] buriedNotes = new int[MOST_LAYERS];
        private final int[] highestKeys = new int[MOST_CELLS];
        private final int[] tuneKeys = new int[PAD_SIGNS];

        void listen(Pedal pedal, int firstLayers, int cell) {
            for (int key = 0; key < rings.length; key++) {
                rings[key] = 0;
            }
            int lowest = pedal.lowestHeardKey();
            for (int i = 0; i < firstLayers; i++) {
                Layer layer = pedal.soundingLayer(i);
                if (layer == null) {
                    continue;
                }
                int itsCell = rest(cell, layer.notes.cells());
                for (int key = 0; key < rings.length; key++) {
                    rings[key] += layer.notes.at(itsCell, key + lowest);
                }
            }
        }

        int ringOf(int key) {
            return key >= 0 && key < rings.length ? rings[key] : 0;
        }

        int howManyKeys() {
            int found = 0;
            for (int ring : rings) {
                if (ring > 0) {
                    found++;
                }
            }
            return found;
        }

        int sum() {
            int sum = 0;
            for (int ring : rings) {
                sum += ring;
            }
            return sum;
        }

        int highestKey() {
            for (int key = rings.length - 1; key >= 0; key--) {
                if (ringOf(key) > 0) {
                    return key;
                }
            }
            return NOT_FOUND;
        }

        int lowestKey() {
            for (int key = 0; key < rings.length; key++) {
                if (rings[key] > 0) {
                    return key;
                }
            }
            return NOT_FOUND;
        }

        int strongestKey() {
            int strongest = NOT_FOUND;
            int greatest = 0;
            for (int key = 0; key < rings.length; key++) {
                if (rings[key] > greatest) {
                    greatest = rings[key];
                    strongest = key;
                }
            }
            return strongest;
        }

        int sumOfCells(Pedal pedal, int firstLayers) {
            int sum = 0;
            int length = pedal.loopLength(firstLayers);
            for (int cell = 0; cell < length; cell++) {
                listen(pedal, firstLayers, cell);
                sum += sum();
            }
            return sum;
        }

        int silentCells(Pedal pedal, int firstLayers) {
            int silent = 0;
            int length = pedal.loopLength(firstLayers);
            for (int cell = 0; cell < length; cell++) {
                listen(pedal, firstLayers, cell);
                if (sum() == 0) {
                    silent++;
                }
            }
            return silent;
        }

        int loudestCell(Pedal pedal) {
            int loudest = NOT_FOUND;
            int greatest = 0;
            int length = pedal.loopLength(pedal.onLoop);
            for (int cell = 0; cell < length; cell++) {
                listen(pedal, pedal.onLoop, cell);
                if (sum() > greatest) {
                    greatest = sum();
                    loudest = cell;
                }
            }
            return loudest;
        }

        int mostBuriedLayer(Pedal pedal) {
            for (int i = 0; i < buriedNotes.length; i++) {
                buriedNotes[i] = 0;
            }
            int length = pedal.loopLength(pedal.onLoop);
            for (int cell = 0; cell < length; cell++) {
                listen(pedal, pedal.onLoop, cell);
                for (int i = 0; i < buriedNotes.length; i++) {
                    buriedNotes[i] += buriedOf(pedal, i, cell);
                }
            }
            int most = 0;
            int found = NOT_FOUND;
            for (int i = 0; i < buriedNotes.length; i++) {
                if (buriedNotes[i] > most) {
                    most = buriedNotes[i];
                    found = i;
                }
            }
            return found;
        }

        /** The buried notes of a layer in the cell that was listened to. */
        private int buriedOf(Pedal pedal, int layerNumber, int cell) {
            Layer layer = pedal.soundingLayer(layerNumber);
            if (layer == null) {
                return 0;
            }
            int found = 0;
            int lowest = pedal.lowestHeardKey();
            int itsCell = rest(cell, layer.notes.cells());
            for (int key = 0; key < rings.length; key++) {
                int force = layer.notes.at(itsCell, key + lowest);
                if (force > 0 && 2 * force < rings[key]) {
                    found++;
                }
            }
            return found;
        }

        /** In how many cells the tune of the pad begins. */
        int howOften(Pedal pedal, Pad pad) {
            int tuneLength = pad.readTune(tuneKeys);
            int length = Math.min(pedal.loopLength(pedal.onLoop), highestKeys.length);
            for (int cell = 0; cell < length && cell < highestKeys.length; cell++) {
                listen(pedal, pedal.onLoop, cell);
                highestKeys[cell] = highestKey();
            }
            int found = 0;
            for (int cell = 0; cell < length; cell++) {
                if (beginsAt(cell, tuneLength, length)) {
                    found++;
                }
            }
            return found;
        }

        private boolean beginsAt(int cell, int tuneLength, int loopLength) {
            for (int i = 0; i < tuneLength && i < tuneKeys.length; i++) {
                int there = rest(cell + i, loopLength);
                if (there < 0 || there >= highestKeys.length || highestKeys[there] != tuneKeys[i]) {
                    return false;
                }
            }
            return true;
        }
    }

    private static final class Pad {
        private final char[] signs = new char[PAD_SIGNS];
        private int length;

        int size() {
            return length;
        }

        int add(int code) {
            if (code < LEAST_CODE || code > MOST_CODE) {
                return INVALID_ARGUMENT;
            }
            if (length < 0 || length >= signs.length) {
                return LIMIT_REACHED;
            }
            signs[length] = (char) code;
            length++;
            return length;
        }

        int wipe() {
            int before = length;
            length = 0;
            return before;
        }

        /** Behind the last sign there is a sign that is none of a text's. */
        char signAt(int at) {
            return at >= 0 && at < length && at < signs.length ? signs[at] : 0;
        }

        boolean isLetter(int at) {
            return signAt(at) >= 'a' && signAt(at) <= 'z';
        }

        int behindNumber(int from) {
            int at = from;
            while (at < length && isDigit(signAt(at))) {
                at++;
            }
            return at;
        }

        int numberAt(int from) {
            int number = 0;
            int end = behindNumber(from);
            for (int at = from; at < end; at++) {
                number = 10 * number + signAt(at) - '0';
            }
            return number;
        }

        int firstFault(Reading reading) {
            int step = Reading.START;
            for (int at = 0; at < length; at++) {
                step = reading.next(step, signAt(at));
                if (step == Reading.WRONG) {
                    return at;
                }
            }
            return reading.isComplete(step) ? NOT_FOUND : length;
        }

        /** Puts the keys of the tune into the row, and answers how many there are. */
        int readTune(int[] keys) {
            int found = 0;
            for (int at = 0; at < length; at++) {
                boolean begins = at == 0 || signAt(at - 1) == ',';
                if (begins && found < keys.length) {
                    keys[found] = numberAt(at);
                    found++;
                }
            }
            return found;
        }

        static boolean isDigit(char sign) {
            return sign >= '0' && sign <= '9';
        }
    }

    /** How a kind of text is read, sign by sign, from step to step. */
    private abstract static class Reading {
        static final int WRONG = -1;
        static final int START = 0;

        abstract int next(int step, char sign);

        abstract boolean isComplete(int step);
    }

    private static final class OrderReading extends Reading {
        private static final int ORDER_ENDED = 1;
        private static final int KEY = 2;
        private static final int KEY_DIGIT_OR_POINT = 3;
        private static final int POINT = 4;
        private static final int FORCE = 5;
        private static final int TWO_DIGITS_OR_ORDER = 6;
        private static final int DIGIT_OR_ORDER = 7;
        private static final int TICKS = 8;

        int next(int step, char sign) {
            boolean digit = Pad.isDigit(sign);
            switch (step) {
                case KEY:
                    return !digit ? WRONG : sign == '0' ? POINT : KEY_DIGIT_OR_POINT;
                case KEY_DIGIT_OR_POINT:
                    return digit ? POINT : sign == '.' ? FORCE : WRONG;
                case POINT:
                    return sign == '.' ? FORCE : WRONG;
                case FORCE:
                    return !digit ? WRONG : sign == '0' ? ORDER_ENDED : TWO_DIGITS_OR_ORDER;
                case TWO_DIGITS_OR_ORDER:
                    return digit ? DIGIT_OR_ORDER : letter(sign);
                case DIGIT_OR_ORDER:
                    return digit ? ORDER_ENDED : letter(sign);
                case TICKS:
                    return digit && sign != '0' ? DIGIT_OR_ORDER : WRONG;
                default:
                    return letter(sign);
            }
        }

        private static int letter(char sign) {
            switch (sign) {
                case 'p':
                case 's':
                case 'v':
                case 'x':
                case 'y':
                    return ORDER_ENDED;
                case 'h':
                    return KEY;
                case 't':
                    return TICKS;
                default:
                    return WRONG;
            }
        }

        boolean isComplete(int step) {
            return step == ORDER_ENDED || step == TWO_DIGITS_OR_ORDER || step == DIGIT_OR_ORDER;
        }
    }

    private static final class TuneReading extends Reading {
        private static final int COMMA = 1;
        private static final int DIGIT_OR_COMMA = 2;
        private static final int LOW_DIGIT_OR_COMMA = 3;

        int next(int step, char sign) {
            boolean digit = Pad.isDigit(sign);
            if (step == START) {
                return digit ? behindFirstDigit(sign) : WRONG;
            }
            if (sign == ',') {
                return START;
            }
            if (step == DIGIT_OR_COMMA && digit) {
                return COMMA;
            }
            return step == LOW_DIGIT_OR_COMMA && digit && sign <= '5' ? COMMA : WRONG;
        }

        private static int behindFirstDigit(char digit) {
            if (digit == '1' || digit == '2') {
                return DIGIT_OR_COMMA;
            }
            return digit == '3' ? LOW_DIGIT_OR_COMMA : COMMA;
        }

        boolean isComplete(int step) {
            return step != START;
        }
    }

    /** Where and why the latest play stopped. */
    private static final class Halt {
        private boolean known;
        private int error;
        private int number;
        private int position;

        boolean isKnown() {
            return known;
        }

        void forget() {
            known = false;
        }

        void keep(int newError, int newNumber, int newPosition) {
            known = true;
            error = newError;
            number = newNumber;
            position = newPosition;
        }

        int tell(int what) {
            if (what < 0 || what > 2) {
                return INVALID_ARGUMENT;
            }
            if (!known) {
                return NOT_FOUND;
            }
            return what == 0 ? error : what == 1 ? number : position;
        }
    }

    /** A ring of states, with one place more for the state that a change may yet keep. */
    private static final class History {
        private final Pedal[] states = new Pedal[MOST_STATES + 1];
        private int oldest;
        private int size;

        History() {
            for (int i = 0; i < states.length; i++) {
                states[i] = new Pedal();
            }
        }

        int size() {
            return size;
        }

        private Pedal stateAt(int number) {
            int index = rest(oldest + number, states.length);
            return index >= 0 && index < states.length ? states[index] : null;
        }

        void prepare(Pedal pedal) {
            Pedal free = stateAt(size);
            if (free != null) {
                free.copyFrom(pedal);
            }
        }

        void keep() {
            if (size < MOST_STATES) {
                size++;
            } else {
                oldest = rest(oldest + 1, states.length);
            }
        }

        /** Answers the latest state and drops it; null if there is none. */
        Pedal takeLatest() {
            if (size == 0) {
                return null;
            }
            size--;
            return stateAt(size);
        }
    }
}
