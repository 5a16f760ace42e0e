/** Pedals in states that many tests begin with. */
final class Pedals {
    private Pedals() {
    }

    /** A loop of so many cells (1 to 24) that plays from the place 0 on, without a note, without slack. */
    static PedalLayers loop(int cells) {
        PedalLayers x = new PedalLayers();
        x.set(PedalLayers.SLACK, 0);
        x.press();
        x.pass(cells);
        if (cells < 24) {
            x.press();
        }
        return x;
    }

    /** A loop of so many cells with one note in the cell 0, at the place 0. */
    static PedalLayers loopWith(int cells, int key, int force) {
        PedalLayers x = new PedalLayers();
        x.set(PedalLayers.SLACK, 0);
        x.press();
        x.hit(key, force);
        x.pass(cells);
        if (cells < 24) {
            x.press();
        }
        return x;
    }

    /** Lays a layer with one note where the loop is, over so many cells. */
    static void layOver(PedalLayers x, int key, int force, int cells) {
        x.press();
        x.hit(key, force);
        x.pass(cells);
        x.press();
    }

    /** The calls for a loop of so many cells (1 to 23) without a note. */
    static String loopCalls(int cells) {
        return "set(1,0) press()=1 pass(" + cells + ")=0 press()=2 ";
    }

    /** The calls for a loop of so many cells (1 to 23) with one note in the cell 0. */
    static String loopCalls(int cells, int key, int force) {
        return "set(1,0) press()=1 hit(" + key + "," + force + ") pass(" + cells + ")=0 press()=2 ";
    }

    /** The calls for a take over a loop: one note where the loop is, then so many ticks. */
    static String overCalls(int key, int force, int ticks) {
        return "press()=3 hit(" + key + "," + force + ") pass(" + ticks + ") press()=2 ";
    }

    static void write(PedalLayers x, String text) {
        x.erase();
        for (int i = 0; i < text.length(); i++) {
            x.append(text.charAt(i));
        }
    }
}
