/** Promises 26 to 31: bars, what would be. */
final class BarPromises {
    private static final int INVALID = PedalLayers.INVALID_ARGUMENT;
    private static final int NOT_POSSIBLE = PedalLayers.NOT_POSSIBLE;
    private static final int NOT_FOUND = PedalLayers.NOT_FOUND;

    static void promise26BarIn(Due due) {
        PedalLayers x = new PedalLayers();
        due.is("barIn() when empty", x.barIn(), NOT_POSSIBLE);
        x.press();
        due.is("barIn() in a first take", x.barIn(), NOT_POSSIBLE);
        x = Pedals.loop(3);
        x.set(PedalLayers.BAR, 4);
        due.is("at the bar line", x.barIn(), 0);
        x.pass(3);
        due.is("bar lines go on over the end of the loop", x.barIn(), 2);
        x.speed();
        x.pass(1);
        due.is("within a cell", x.barIn(), 1);
        x.pass(1);
        due.is("at the next one", x.barIn(), 0);
        x.pass(1);
        due.is("behind it", x.barIn(), 7);
        x.press();
        due.is("in a take over the loop", x.barIn(), 7);
        x.set(PedalLayers.BAR, 3);
        due.is("by the setting of now", x.barIn(), 3);
        x.stop();
        due.is("at rest", x.barIn(), NOT_POSSIBLE);
        x.press();
        due.is("the loop begins again", x.barIn(), 0);
    }

    static void promise26BarInWhateverTheLength(Due due) {
        PedalLayers x = Pedals.loop(3);
        x.set(PedalLayers.BAR, 7);
        x.press();
        x.pass(5);
        x.press();
        due.is("length", x.count(1), 6);
        due.is("5 cells of 7", x.barIn(), 4);
        x.peel();
        due.is("place", x.count(5), 4);
        due.is("the bar lines stay", x.barIn(), 4);
        x.pass(2);
        due.is("at the bar line", x.barIn(), 0);
    }

    static void promise27Drift(Due due) {
        PedalLayers x = new PedalLayers();
        due.is("drift(0) when empty", x.drift(0), NOT_POSSIBLE);
        due.is("drift(100) when empty", x.drift(100), INVALID);
        x = Pedals.loop(6);
        due.is("drift(-1)", x.drift(-1), INVALID);
        due.is("drift(100)", x.drift(100), INVALID);
        int[] cells = {0, 2, 4, NOT_FOUND, 0};
        for (int pass = 0; pass < cells.length; pass++) {
            due.is("drift(" + pass + ")", x.drift(pass), cells[pass]);
        }
        due.is("drift(99)", x.drift(99), NOT_FOUND);
        due.is("drift(98)", x.drift(98), 4);
        x.set(PedalLayers.BAR, 5);
        due.is("drift(99) with bars of 5", x.drift(99), 1);
        x.stop();
        due.is("at rest too", x.drift(1), 4);
    }

    static void promise28Meets(Due due) {
        due.is("meets() when empty", new PedalLayers().meets(), NOT_POSSIBLE);
        int[][] lengthBarPasses = {{6, 8, 4}, {8, 8, 1}, {16, 8, 1}, {3, 8, 8}, {1, 16, 16}, {24, 16, 2}, {9, 6, 2}};
        for (int[] row : lengthBarPasses) {
            PedalLayers x = Pedals.loop(row[0]);
            x.set(PedalLayers.BAR, row[1]);
            due.is("meets() of " + row[0] + " with bars of " + row[1], x.meets(), row[2]);
        }
        PedalLayers x = Pedals.loop(4);
        Pedals.layOver(x, 1, 1, 5);
        due.is("by the length of the loop", x.meets(), 1);
        x.peel();
        due.is("of now", x.meets(), 2);
    }

    static void promise29Rounded(Due due) {
        PedalLayers x = new PedalLayers();
        due.is("rounded(0)", x.rounded(0), INVALID);
        due.is("rounded(25)", x.rounded(25), INVALID);
        int[][] cellsLength = {{1, 1}, {6, 6}, {7, 8}, {8, 8}, {9, 8}, {10, 10}, {23, 24}, {24, 24}};
        for (int[] row : cellsLength) {
            due.is("rounded(" + row[0] + ")", x.rounded(row[0]), row[1]);
        }
        x.set(PedalLayers.SLACK, 8);
        due.is("at least one bar", x.rounded(1), 8);
        due.is("of two the lesser", x.rounded(12), 8);
        due.is("the nearest", x.rounded(13), 16);
        x.set(PedalLayers.BAR, 16);
        due.is("at most 24 cells", x.rounded(24), 16);
        due.is("8 away", x.rounded(8), 16);
        due.is("9 away", x.rounded(7), 7);
        x.set(PedalLayers.BAR, 9);
        due.is("27 cells are too many, 18 are within the slack", x.rounded(24), 18);
        x.set(PedalLayers.BAR, 13);
        due.is("26 cells are too many, 13 too far away", x.rounded(24), 24);
        x.set(PedalLayers.BAR, 2);
        x.set(PedalLayers.SLACK, 0);
        due.is("no slack", x.rounded(5), 5);
        x.set(PedalLayers.SLACK, 1);
        due.is("of two the lesser", x.rounded(5), 4);
        due.is("of one and two bars", x.rounded(3), 2);
        due.is("nothing is changed", x.count(0) + x.count(3), 0);
    }

    static void promise30SilentIn(Due due) {
        due.is("silentIn() when empty", new PedalLayers().silentIn(), NOT_POSSIBLE);
        PedalLayers x = Pedals.loopWith(2, 5, 99);
        due.is("without fading", x.silentIn(), NOT_FOUND);
        x.set(PedalLayers.FADE, 1);
        due.is("as slow as can be", x.silentIn(), 99);
        x.set(PedalLayers.FADE, 100);
        due.is("at once", x.silentIn(), 1);
        x.set(PedalLayers.FADE, 50);
        due.is("99 49 24 12 6 3 1 0", x.silentIn(), 7);
        Pedals.layOver(x, 15, 3, 1);
        x.speed();
        due.is("by what is heard", x.silentIn(), 2);
        x.mute(1);
        due.is("nothing is heard", x.silentIn(), 0);
        x.set(PedalLayers.FADE, 0);
        due.is("nothing is heard, without fading", x.silentIn(), 0);
        x.speed();
        due.is("heard for ever", x.silentIn(), NOT_FOUND);
    }

    static void promise31IfPeeled(Due due) {
        due.is("ifPeeled(1, 0) when empty", new PedalLayers().ifPeeled(1, 0), INVALID);
        PedalLayers x = Pedals.loopWith(2, 5, 50);
        Pedals.layOver(x, 6, 20, 1);
        Pedals.layOver(x, 19, 7, 3);
        int[][] want = {{2, 50, 1}, {2, 70, 1}, {4, 147, 1}};
        for (int layers = 1; layers <= 3; layers++) {
            for (int what = 0; what < 3; what++) {
                due.is("ifPeeled(" + layers + ", " + what + ")", x.ifPeeled(layers, what), want[layers - 1][what]);
            }
        }
        due.is("ifPeeled(0, 0)", x.ifPeeled(0, 0), INVALID);
        due.is("ifPeeled(4, 0)", x.ifPeeled(4, 0), INVALID);
        due.is("ifPeeled(1, -1)", x.ifPeeled(1, -1), INVALID);
        due.is("ifPeeled(1, 3)", x.ifPeeled(1, 3), INVALID);
        x.mute(1);
        due.is("muted layers are not heard", x.ifPeeled(3, 1), 107);
        x.speed();
        due.is("at half speed", x.ifPeeled(3, 1), 7);
        due.is("at half speed", x.ifPeeled(3, 2), 3);
        due.is("nothing is changed", x.count(3), 3);
    }
}
