/** Promises 17 to 25: looks. */
final class LookPromises {
    private static final int INVALID = PedalLayers.INVALID_ARGUMENT;
    private static final int NOT_POSSIBLE = PedalLayers.NOT_POSSIBLE;
    private static final int NOT_FOUND = PedalLayers.NOT_FOUND;

    /** Two cells and one layer of twice as many; keys 5, 20 in the cell 0, key 5 in the cell 3 of the layer 1. */
    private static PedalLayers twoLayers() {
        PedalLayers x = Pedals.loop(24);
        x.empty();
        x.press();
        x.hit(5, 60);
        x.hit(20, 30);
        x.pass(2);
        x.press();
        x.press();
        x.pass(3);
        x.hit(5, 20);
        x.press();
        return x;
    }

    static void promise17Layer(Due due) {
        PedalLayers x = twoLayers();
        int[] first = {2, 2, 90, 60, 0, 1};
        int[] second = {4, 1, 20, 20, 0, 0};
        for (int what = 0; what < 6; what++) {
            due.is("layer(0, " + what + ")", x.layer(0, what), first[what]);
            due.is("layer(1, " + what + ")", x.layer(1, what), second[what]);
        }
        due.is("layer(-1, 0)", x.layer(-1, 0), INVALID);
        due.is("layer(2, 0)", x.layer(2, 0), INVALID);
        due.is("layer(0, -1)", x.layer(0, -1), INVALID);
        due.is("layer(0, 6)", x.layer(0, 6), INVALID);
        x.mute(1);
        due.is("layer(1, 4)", x.layer(1, 4), 1);
        x.pass(1);
        due.is("layer(1, 5)", x.layer(1, 5), 1);
        x.peel();
        due.is("layer(1, 0) in the drawer", x.layer(1, 0), INVALID);
        x.pass(4);
        x.back();
        due.is("passes on the loop", x.layer(0, 5), 4);
        due.is("passes in the drawer do not count", x.layer(1, 5), 1);
        x.stop();
        x.press();
        due.is("passes since it was laid", x.layer(0, 5), 4);
        due.is("layer(0, 3) without a note", Pedals.loop(3).layer(0, 3), 0);
    }

    static void promise18Note(Due due) {
        PedalLayers x = twoLayers();
        due.is("note(0, 0, 5)", x.note(0, 0, 5), 60);
        due.is("note(0, 0, 20)", x.note(0, 0, 20), 30);
        due.is("note(0, 1, 35)", x.note(0, 1, 35), 0);
        due.is("note(1, 3, 5)", x.note(1, 3, 5), 20);
        x.speed();
        due.is("as it is kept, at half speed too", x.note(0, 0, 5), 60);
        due.is("note(0, 2, 5)", x.note(0, 2, 5), INVALID);
        due.is("note(1, 4, 5)", x.note(1, 4, 5), INVALID);
        due.is("note(0, -1, 5)", x.note(0, -1, 5), INVALID);
        due.is("note(0, 0, -1)", x.note(0, 0, -1), INVALID);
        due.is("note(0, 0, 36)", x.note(0, 0, 36), INVALID);
        due.is("note(2, 0, 5)", x.note(2, 0, 5), INVALID);
        due.is("note(-1, 0, 5)", x.note(-1, 0, 5), INVALID);
        due.is("a great cell", x.note(0, Integer.MAX_VALUE, 5), INVALID);
    }

    static void promise19Ring(Due due) {
        PedalLayers x = twoLayers();
        due.is("ring(0, 5)", x.ring(0, 5), 60);
        due.is("ring(2, 5) by the modulo", x.ring(2, 5), 60);
        due.is("ring(3, 5)", x.ring(3, 5), 20);
        due.is("ring(1, 5)", x.ring(1, 5), 0);
        x.speed();
        due.is("a lower key at half speed", x.ring(0, 8), 30);
        due.is("not heard at half speed", x.ring(3, 5), 0);
        due.is("key 35 at half speed", x.ring(0, 35), 0);
        due.is("key 24 at half speed", x.ring(0, 24), 0);
        due.is("ring(-1, 5)", x.ring(-1, 5), INVALID);
        due.is("ring(4, 5)", x.ring(4, 5), INVALID);
        due.is("ring(0, -1)", x.ring(0, -1), INVALID);
        due.is("ring(0, 36)", x.ring(0, 36), INVALID);
        due.is("ring() when empty", new PedalLayers().ring(0, 0), INVALID);
        x = Pedals.loopWith(2, 5, 99);
        Pedals.layOver(x, 5, 98, 2);
        due.is("a ring is more than 99", x.ring(0, 5), 197);
        x.mute(0);
        due.is("without the muted", x.ring(0, 5), 98);
    }

    static void promise20Heard(Due due) {
        PedalLayers x = new PedalLayers();
        due.is("heard() when empty", x.heard(0, 0), INVALID);
        x.press();
        due.is("heard() in a first take", x.heard(0, 0), INVALID);
        x.hit(7, 40);
        x.hit(3, 40);
        x.hit(19, 10);
        x.pass(2);
        x.press();
        int[] first = {3, 90, 19, 3, 3};
        int[] silent = {0, 0, NOT_FOUND, NOT_FOUND, NOT_FOUND};
        int[] slow = {1, 10, 7, 7, 7};
        for (int what = 0; what < 5; what++) {
            due.is("heard(0, " + what + ")", x.heard(0, what), first[what]);
            due.is("heard(1, " + what + ")", x.heard(1, what), silent[what]);
        }
        x.speed();
        for (int what = 0; what < 5; what++) {
            due.is("heard(0, " + what + ") at half speed", x.heard(0, what), slow[what]);
        }
        due.is("heard(-1, 0)", x.heard(-1, 0), INVALID);
        due.is("heard(2, 0)", x.heard(2, 0), INVALID);
        due.is("heard(0, -1)", x.heard(0, -1), INVALID);
        due.is("heard(0, 5)", x.heard(0, 5), INVALID);
        due.is("heard(1, 5)", x.heard(1, 5), INVALID);
    }

    static void promise20HeardAtTheEdges(Due due) {
        PedalLayers x = new PedalLayers();
        x.press();
        x.hit(0, 1);
        x.pass(1);
        x.speed();
        x.hit(23, 1);
        x.pass(2);
        x.speed();
        x.press();
        int[] lowest = {1, 1, 0, 0, 0};
        int[] highest = {1, 1, 35, 35, 35};
        for (int what = 0; what < 5; what++) {
            due.is("the key 0: heard(0, " + what + ")", x.heard(0, what), lowest[what]);
            due.is("the key 35: heard(1, " + what + ")", x.heard(1, what), highest[what]);
        }
        due.is("ring(0, 0)", x.ring(0, 0), 1);
        due.is("ring(1, 35)", x.ring(1, 35), 1);
        due.is("loudest()", x.loudest(), 0);
        due.is("layer(0, 2)", x.layer(0, 2), 2);
        due.is("layer(0, 3) of the key 0 alone", Pedals.loopWith(2, 0, 9).layer(0, 3), 9);
        Pedals.write(x, "0,35");
        due.is("tunes()", x.tunes(), 1);
        x.speed();
        due.is("the lowest key at half speed", x.heard(0, 0), 0);
        due.is("the highest key at half speed", x.heard(1, 2), 23);
    }

    static void promise21Loudest(Due due) {
        PedalLayers x = new PedalLayers();
        due.is("loudest() when empty", x.loudest(), NOT_POSSIBLE);
        x.press();
        due.is("loudest() in a first take", x.loudest(), NOT_POSSIBLE);
        x.hit(1, 30);
        x.pass(1);
        x.hit(2, 20);
        x.hit(3, 20);
        x.pass(1);
        x.hit(14, 40);
        x.pass(1);
        x.press();
        due.is("of several the first", x.loudest(), 1);
        x.speed();
        due.is("by what is heard", x.loudest(), 2);
        x.mute(0);
        due.is("nothing is heard", x.loudest(), NOT_FOUND);
    }

    static void promise22Buried(Due due) {
        PedalLayers x = new PedalLayers();
        due.is("buried() when empty", x.buried(), NOT_FOUND);
        x = Pedals.loopWith(2, 15, 40);
        due.is("a layer alone", x.buried(), NOT_FOUND);
        Pedals.layOver(x, 15, 40, 2);
        due.is("just half of the ring", x.buried(), NOT_FOUND);
        Pedals.layOver(x, 15, 41, 2);
        due.is("of several the lowest", x.buried(), 0);
        x.mute(2);
        due.is("no more", x.buried(), NOT_FOUND);
        x.mute(2);
        x.mute(0);
        due.is("a muted layer has none", x.buried(), 1);
        x.mute(0);
        x.speed();
        due.is("at half speed", x.buried(), 0);
        x = Pedals.loopWith(2, 5, 10);
        Pedals.layOver(x, 5, 60, 2);
        due.is("heard", x.buried(), 0);
        x.speed();
        due.is("not heard at half speed", x.buried(), NOT_FOUND);
    }

    static void promise22BuriedAtTheEdges(Due due) {
        PedalLayers x = Pedals.loopWith(2, 0, 1);
        Pedals.layOver(x, 0, 2, 2);
        due.is("the key 0, the force 1", x.buried(), 0);
        x = Pedals.loop(2);
        Pedals.layOver(x, 0, 2, 2);
        due.is("no note is no buried note", x.buried(), NOT_FOUND);
        x = Pedals.loop(1);
        for (int layer = 1; layer < 5; layer++) {
            Pedals.layOver(x, 9, 90, 1);
        }
        Pedals.layOver(x, 9, 89, 1);
        due.is("all but the first are buried", x.buried(), 1);
        x.mute(1);
        x.mute(2);
        x.mute(3);
        due.is("the lesser of two nearly alike", x.buried(), 5);
    }

    static void promise22BuriedInAllCells(Due due) {
        // The layer 1 is buried once in each half of the loop, the layer 0 once in the second half alone.
        PedalLayers x = Pedals.loop(2);
        x.empty();
        x.press();
        x.hit(1, 60);
        x.hit(2, 10);
        x.pass(2);
        x.press();
        Pedals.layOver(x, 1, 20, 2);
        x.press();
        x.pass(2);
        x.hit(2, 90);
        x.pass(1);
        x.press();
        due.is("length", x.count(1), 4);
        due.is("buried()", x.buried(), 1);
    }

    /** The highest keys of its cells: 7, none, 3, 7. */
    private static PedalLayers melody() {
        PedalLayers x = new PedalLayers();
        x.press();
        x.hit(7, 5);
        x.hit(6, 90);
        x.pass(2);
        x.hit(3, 5);
        x.pass(1);
        x.hit(7, 5);
        x.pass(1);
        x.press();
        return x;
    }

    private static void comes(Due due, PedalLayers x, String tune, int want) {
        Pedals.write(x, tune);
        due.is("tunes() of " + tune, x.tunes(), want);
        due.is("the pad stays", x.count(13), tune.length());
    }

    static void promise23Tunes(Due due) {
        PedalLayers x = new PedalLayers();
        comes(due, x, "7", NOT_POSSIBLE);
        x = melody();
        comes(due, x, "", NOT_POSSIBLE);
        comes(due, x, "7,", NOT_POSSIBLE);
        comes(due, x, "p", NOT_POSSIBLE);
        comes(due, x, "7", 2);
        comes(due, x, "6", 0);
        comes(due, x, "0", 0);
        comes(due, x, "3,7", 1);
        comes(due, x, "3,7,7", 1);
        comes(due, x, "7,7", 1);
        comes(due, x, "7,3", 0);
        x.mute(0);
        comes(due, x, "7", 0);
        x = Pedals.loopWith(1, 23, 50);
        comes(due, x, "23,23,23,23,23,23,23", 1);
        x.speed();
        comes(due, x, "11", 1);
        comes(due, x, "23", 0);
        x.empty();
        x.press();
        x.hit(23, 1);
        x.pass(2);
        x.press();
        comes(due, x, "23,23", 1);
        x.speed();
        comes(due, x, "35,35,35", 1);
    }

    static void promise24Count(Due due) {
        PedalLayers x = new PedalLayers();
        due.is("count(-1)", x.count(-1), INVALID);
        due.is("count(16)", x.count(16), INVALID);
        x.press();
        x.hit(1, 1);
        x.hit(2, 1);
        x.pass(4);
        int[] take = {1, 0, 0, 0, 0, 0, 0, 8, 2, 0, 8, 1, 0, 0, 4, 0};
        for (int what = 0; what < 16; what++) {
            due.is("count(" + what + ") in a first take", x.count(what), take[what]);
        }
        x.press();
        Pedals.layOver(x, 1, 1, 5);
        Pedals.layOver(x, 1, 1, 1);
        x.peel();
        x.set(PedalLayers.BAR, 9);
        x.set(PedalLayers.SLACK, 2);
        x.set(PedalLayers.FADE, 3);
        x.append('p');
        x.speed();
        x.press();
        x.pass(11);
        x.hit(5, 5);
        int[] over = {3, 8, 4, 2, 1, 7, 2, 11, 1, 1, 9, 2, 3, 1, 4, 3};
        for (int what = 0; what < 16; what++) {
            due.is("count(" + what + ") in a take over the loop", x.count(what), over[what]);
        }
    }

    static void promise25Loudness(Due due) {
        due.isDouble("loudness() when empty", new PedalLayers().loudness(), 0.0);
        PedalLayers x = Pedals.loopWith(3, 5, 50);
        due.isDouble("loudness()", x.loudness(), 50.0 / 3.0);
        Pedals.layOver(x, 15, 20, 4);
        due.isDouble("loudness() of a longer loop", x.loudness(), 120.0 / 6.0);
        x.speed();
        due.isDouble("loudness() at half speed", x.loudness(), 20.0 / 6.0);
        x.mute(1);
        due.isDouble("loudness() of nothing", x.loudness(), 0.0);
    }
}
