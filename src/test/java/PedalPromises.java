/** Promises 1 to 11: the pedal. */
final class PedalPromises {
    private static final int INVALID = PedalLayers.INVALID_ARGUMENT;
    private static final int NOT_POSSIBLE = PedalLayers.NOT_POSSIBLE;

    static void promise01NewObject(Due due) {
        PedalLayers x = new PedalLayers();
        int[] first = {0, 0, 0, 0, 0, 0, 0, 0, 0, 0, 8, 1, 0, 0, 0, 0};
        for (int what = 0; what < first.length; what++) {
            due.is("count(" + what + ")", x.count(what), first[what]);
        }
        due.is("undo()", x.undo(), NOT_POSSIBLE);
        due.is("restore()", x.restore(), NOT_POSSIBLE);
        due.is("why(0)", x.why(0), PedalLayers.NOT_FOUND);
        due.is("another object's mode", otherModeAfterPress(), 0);
    }

    private static int otherModeAfterPress() {
        PedalLayers x = new PedalLayers();
        PedalLayers other = new PedalLayers();
        x.press();
        return other.count(0);
    }

    static void promise02PressFirstTake(Due due) {
        PedalLayers x = new PedalLayers();
        due.is("press()", x.press(), 1);
        due.is("press() without halves", x.press(), NOT_POSSIBLE);
        x.hit(3, 10);
        x.pass(2);
        x.hit(4, 20);
        x.pass(3);
        due.is("press()", x.press(), 2);
        due.is("length", x.count(1), 5);
        due.is("first length", x.count(2), 5);
        due.is("place", x.count(5), 0);
        due.is("passes", x.count(6), 0);
        due.is("barIn() at its begin", x.barIn(), 0);
        due.is("note", x.note(0, 0, 3), 10);
        due.is("note", x.note(0, 2, 4), 20);
        due.is("laid", x.count(15), 1);
    }

    static void promise02PressRoundsTheFirstTake(Due due) {
        PedalLayers x = new PedalLayers();
        x.press();
        x.pass(8);
        x.hit(6, 60);
        x.pass(1);
        x.press();
        due.is("9 cells are rounded to 8", x.count(1), 8);
        due.is("notes beyond are lost", x.layer(0, 1), 0);
        x = new PedalLayers();
        x.speed();
        x.press();
        x.pass(13);
        x.hit(6, 60);
        x.pass(1);
        x.press();
        due.is("14 halves are 7 cells, 8 by rounding", x.count(1), 8);
        due.is("kept an octave higher", x.note(0, 6, 18), 60);
        x = new PedalLayers();
        x.speed();
        x.press();
        x.pass(9);
        x.press();
        due.is("9 halves are 5 cells", x.count(1), 5);
        x = new PedalLayers();
        x.press();
        x.pass(7);
        x.hit(1, 11);
        x.press();
        due.is("a note behind the played cells, within the rounded length", x.note(0, 7, 1), 11);
    }

    static void promise02PressTakeOver(Due due) {
        PedalLayers x = Pedals.loop(4);
        x.pass(3);
        due.is("press()", x.press(), 3);
        due.is("press() without halves", x.press(), NOT_POSSIBLE);
        x.hit(5, 60);
        x.pass(2);
        x.hit(7, 70);
        x.pass(2);
        due.is("press()", x.press(), 2);
        due.is("the length stays with as many halves as twice the first length", x.count(1), 4);
        due.is("place stays", x.count(5), 6);
        due.is("passes", x.count(6), 1);
        due.is("note", x.note(1, 3, 5), 60);
        due.is("note of the second half is folded", x.note(1, 1, 7), 70);
        x.pass(1);
        x.press();
        x.hit(9, 50);
        x.pass(4);
        x.hit(9, 60);
        due.is("notes of the take", x.count(8), 2);
        x.speed();
        x.pass(1);
        x.press();
        due.is("one half more makes it twice as long", x.count(1), 8);
        due.is("layer's length", x.layer(2, 0), 8);
        due.is("place", x.count(5), 9);
        due.is("note", x.note(2, 0, 9), 50);
        due.is("note", x.note(2, 4, 9), 60);
        x.press();
        x.pass(1);
        x.press();
        due.is("over a loop of twice the length each layer has it", x.layer(3, 0), 8);
        due.is("place", x.count(5), 10);
    }

    static void promise02PressLaysAFreshLayer(Due due) {
        PedalLayers x = Pedals.loop(2);
        Pedals.layOver(x, 1, 10, 3);
        x.pass(9);
        x.mute(1);
        x.peel();
        x.press();
        x.pass(1);
        due.is("the first take's note is no note of the second", x.count(8), 0);
        x.press();
        due.is("not muted", x.layer(1, 4), 0);
        due.is("without passes", x.layer(1, 5), 0);
        due.is("without notes", x.layer(1, 1), 0);
        due.is("of the first length", x.layer(1, 0), 2);
    }

    static void promise02PressAsLongAsCanBe(Due due) {
        PedalLayers x = Pedals.loopWith(24, 23, 99);
        x.press();
        x.hit(0, 1);
        x.pass(47);
        x.speed();
        x.hit(23, 99);
        x.pass(2);
        due.is("mode", x.count(0), 2);
        due.is("length", x.count(1), 48);
        due.is("first length", x.count(2), 24);
        due.is("first cell, lowest key", x.note(1, 0, 0), 1);
        due.is("last cell, highest key", x.note(1, 47, 35), 99);
        due.is("notes", x.layer(1, 1), 2);
        due.is("what is heard in the last cell", x.heard(47, 2), 23);
        x.press();
        x.pass(1);
        x.press();
        due.is("an empty take", x.layer(2, 1), 0);
        due.is("the key 0 and the force 1 fade, too", fadedByOne(x), 0);
    }

    private static int fadedByOne(PedalLayers x) {
        x.speed();
        x.set(PedalLayers.FADE, 1);
        x.pass(49);
        return x.note(1, 0, 0) + x.note(1, 47, 35) - 98;
    }

    static void promise02PressFoldsAtMost99(Due due) {
        PedalLayers x = Pedals.loop(4);
        x.pass(2);
        x.press();
        x.pass(1);
        x.hit(0, 1);
        x.pass(1);
        x.hit(0, 60);
        x.press();
        due.is("cell 3", x.note(1, 3, 0), 1);
        due.is("cell 0, folded", x.note(1, 0, 0), 60);
        // A take of a whole loop from an odd place on reaches the cell of its beginning again, a length later.
        x = Pedals.loop(4);
        x.speed();
        x.pass(1);
        x.press();
        x.hit(0, 60);
        x.pass(8);
        x.hit(0, 70);
        x.press();
        due.is("both are added, at most 99", x.note(1, 0, 12), 99);
        due.is("length", x.layer(1, 0), 4);
    }

    static void promise02PressLimitAndRest(Due due) {
        PedalLayers x = Pedals.loop(2);
        for (int i = 0; i < 5; i++) {
            due.is("press()", x.press(), 3);
            x.pass(1);
            due.is("press()", x.press(), 2);
        }
        due.is("layers", x.count(3), 6);
        due.is("press() with 6 layers", x.press(), PedalLayers.LIMIT_REACHED);
        due.is("mode", x.count(0), 2);
        x.pass(3);
        due.is("stop()", x.stop(), 4);
        due.is("press() at rest, with 6 layers", x.press(), 2);
        due.is("place", x.count(5), 0);
        due.is("passes", x.count(6), 0);
        due.is("barIn()", x.barIn(), 0);
        x.peel();
        due.is("press() with 5 layers", x.press(), 3);
        x.pass(1);
        due.is("drawer", x.count(4), 1);
        x.press();
        due.is("the drawer is emptied", x.count(4), 0);
        due.is("laid", x.count(15), 7);
    }

    static void promise03Stop(Due due) {
        PedalLayers x = new PedalLayers();
        due.is("stop() when empty", x.stop(), NOT_POSSIBLE);
        x.press();
        x.hit(1, 1);
        x.pass(2);
        due.is("stop() of a first take", x.stop(), 0);
        due.is("layers", x.count(3), 0);
        due.is("halves", x.count(7), 0);
        x.press();
        due.is("a new take is without the notes of the old", x.count(8), 0);
        due.is("and without its halves", x.count(7), 0);
        x.pass(4);
        x.press();
        due.is("stop() of a loop", x.stop(), 4);
        due.is("place at rest", x.count(5), 0);
        due.is("stop() at rest", x.stop(), NOT_POSSIBLE);
        x.press();
        x.pass(5);
        x.press();
        x.hit(2, 2);
        x.pass(1);
        due.is("stop() of a take over the loop", x.stop(), 4);
        due.is("layers", x.count(3), 1);
        due.is("the passes are told at rest too", x.count(6), 1);
        due.is("halves", x.count(7), 0);
        due.is("notes", x.count(8), 0);
    }

    static void promise04Empty(Due due) {
        PedalLayers x = new PedalLayers();
        due.is("empty() when empty", x.empty(), NOT_POSSIBLE);
        x.press();
        due.is("empty() of a first take", x.empty(), 0);
        due.is("mode", x.count(0), 0);
        x = Pedals.loop(3);
        x.set(PedalLayers.BAR, 5);
        x.speed();
        Pedals.layOver(x, 1, 10, 2);
        Pedals.layOver(x, 1, 10, 2);
        x.peel();
        x.press();
        x.pass(7);
        due.is("empty()", x.empty(), 2);
        int[] then = {0, 0, 0, 0, 0, 0, 0, 0, 0, 1, 5, 0, 0};
        for (int what = 0; what < then.length; what++) {
            due.is("count(" + what + ")", x.count(what), then[what]);
        }
        due.is("laid so far", x.count(15), 3);
        due.is("back()", x.back(), NOT_POSSIBLE);
        due.is("press()", x.press(), 1);
    }

    static void promise05Hit(Due due) {
        PedalLayers x = new PedalLayers();
        due.is("hit() without a take", x.hit(0, 1), NOT_POSSIBLE);
        due.is("hit() without a take, wrong key", x.hit(24, 1), INVALID);
        x.press();
        due.is("key -1", x.hit(-1, 1), INVALID);
        due.is("key 24", x.hit(24, 1), INVALID);
        due.is("force 0", x.hit(0, 0), INVALID);
        due.is("force 100", x.hit(0, 100), INVALID);
        due.is("key 0", x.hit(0, 1), 1);
        due.is("key 23", x.hit(23, 99), 99);
        due.is("force is added", x.hit(0, 97), 98);
        due.is("force is added, at most 99", x.hit(0, 2), 99);
        due.is("notes", x.count(8), 2);
        x.speed();
        due.is("at half speed another key", x.hit(0, 5), 5);
        due.is("key 23 at half speed", x.hit(23, 6), 6);
        x.pass(1);
        due.is("the same cell", x.hit(0, 5), 10);
        x.pass(1);
        due.is("the next cell", x.hit(0, 5), 5);
        x.press();
        due.is("kept as 12", x.note(0, 0, 12), 10);
        due.is("kept as 35", x.note(0, 0, 35), 6);
        due.is("hit() while the loop plays", x.hit(0, 1), NOT_POSSIBLE);
    }

    static void promise05HitOverTheLoop(Due due) {
        PedalLayers x = Pedals.loop(3);
        x.pass(2);
        x.press();
        x.pass(4);
        due.is("cell 6 is cell 0 of twice the first length", x.hit(8, 30), 30);
        due.is("again", x.hit(8, 30), 60);
        x.press();
        due.is("length", x.layer(1, 0), 6);
        due.is("note", x.note(1, 0, 8), 60);
        due.is("place", x.count(5), 0);
        due.is("no note elsewhere", x.layer(1, 2), 60);
        due.is("what a take has is not heard", takeIsHeard(), 0);
    }

    private static int takeIsHeard() {
        PedalLayers x = Pedals.loop(3);
        x.press();
        x.hit(5, 50);
        return x.ring(0, 5);
    }

    static void promise06Pass(Due due) {
        PedalLayers x = new PedalLayers();
        due.is("pass(0)", x.pass(0), INVALID);
        due.is("pass(100)", x.pass(100), INVALID);
        due.is("pass() when empty", x.pass(1), 0);
        x.press();
        x.pass(23);
        due.is("halves", x.count(7), 46);
        due.is("mode", x.count(0), 1);
        due.is("pass(99) ends the take at 48 halves", x.pass(99), 4);
        due.is("length", x.count(1), 24);
        due.is("place", x.count(5), 4);
        due.is("passes", x.count(6), 4);
        x.stop();
        due.is("pass() at rest", x.pass(99), 0);
        due.is("passes", x.count(6), 4);
        x = Pedals.loop(1);
        due.is("a pass each tick", x.pass(99), 99);
        x.speed();
        due.is("half of that at half speed", x.pass(99), 49);
        due.is("place", x.count(5), 1);
        x.speed();
        due.is("the place stays odd", x.pass(1), 1);
        due.is("place", x.count(5), 1);
    }

    static void promise06PassEndsTakesFromOddHalves(Due due) {
        PedalLayers x = new PedalLayers();
        x.speed();
        x.press();
        x.pass(47);
        due.is("mode", x.count(0), 1);
        x.speed();
        x.set(PedalLayers.BAR, 16);
        x.set(PedalLayers.SLACK, 0);
        x.pass(1);
        due.is("49 halves are 24 cells", x.count(1), 24);
        x = Pedals.loop(4);
        x.pass(1);
        x.press();
        due.is("7 of 8 cells", x.pass(7), 2);
        due.is("mode", x.count(0), 3);
        due.is("the take ends by itself", x.pass(1), 0);
        due.is("mode", x.count(0), 2);
        due.is("length", x.count(1), 8);
        due.is("place, from its beginning on", x.count(5), 2);
    }

    static void promise06PassFades(Due due) {
        PedalLayers x = Pedals.loopWith(2, 5, 99);
        Pedals.layOver(x, 6, 50, 1);
        x.mute(1);
        x.set(PedalLayers.FADE, 10);
        x.pass(1);
        due.is("faded", x.note(0, 0, 5), 89);
        due.is("muted layers fade too", x.note(1, 0, 6), 45);
        x.pass(2);
        due.is("rounded down", x.note(0, 0, 5), 80);
        x.peel();
        x.set(PedalLayers.FADE, 100);
        x.press();
        x.hit(7, 70);
        x.pass(2);
        due.is("all of it", x.note(0, 0, 5), 0);
        x.press();
        due.is("a take does not fade", x.note(1, 0, 7), 70);
        x = Pedals.loopWith(2, 5, 99);
        Pedals.layOver(x, 6, 50, 1);
        x.set(PedalLayers.FADE, 50);
        x.peel();
        x.pass(4);
        x.back();
        due.is("what is in the drawer does not fade", x.note(1, 0, 6), 50);
        due.is("what is on the loop does", x.note(0, 0, 5), 24);
    }

    static void promise07Peel(Due due) {
        PedalLayers x = new PedalLayers();
        due.is("peel() when empty", x.peel(), NOT_POSSIBLE);
        x = Pedals.loop(4);
        due.is("peel() of the first layer", x.peel(), NOT_POSSIBLE);
        Pedals.layOver(x, 1, 10, 2);
        Pedals.layOver(x, 2, 20, 6);
        due.is("place", x.count(5), 0);
        x.pass(7);
        x.press();
        due.is("peel() while a take runs", x.peel(), NOT_POSSIBLE);
        x.stop();
        x.press();
        x.pass(7);
        due.is("place in the longer loop", x.count(5), 14);
        due.is("peel()", x.peel(), 2);
        due.is("length", x.count(1), 4);
        due.is("place in the shorter loop", x.count(5), 6);
        due.is("peel()", x.peel(), 1);
        due.is("place stays", x.count(5), 6);
        due.is("drawer", x.count(4), 2);
        due.is("peel()", x.peel(), NOT_POSSIBLE);
        x.stop();
        x.back();
        due.is("peel() at rest", x.peel(), 1);
    }

    static void promise08Back(Due due) {
        PedalLayers x = Pedals.loop(4);
        due.is("back() with an empty drawer", x.back(), NOT_POSSIBLE);
        Pedals.layOver(x, 1, 10, 2);
        Pedals.layOver(x, 2, 20, 6);
        x.mute(2);
        x.peel();
        x.peel();
        x.press();
        x.pass(1);
        due.is("back() while a take runs", x.back(), NOT_POSSIBLE);
        x.stop();
        x.press();
        due.is("back()", x.back(), 2);
        due.is("the one that was peeled last", x.note(1, 0, 1), 10);
        due.is("length", x.count(1), 4);
        due.is("back()", x.back(), 3);
        due.is("the one below it", x.layer(2, 2), 20);
        due.is("still muted", x.layer(2, 4), 1);
        due.is("length", x.count(1), 8);
        due.is("drawer", x.count(4), 0);
        due.is("back()", x.back(), NOT_POSSIBLE);
    }

    static void promise09Mute(Due due) {
        PedalLayers x = new PedalLayers();
        due.is("mute(0) when empty", x.mute(0), INVALID);
        x = Pedals.loopWith(4, 5, 60);
        due.is("mute(-1)", x.mute(-1), INVALID);
        due.is("mute(1)", x.mute(1), INVALID);
        due.is("mute(0)", x.mute(0), 1);
        due.is("ring", x.ring(0, 5), 0);
        due.is("length stays", x.count(1), 4);
        due.is("mute(0)", x.mute(0), 0);
        due.is("ring", x.ring(0, 5), 60);
        Pedals.layOver(x, 1, 10, 2);
        x.peel();
        due.is("a layer in the drawer has no number", x.mute(1), INVALID);
    }

    static void promise10Speed(Due due) {
        PedalLayers x = new PedalLayers();
        due.is("speed()", x.speed(), 1);
        due.is("count(9)", x.count(9), 1);
        x.press();
        x.pass(3);
        due.is("halves", x.count(7), 3);
        due.is("speed()", x.speed(), 0);
        x.pass(3);
        due.is("halves", x.count(7), 9);
        x.press();
        due.is("cells", x.count(1), 5);
        x.pass(1);
        x.speed();
        x.pass(1);
        due.is("place", x.count(5), 3);
    }

    static void promise11Set(Due due) {
        PedalLayers x = new PedalLayers();
        int[] least = {2, 0, 0};
        int[] most = {16, 8, 100};
        int[] first = {8, 1, 0};
        for (int what = 0; what < 3; what++) {
            due.is("below the range", x.set(what, least[what] - 1), INVALID);
            due.is("above the range", x.set(what, most[what] + 1), INVALID);
            due.is("the least", x.set(what, least[what]), first[what]);
            due.is("the most", x.set(what, most[what]), least[what]);
            due.is("count(10..12)", x.count(10 + what), most[what]);
        }
        due.is("set(-1, 2)", x.set(-1, 2), INVALID);
        due.is("set(3, 2)", x.set(3, 2), INVALID);
    }
}
