/** Promises 32 to 34: history, snapshot. */
final class HistoryPromises {
    private static final int NOT_POSSIBLE = PedalLayers.NOT_POSSIBLE;

    static void promise32Undo(Due due) {
        PedalLayers x = new PedalLayers();
        due.is("undo() without a state", x.undo(), NOT_POSSIBLE);
        x.press();
        x.hit(5, 50);
        x.pass(4);
        due.is("undo()", x.undo(), 2);
        due.is("halves", x.count(7), 0);
        due.is("notes", x.count(8), 1);
        due.is("undo()", x.undo(), 1);
        due.is("notes", x.count(8), 0);
        due.is("undo()", x.undo(), 0);
        due.is("mode", x.count(0), 0);
        due.is("undo()", x.undo(), NOT_POSSIBLE);
    }

    static void promise32UndoKeepsFourStates(Due due) {
        PedalLayers x = new PedalLayers();
        for (int bar = 2; bar <= 7; bar++) {
            x.set(PedalLayers.BAR, bar);
            due.is("states", x.count(14), Math.min(bar - 1, 4));
        }
        for (int bar = 6; bar >= 3; bar--) {
            due.is("undo()", x.undo(), bar - 3);
            due.is("BAR", x.count(10), bar);
        }
        due.is("undo()", x.undo(), NOT_POSSIBLE);
        x.set(PedalLayers.BAR, 9);
        due.is("undo()", x.undo(), 0);
        due.is("BAR", x.count(10), 3);
    }

    static void promise32UndoOfEveryChange(Due due) {
        for (int change = 0; change < 11; change++) {
            PedalLayers x = Pedals.loopWith(4, 5, 60);
            Pedals.layOver(x, 6, 10, 5);
            Pedals.layOver(x, 7, 10, 2);
            x.peel();
            x.save();
            x.mute(0);
            x.set(PedalLayers.SLACK, 7);
            x.pass(3);
            int[] before = look(x);
            due.holds("the change " + change + " is one", change(x, change) >= 0);
            due.is("states", x.undo(), 3);
            sameLook(due, "change " + change, look(x), before);
        }
    }

    static void promise32UndoOfHits(Due due) {
        PedalLayers x = Pedals.loop(4);
        x.pass(3);
        x.press();
        x.hit(1, 10);
        x.pass(1);
        x.hit(1, 20);
        x.hit(1, 30);
        due.is("undo()", x.undo(), 3);
        due.is("the force before it", x.hit(1, 1), 21);
        x.undo();
        x.undo();
        x.undo();
        due.is("in the cell of before", x.hit(1, 1), 11);
        x.press();
        x.pass(1);
        x.press();
        x.undo();
        due.is("a layer that was laid is a take again", x.count(8), 1);
        due.is("laid", x.count(15), 1);
        x.press();
        due.is("in its place", x.note(1, 3, 1), 11);
    }

    static void promise32UndoFindsTheTakesBeginning(Due due) {
        PedalLayers x = Pedals.loop(6);
        x.pass(4);
        x.press();
        x.pass(1);
        x.stop();
        x.press();
        x.pass(1);
        x.press();
        x.undo();
        x.undo();
        x.undo();
        x.undo();
        due.is("a take runs again", x.count(0), 3);
        x.hit(3, 30);
        x.press();
        due.is("from its beginning on", x.note(1, 5, 3), 30);
    }

    private static int change(PedalLayers x, int change) {
        switch (change) {
            case 0: return x.press();
            case 1: return x.stop();
            case 2: return x.empty();
            case 3: return x.pass(99);
            case 4: return x.peel();
            case 5: return x.back();
            case 6: return x.mute(1);
            case 7: return x.speed();
            case 8: return x.set(PedalLayers.FADE, 50);
            case 9: return x.restore();
            default:
                Pedals.write(x, "t9xxpt3p");
                return x.play();
        }
    }

    private static int[] look(PedalLayers x) {
        int[] seen = new int[80];
        int at = 0;
        for (int what = 0; what < 16; what++) {
            // The pad and the number of states are not what is undone.
            seen[at++] = what == 13 || what == 14 ? 0 : x.count(what);
        }
        for (int layer = 0; layer < 6; layer++) {
            for (int what = 0; what < 6; what++) {
                seen[at++] = x.layer(layer, what);
            }
        }
        seen[at++] = x.barIn();
        seen[at++] = x.loudest();
        seen[at++] = x.silentIn();
        return seen;
    }

    private static void sameLook(Due due, String what, int[] got, int[] want) {
        for (int i = 0; i < want.length; i++) {
            due.is("look " + i + " behind undo() of " + what, got[i], want[i]);
        }
    }

    static void promise32UndoLeavesPadAndSnapshot(Due due) {
        PedalLayers x = Pedals.loop(4);
        x.speed();
        x.save();
        Pedals.write(x, "7,8");
        x.undo();
        due.is("the pad stays", x.count(13), 3);
        due.is("full speed", x.count(9), 0);
        x.restore();
        due.is("the snapshot stays", x.count(9), 1);
        due.is("undo() of restore()", x.undo(), 3);
        due.is("full speed", x.count(9), 0);
        due.is("an error keeps no state", x.hit(0, 0), PedalLayers.INVALID_ARGUMENT);
        due.is("states", x.count(14), 3);
        x.press();
        x.stop();
        x.pass(5);
        due.is("a change without a difference keeps one", x.count(14), 4);
    }

    static void promise33Save(Due due) {
        PedalLayers x = new PedalLayers();
        due.is("save()", x.save(), 0);
        due.is("no change", x.count(14), 0);
        x.press();
        due.is("save()", x.save(), 1);
        x.pass(5);
        x.press();
        due.is("save()", x.save(), 2);
        x.stop();
        due.is("save()", x.save(), 4);
        x.press();
        x.press();
        x.hit(5, 50);
        due.is("save()", x.save(), 3);
        x.empty();
        due.is("restore()", x.restore(), 3);
        due.is("the take, too", x.count(8), 1);
        due.is("in place of the one that was", x.count(1), 5);
    }

    static void promise34Restore(Due due) {
        PedalLayers x = new PedalLayers();
        due.is("restore() without a snapshot", x.restore(), NOT_POSSIBLE);
        due.is("no change", x.count(14), 0);
        x = Pedals.loopWith(4, 5, 60);
        x.set(PedalLayers.BAR, 5);
        x.pass(3);
        x.save();
        x.set(PedalLayers.BAR, 6);
        x.set(PedalLayers.FADE, 100);
        x.pass(50);
        x.speed();
        Pedals.write(x, "px");
        due.is("restore()", x.restore(), 2);
        due.is("note", x.note(0, 0, 5), 60);
        due.is("place", x.count(5), 6);
        due.is("passes", x.count(6), 0);
        due.is("BAR", x.count(10), 5);
        due.is("FADE", x.count(12), 0);
        due.is("speed", x.count(9), 0);
        due.is("barIn()", x.barIn(), 4);
        due.is("the pad stays", x.count(13), 2);
        due.is("a change", x.count(14), 4);
        x.empty();
        due.is("the snapshot stays", x.restore(), 2);
        due.is("layers", x.count(3), 1);
        x.undo();
        due.is("undo() of restore()", x.count(0), 0);
    }
}
