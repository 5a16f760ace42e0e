/** Promises 12 to 16: texts. */
final class TextPromises {
    private static final int INVALID = PedalLayers.INVALID_ARGUMENT;
    private static final int NOT_POSSIBLE = PedalLayers.NOT_POSSIBLE;
    private static final int NOT_FOUND = PedalLayers.NOT_FOUND;

    static void promise12Append(Due due) {
        PedalLayers x = new PedalLayers();
        due.is("append(32)", x.append(32), INVALID);
        due.is("append(127)", x.append(127), INVALID);
        due.is("append(33)", x.append(33), 1);
        due.is("append(126)", x.append(126), 2);
        for (int length = 3; length <= 60; length++) {
            due.is("append('p')", x.append('p'), length);
        }
        due.is("append() to 60", x.append('p'), PedalLayers.LIMIT_REACHED);
        due.is("append(0) to 60", x.append(0), INVALID);
        due.is("count(13)", x.count(13), 60);
    }

    static void promise13Erase(Due due) {
        PedalLayers x = new PedalLayers();
        due.is("erase()", x.erase(), 0);
        Pedals.write(x, "pps");
        due.is("erase()", x.erase(), 3);
        due.is("erase()", x.erase(), 0);
        due.is("count(13)", x.count(13), 0);
        due.is("append()", x.append('x'), 1);
    }

    private static void isFault(Due due, int way, String text, int want) {
        PedalLayers x = new PedalLayers();
        Pedals.write(x, text);
        due.is("fault(" + way + ") of \"" + text + "\"", x.fault(way), want);
    }

    static void promise14FaultOfOrders(Due due) {
        String[] whole = {"p", "svxy", "h0.0", "h99.999p", "h10.100t1", "t99", "t1t10", "h5.6h7.8", "h5.60s"};
        for (String text : whole) {
            isFault(due, 0, text, NOT_FOUND);
        }
        String[] begun = {"", "h", "h0", "h10", "h10.", "t", "pt", "ph5"};
        for (String text : begun) {
            isFault(due, 0, text, text.length());
        }
        isFault(due, 0, "P", 0);
        isFault(due, 0, "5", 0);
        isFault(due, 0, "p.", 1);
        isFault(due, 0, "p1", 1);
        isFault(due, 0, "hp", 1);
        isFault(due, 0, "h.5", 1);
        isFault(due, 0, "h05.5", 2);
        isFault(due, 0, "h100.5", 3);
        isFault(due, 0, "h5,5", 2);
        isFault(due, 0, "h5.p", 3);
        isFault(due, 0, "h5.00", 4);
        isFault(due, 0, "h5.1000", 6);
        isFault(due, 0, "t0", 1);
        isFault(due, 0, "t100", 3);
        isFault(due, 0, "tp", 1);
        isFault(due, 0, "t1z", 2);
        String full = "p".repeat(59);
        isFault(due, 0, full + "h", 60);
        isFault(due, 0, full + "p", NOT_FOUND);
    }

    static void promise14FaultOfTunes(Due due) {
        String[] whole = {"0", "35", "1,2", "10,29,30,9,0", "3,3"};
        for (String text : whole) {
            isFault(due, 1, text, NOT_FOUND);
        }
        isFault(due, 1, "", 0);
        isFault(due, 1, "5,", 2);
        isFault(due, 1, ",", 0);
        isFault(due, 1, "5,,", 2);
        isFault(due, 1, "00", 1);
        isFault(due, 1, "36", 1);
        isFault(due, 1, "40", 1);
        isFault(due, 1, "100", 2);
        isFault(due, 1, "1.2", 1);
        isFault(due, 1, "p", 0);
        isFault(due, 1, "5,36", 3);
    }

    static void promise14FaultOfNoWay(Due due) {
        PedalLayers x = new PedalLayers();
        due.is("fault(-1)", x.fault(-1), INVALID);
        due.is("fault(2)", x.fault(2), INVALID);
    }

    static void promise15Play(Due due) {
        PedalLayers x = new PedalLayers();
        due.is("play() of an empty pad", x.play(), NOT_POSSIBLE);
        Pedals.write(x, "ph");
        due.is("play() of a fault", x.play(), NOT_POSSIBLE);
        due.is("the pad stays", x.count(13), 2);
        due.is("no state", x.count(14), 0);
        Pedals.write(x, "ph5.60t4vh5.7t2vpph1.2t2px");
        due.is("play()", x.play(), 13);
        due.is("mode", x.count(0), 2);
        due.is("the pad is erased", x.count(13), 0);
        due.is("one change", x.count(14), 1);
        due.is("length", x.count(1), 5);
        due.is("note", x.note(0, 0, 5), 60);
        due.is("note at half speed", x.note(0, 4, 17), 7);
        due.is("layers", x.count(3), 1);
        due.is("drawer", x.count(4), 1);
        Pedals.write(x, "ys");
        due.is("play()", x.play(), 2);
        due.is("layers", x.count(3), 2);
        due.is("mode", x.count(0), 4);
        Pedals.write(x, "sp");
        due.is("none is carried out", x.play(), 0);
        due.is("a change nevertheless", x.count(14), 3);
        due.is("the pad is erased", x.count(13), 0);
        due.is("mode", x.count(0), 4);
    }

    static void promise15PlayStopsAtWrongHits(Due due) {
        String[] texts = {"ph24.1p", "ph99.1p", "ph0.0p", "ph0.100p", "ph0.999p"};
        for (String text : texts) {
            PedalLayers x = new PedalLayers();
            Pedals.write(x, text);
            due.is("play() of " + text, x.play(), 1);
            due.is("why(0)", x.why(0), INVALID);
        }
        PedalLayers x = new PedalLayers();
        Pedals.write(x, "ph23.99h0.1t99");
        due.is("play() of right hits", x.play(), 4);
        due.is("all ticks went by", x.count(5), 6);
    }

    static void promise16Why(Due due) {
        PedalLayers x = new PedalLayers();
        due.is("why(-1)", x.why(-1), INVALID);
        due.is("why(3)", x.why(3), INVALID);
        due.is("why(0) without play()", x.why(0), NOT_FOUND);
        Pedals.write(x, "pt10xp");
        x.play();
        due.is("why(0)", x.why(0), NOT_POSSIBLE);
        due.is("why(1)", x.why(1), 2);
        due.is("why(2)", x.why(2), 4);
        due.is("why(3)", x.why(3), INVALID);
        x.save();
        Pedals.write(x, "q");
        x.play();
        due.is("an error of play() is no play", x.why(2), 4);
        x.undo();
        x.restore();
        due.is("why() is not undone or restored", x.why(2), 4);
        Pedals.write(x, "v");
        x.play();
        due.is("all carried out", x.why(0), NOT_FOUND);
        x.undo();
        due.is("why() stays by undo", x.why(1), NOT_FOUND);
        PedalLayers full = Pedals.loop(1);
        for (int i = 0; i < 5; i++) {
            Pedals.layOver(full, 1, 1, 1);
        }
        Pedals.write(full, "t1p");
        full.play();
        due.is("why(0) of a limit", full.why(0), PedalLayers.LIMIT_REACHED);
        due.is("why(1)", full.why(1), 1);
        due.is("why(2)", full.why(2), 2);
    }
}
