/** The boundary sentences of "Texts", and of the promises 12 to 16. */
final class TextEdges {
    private static final String DIGITS = "0123456789";
    private static final String LETTERS = "psvxyht";
    private static final String SIXTY = "write(" + "p".repeat(60) + ") ";

    static void promise12Append(Due due) {
        due.says("`code`: the character code, 33 to 126",
                "append(32)=INVALID_ARGUMENT count(13)=0", "append(33)=1", "append(126)=1",
                "append(127)=INVALID_ARGUMENT count(13)=0", "append(0)=INVALID_ARGUMENT", "append(-1)=INVALID_ARGUMENT",
                "append(65536)=INVALID_ARGUMENT", "append(65648)=INVALID_ARGUMENT",
                "append(2147483647)=INVALID_ARGUMENT", "append(-2147483648)=INVALID_ARGUMENT");
        due.says("Returns the length of the pad then; LIMIT_REACHED if it has 60 characters.",
                "append(112)=1 append(112)=2", "write(" + "p".repeat(59) + ")=59 append(112)=60 append(112)=LIMIT_REACHED"
                        + " count(13)=60 erase()=60 append(112)=1",
                SIXTY + "append(32)=INVALID_ARGUMENT append(33)=LIMIT_REACHED append(126)=LIMIT_REACHED"
                        + " append(127)=INVALID_ARGUMENT count(13)=60");
        due.says("There is a pad of at most 60 characters, initially empty.", "count(13)=0 erase()=0 fault(0)=0");
    }

    static void promise13Erase(Due due) {
        due.says("Returns the length that it had.",
                "erase()=0 count(13)=0", "append(33)=1 erase()=1 erase()=0", SIXTY + "erase()=60 count(13)=0 erase()=0",
                "write(pp) erase()=2 write(s)=1 fault(0)=NOT_FOUND");
        due.says("It is no change.", "write(pp) erase()=2 count(14)=0 undo()=NOT_POSSIBLE");
    }

    static void promise14Way(Due due) {
        due.says("`way`: 0 if it is read as orders, 1 if it is read as a tune",
                "fault(-1)=INVALID_ARGUMENT", "fault(2)=INVALID_ARGUMENT", "write(p) fault(2)=INVALID_ARGUMENT",
                "write(p) fault(-1)=INVALID_ARGUMENT fault(0)=NOT_FOUND fault(1)=0",
                "write(5) fault(0)=0 fault(1)=NOT_FOUND", "fault(2147483647)=INVALID_ARGUMENT",
                "fault(-2147483648)=INVALID_ARGUMENT");
    }

    /** Behind these characters just those that are told go on; every other one of the keyboard is wrong. */
    private static void goesOn(Due due, int way, String before, String right, String ends) {
        for (char sign = 33; sign <= 126; sign++) {
            PedalLayers x = new PedalLayers();
            Pedals.write(x, before + sign);
            boolean isRight = right.indexOf(sign) >= 0;
            boolean isWhole = isRight && ends.indexOf(sign) >= 0;
            int want = !isRight ? before.length() : isWhole ? PedalLayers.NOT_FOUND : before.length() + 1;
            due.is("fault(" + way + ") of " + before + sign, x.fault(way), want);
        }
    }

    static void promise14FaultOfOrdersAtEachCharacter(Due due) {
        for (String before : new String[] {"", "p", "s", "v", "x", "y", "h5.0", "h5.999", "h99.123", "t10", "t99"}) {
            goesOn(due, 0, before, LETTERS, "psvxy");
        }
        goesOn(due, 0, "h", DIGITS, "");
        goesOn(due, 0, "h0", ".", "");
        for (char digit = '1'; digit <= '9'; digit++) {
            goesOn(due, 0, "h" + digit, DIGITS + ".", "");
            goesOn(due, 0, "t" + digit, DIGITS + LETTERS, DIGITS + "psvxy");
            goesOn(due, 0, "h5." + digit, DIGITS + LETTERS, DIGITS + "psvxy");
            goesOn(due, 0, "h5.1" + digit, DIGITS + LETTERS, DIGITS + "psvxy");
        }
        goesOn(due, 0, "h10", ".", "");
        goesOn(due, 0, "h99", ".", "");
        goesOn(due, 0, "h5.", DIGITS, DIGITS);
        goesOn(due, 0, "h5.10", DIGITS + LETTERS, DIGITS + "psvxy");
        goesOn(due, 0, "t", "123456789", "123456789");
        goesOn(due, 0, "pt", "123456789", "123456789");
    }

    static void promise14FaultOfTunesAtEachCharacter(Due due) {
        goesOn(due, 1, "", DIGITS, DIGITS);
        goesOn(due, 1, "5,", DIGITS, DIGITS);
        goesOn(due, 1, "35,", DIGITS, DIGITS);
        for (String key : new String[] {"1", "2", "7,1", "12,2"}) {
            goesOn(due, 1, key, DIGITS + ",", DIGITS);
        }
        goesOn(due, 1, "3", "012345,", "012345");
        goesOn(due, 1, "3,3", "012345,", "012345");
        for (String key : new String[] {"0", "4", "5", "6", "7", "8", "9", "10", "29", "30", "35", "1,0", "3,35"}) {
            goesOn(due, 1, key, ",", "");
        }
    }

    static void promise14FaultOfOrders(Due due) {
        due.says("the position, from 0, of the first character that is wrong:",
                "write(qp) fault(0)=0", "write(pq) fault(0)=1", "write(pqq) fault(0)=1", "write(h5.6.) fault(0)=4",
                "write(" + "p".repeat(59) + "q) fault(0)=59", "write(t1,) fault(0)=2");
        due.says("\"h\", a number 0 to 99 (the key), \".\", and a number 0 to 999 (the force; a hit)",
                "write(h0.0) fault(0)=NOT_FOUND", "write(h99.999) fault(0)=NOT_FOUND", "write(h100.5) fault(0)=3",
                "write(h99.1000) fault(0)=7");
        due.says("\"t\" and ticks, 1 to 99 (they go by).",
                "write(t0) fault(0)=1", "write(t1) fault(0)=NOT_FOUND", "write(t99) fault(0)=NOT_FOUND",
                "write(t100) fault(0)=3");
        due.says("Numbers have no needless 0 ahead.",
                "write(h00.5) fault(0)=2", "write(h05.5) fault(0)=2", "write(h5.00) fault(0)=4",
                "write(h5.05) fault(0)=4", "write(t01) fault(0)=1", "write(h10.100t10) fault(0)=NOT_FOUND");
        due.says("if there is none, and the pad is not complete (also if it is empty), the length of the pad.",
                "fault(0)=0", "write(h) fault(0)=1", "write(ph1) fault(0)=3", "write(h1.) fault(0)=3",
                "write(pt) fault(0)=2", "write(" + "p".repeat(59) + "h) fault(0)=60",
                "write(" + "p".repeat(59) + "t) fault(0)=60", "write(" + "p".repeat(57) + "h1.) fault(0)=60");
        due.says("NOT_FOUND if it has none.",
                "write(p) fault(0)=NOT_FOUND", SIXTY + "fault(0)=NOT_FOUND",
                "write(" + "p".repeat(56) + "h1.9) fault(0)=NOT_FOUND",
                "write(psvxyh0.0t1) fault(0)=NOT_FOUND count(13)=11");
    }

    static void promise14FaultOfTunes(Due due) {
        due.says("A tune: one or more keys, 0 to 35, with \",\" between two.",
                "write(0) fault(1)=NOT_FOUND", "write(35) fault(1)=NOT_FOUND", "write(36) fault(1)=1",
                "write(99) fault(1)=1", "write(100) fault(1)=2", "write(1,35,0) fault(1)=NOT_FOUND",
                "write(1,,2) fault(1)=2", "write(1.2) fault(1)=1", "write(-1) fault(1)=0", "write(00) fault(1)=1",
                "write(1,05) fault(1)=3");
        due.says("if there is none, and the pad is not complete (also if it is empty), the length of the pad.",
                "fault(1)=0", "write(1,) fault(1)=2", "write(" + "1,".repeat(30) + ") fault(1)=60");
        due.says("NOT_FOUND if it has none.",
                "write(" + "1,".repeat(29) + "12) count(13)=60 fault(1)=NOT_FOUND",
                "write(" + "1,".repeat(29) + "1) count(13)=59 fault(1)=NOT_FOUND");
        due.says("It changes nothing.", "write(1,) fault(1)=2 fault(0)=0 count(13)=2 count(14)=0");
    }

    static void promise15PlayOfAFault(Due due) {
        due.says("NOT_POSSIBLE if the pad has a fault, read as orders.",
                "play()=NOT_POSSIBLE count(14)=0 why(0)=NOT_FOUND",
                "write(ppq) play()=NOT_POSSIBLE count(0)=0 count(13)=3 count(14)=0",
                "write(pt) play()=NOT_POSSIBLE count(0)=0 count(13)=2",
                "write(5) play()=NOT_POSSIBLE count(13)=1",
                "write(" + "p".repeat(59) + "h) play()=NOT_POSSIBLE count(13)=60 count(0)=0");
    }

    static void promise15Play(Due due) {
        due.says("Carries out the orders of the pad, one after the other, as the methods do, up to the first one that"
                        + " returns an error, and erases the pad.",
                "write(p) play()=1 count(0)=1 count(13)=0",
                "write(pps) play()=1 count(0)=1 count(13)=0",
                "write(s) play()=0 count(0)=0 count(13)=0",
                "write(pt1pvs) play()=5 count(0)=4 count(9)=1 count(13)=0",
                "write(" + "v".repeat(60) + ") play()=60 count(9)=0 count(13)=0",
                "write(" + "v".repeat(59) + "x) play()=59 count(9)=1 why(1)=59 why(2)=59",
                "set(1,0) write(pt2ppt1ppt1pxxyy) play()=13 count(3)=3 count(4)=0",
                "set(1,0) write(pt2ppt1ppt1pxxyyyv) play()=13 why(0)=NOT_POSSIBLE why(1)=13 count(9)=0 count(4)=0",
                "write(pt99pt1t99) play()=5 count(0)=2 count(3)=2",
                "write(t99) play()=1 count(0)=0");
        due.says("This is one change, also if none is carried out.",
                "write(s) play()=0 count(14)=1 undo()=0",
                "write(pt4p) play()=3 count(14)=1 undo()=0 count(0)=0 count(13)=0",
                "write(pt4px) play()=3 count(14)=1 undo()=0 count(0)=0",
                "set(0,2) set(0,3) set(0,4) set(0,5) write(vvv) play()=3 count(14)=4 undo()=3 undo()=2 undo()=1 undo()=0"
                        + " count(10)=2 count(9)=0");
    }

    static void promise15PlayOfWrongHits(Due due) {
        due.says("(A hit of a key above 23 or of a force 0 or above 99 is an error of the order, no fault of the pad.)",
                "write(ph23.1h0.99v) play()=4 why(0)=NOT_FOUND",
                "write(ph24.1v) fault(0)=NOT_FOUND play()=1 why(0)=INVALID_ARGUMENT why(1)=1 why(2)=1 count(9)=0",
                "write(ph99.1v) play()=1 why(0)=INVALID_ARGUMENT count(9)=0",
                "write(ph5.0v) play()=1 why(0)=INVALID_ARGUMENT count(8)=0",
                "write(ph5.100v) play()=1 why(0)=INVALID_ARGUMENT count(8)=0",
                "write(ph5.999v) play()=1 why(0)=INVALID_ARGUMENT count(8)=0",
                "write(h24.1) play()=0 why(0)=INVALID_ARGUMENT", "write(h5.0) play()=0 why(0)=INVALID_ARGUMENT",
                "write(h5.1) play()=0 why(0)=NOT_POSSIBLE");
    }

    static void promise16Why(Due due) {
        due.says("`what`: 0: the error that it returned; 1: its number among the orders, from 0; 2: the position of its"
                        + " letter in the pad",
                "why(-1)=INVALID_ARGUMENT why(3)=INVALID_ARGUMENT why(2147483647)=INVALID_ARGUMENT"
                        + " why(-2147483648)=INVALID_ARGUMENT",
                "write(x) play() why(-1)=INVALID_ARGUMENT why(0)=NOT_POSSIBLE why(1)=0 why(2)=0 why(3)=INVALID_ARGUMENT",
                "write(ph12.34t10h1.1x) play()=4 why(0)=NOT_POSSIBLE why(1)=4 why(2)=14",
                "write(ph12.34t10h1.100) play()=3 why(0)=INVALID_ARGUMENT why(1)=3 why(2)=10",
                Pedals.loopCalls(1) + "write(pt1ppt1ppt1ppt1ppt1pp) play()=15 why(0)=LIMIT_REACHED why(1)=15 why(2)=20",
                "write(" + "v".repeat(59) + "s) play()=59 why(0)=NOT_POSSIBLE why(1)=59 why(2)=59");
        due.says("NOT_FOUND if there was no such call, or all its orders were carried out.",
                "why(0)=NOT_FOUND why(1)=NOT_FOUND why(2)=NOT_FOUND",
                "play()=NOT_POSSIBLE why(0)=NOT_FOUND", "write(q) play()=NOT_POSSIBLE why(0)=NOT_FOUND",
                "write(v) play()=1 why(0)=NOT_FOUND why(1)=NOT_FOUND why(2)=NOT_FOUND",
                "write(x) play()=0 why(0)=NOT_POSSIBLE write(v) play()=1 why(0)=NOT_FOUND why(1)=NOT_FOUND"
                        + " why(2)=NOT_FOUND");
        due.says("the latest call of play() that returned no error",
                "write(x) play()=0 play()=NOT_POSSIBLE why(0)=NOT_POSSIBLE why(2)=0",
                "write(vx) play()=1 write(q) play()=NOT_POSSIBLE why(2)=1",
                "write(vx) play()=1 write(vvh0.0) play()=2 why(0)=INVALID_ARGUMENT why(1)=2 why(2)=2");
        due.says("(This is not a part of what is undone, or restored.)",
                "save() write(vx) play()=1 undo()=0 why(1)=1 restore() why(1)=1",
                "write(vx) play()=1 save() write(v) play()=1 undo() why(1)=NOT_FOUND restore() why(1)=NOT_FOUND");
    }
}
