/** The boundary sentences of "Changes and errors", and of the promises 32 to 34. */
final class HistoryEdges {
    /** A state in which each call can be a change, with 3 states in the history. */
    private static final String READY = "set(1,0) press() hit(5,60) pass(2) press()=2 press() pass(1) press()=2 press()"
            + " pass(1) press()=2 peel()=2 save()=2 speed() undo()=3 count(14)=3 ";

    /** A take over a loop of 24 cells, with notes in the first and in the last of its 48 cells. */
    private static final String LONGEST = "press() pass(24) press()=3 hit(5,60)=60 pass(47)=1 hit(7,7)=7 ";

    static void termChanges(Due due) {
        due.says("The changes are the calls of press, stop, empty, hit, pass, peel, back, mute, speed, set, play and restore"
                        + " that return no error.",
                READY + "press()=3 count(14)=4 undo()=3", READY + "stop()=4 count(14)=4 undo()=3",
                READY + "empty()=2 count(14)=4 undo()=3", READY + "pass(1)=0 count(14)=4 undo()=3",
                READY + "press() undo() press() undo() press() pass(1) hit(5,5)=5 undo()=3 count(8)=0 hit(5,5) count(14)=4",
                READY + "peel()=1 count(14)=4 undo()=3", READY + "back()=3 count(14)=4 undo()=3",
                READY + "mute(0)=1 count(14)=4 undo()=3", READY + "speed()=1 count(14)=4 undo()=3",
                READY + "set(0,9)=8 count(14)=4 undo()=3", READY + "write(v) play()=1 count(14)=4 undo()=3",
                READY + "restore()=2 count(14)=4 undo()=3");
        due.says("a call that returns an error is none",
                "press() undo()=0 stop()=NOT_POSSIBLE empty()=NOT_POSSIBLE hit(5,5)=NOT_POSSIBLE hit(24,5)=INVALID_ARGUMENT"
                        + " pass(0)=INVALID_ARGUMENT peel()=NOT_POSSIBLE back()=NOT_POSSIBLE mute(0)=INVALID_ARGUMENT"
                        + " set(0,1)=INVALID_ARGUMENT play()=NOT_POSSIBLE restore()=NOT_POSSIBLE undo()=NOT_POSSIBLE"
                        + " count(14)=0",
                "press() press()=NOT_POSSIBLE count(14)=1");
        due.says("the other calls are none",
                READY + "append(33)=1 fault(0)=0 erase()=1 why(0)=NOT_FOUND save()=2 layer(0,0)=2 note(0,0,5)=60"
                        + " ring(0,5)=60 heard(0,0)=1 loudest()=0 buried()=NOT_FOUND tunes()=NOT_POSSIBLE loudness()=30.0"
                        + " barIn()=12 drift(0)=0 meets()=4 rounded(8)=8 silentIn()=NOT_FOUND ifPeeled(1,0)=2 count(14)=3");
    }

    static void termHistory(Due due) {
        due.says("each change records everything before it (also if nothing is different then),",
                "pass(1)=0 count(14)=1 set(0,8)=8 count(14)=2 undo()=1 undo()=0 undo()=NOT_POSSIBLE",
                "save() restore()=0 count(14)=1");
        due.says("A history of at most 4 states is kept: if there are 5 states then, the oldest one is dropped.",
                "set(0,2) set(0,3) set(0,4) count(14)=3 set(0,5) count(14)=4 set(0,6) count(14)=4 undo()=3 count(10)=5"
                        + " undo()=2 count(10)=4 undo()=1 count(10)=3 undo()=0 count(10)=2 undo()=NOT_POSSIBLE count(10)=2",
                "set(0,2) set(0,3) set(0,4) set(0,5) undo()=3 undo()=2 undo()=1 undo()=0 count(10)=8 undo()=NOT_POSSIBLE",
                "set(0,2) set(0,3) set(0,4) set(0,5) set(0,6) set(0,7) undo()=3 undo()=2 set(0,9)=5 count(14)=3 set(0,10)=9"
                        + " set(0,11)=10 count(14)=4 undo()=3 count(10)=10 undo()=2 count(10)=9 undo()=1 count(10)=5"
                        + " undo()=0 count(10)=4 undo()=NOT_POSSIBLE");
    }

    static void termErrorsInTheirOrder(Due due) {
        String six = Pedals.loopCalls(1);
        for (int i = 0; i < 5; i++) {
            six += Pedals.overCalls(5, 9, 1);
        }
        due.says("If several errors apply to a call, INVALID_ARGUMENT is returned rather than NOT_POSSIBLE,",
                "hit(24,1)=INVALID_ARGUMENT hit(0,0)=INVALID_ARGUMENT hit(0,1)=NOT_POSSIBLE",
                "drift(100)=INVALID_ARGUMENT drift(-1)=INVALID_ARGUMENT drift(99)=NOT_POSSIBLE",
                Pedals.loopCalls(2) + "stop() hit(-1,1)=INVALID_ARGUMENT hit(0,100)=INVALID_ARGUMENT");
        due.says("NOT_POSSIBLE rather than LIMIT_REACHED, and LIMIT_REACHED rather than NOT_FOUND.",
                "write(" + "p".repeat(60) + ") append(32)=INVALID_ARGUMENT append(33)=LIMIT_REACHED",
                six + "press()=LIMIT_REACHED");
        due.says("INVALID_ARGUMENT rather than NOT_FOUND",
                "why(3)=INVALID_ARGUMENT why(0)=NOT_FOUND", "write(p) fault(2)=INVALID_ARGUMENT fault(0)=NOT_FOUND",
                Pedals.loopCalls(2) + "heard(0,5)=INVALID_ARGUMENT heard(2,2)=INVALID_ARGUMENT heard(0,2)=NOT_FOUND",
                Pedals.loopCalls(2) + "drift(100)=INVALID_ARGUMENT drift(1)=NOT_FOUND");
        due.says("NOT_POSSIBLE rather than NOT_FOUND",
                "loudest()=NOT_POSSIBLE silentIn()=NOT_POSSIBLE drift(1)=NOT_POSSIBLE write(7) tunes()=NOT_POSSIBLE",
                Pedals.loopCalls(2) + "loudest()=NOT_FOUND drift(1)=NOT_FOUND");
    }

    static void promise32Undo(Due due) {
        due.says("Returns how many states the history has then; NOT_POSSIBLE if it has none.",
                "undo()=NOT_POSSIBLE count(14)=0", "press() undo()=0 count(14)=0 count(0)=0 undo()=NOT_POSSIBLE",
                "speed() speed() speed() speed() speed() undo()=3 undo()=2 undo()=1 undo()=0 undo()=NOT_POSSIBLE count(9)=1",
                "undo()=NOT_POSSIBLE speed()=1 undo()=0 count(9)=0");
        due.says("as it was before it: a take over the longest loop, and its layer, too",
                LONGEST + "pass(1)=1 count(0)=2 layer(1,2)=67 undo()=3 count(0)=3 count(7)=94 count(8)=2 hit(7,1)=8"
                        + " press()=2 note(1,47,7)=8 note(1,0,5)=60",
                LONGEST + "pass(1) stop()=4 undo()=3 undo()=2 hit(7,1)=8 press()=2 empty()=2 undo() note(1,47,7)=8"
                        + " note(1,0,5)=60 layer(1,0)=48");
        due.says("undo() is no change, and cannot be undone itself",
                "set(0,2) set(0,3) undo()=1 count(10)=2 undo()=0 count(10)=8 undo()=NOT_POSSIBLE count(10)=8");
        due.says("everything but the pad, the snapshot and why() is as it was before it.",
                "set(0,9) write(vx) save() play()=1 write(ab) undo()=1 count(9)=0 count(13)=2 why(1)=1 restore() count(10)=9",
                "speed() save() speed() undo()=1 undo()=0 count(9)=0 restore()=0 count(9)=1",
                "write(v) speed() erase() undo()=0 count(13)=0", "speed() write(v) undo()=0 count(13)=1 fault(0)=NOT_FOUND");
    }

    static void promise33Save(Due due) {
        due.says("Returns the mode.",
                "save()=0", "press() save()=1", Pedals.loopCalls(2) + "save()=2", Pedals.loopCalls(2) + "press() save()=3",
                Pedals.loopCalls(2) + "stop() save()=4");
        due.says("in place of the one that was.",
                "save() set(0,2) save() set(0,3) restore()=0 count(10)=2 restore()=0 count(10)=2",
                Pedals.loopCalls(2, 5, 60) + "save()=2 empty() save()=0 undo() restore()=0 count(3)=0");
        due.says("a snapshot of everything but the pad, the history and why()",
                "write(v) save() append(115) count(13)=2 restore() count(13)=2 fault(0)=NOT_FOUND",
                "save() erase() write(vx) play()=1 restore() why(1)=1",
                "speed() speed() save() speed() count(14)=3 restore() count(14)=4 undo()=3 undo()=2 undo()=1 undo()=0");
    }

    static void promise34Restore(Due due) {
        due.says("Returns the mode then; NOT_POSSIBLE if there is none.",
                "restore()=NOT_POSSIBLE count(14)=0", "press() restore()=NOT_POSSIBLE count(0)=1",
                "save() press() restore()=0 count(0)=0", "press() save() pass(24) count(0)=2 restore()=1 count(7)=0",
                Pedals.loopCalls(2) + "save() stop() restore()=2", Pedals.loopCalls(2) + "press() save() stop() restore()=3",
                Pedals.loopCalls(2) + "stop() save() empty() restore()=4 press()=2");
        due.says("Restores the snapshot, which stays.",
                Pedals.loopCalls(2, 5, 60) + "set(2,50) save()=2 pass(2)=1 note(0,0,5)=30 restore()=2 note(0,0,5)=60 pass(4)=2"
                        + " note(0,0,5)=15 restore()=2 note(0,0,5)=60 count(6)=0 count(5)=0",
                "press() hit(5,60) pass(1) save() hit(5,9)=9 restore()=1 hit(5,8)=8 restore()=1 hit(5,7)=7 press()"
                        + " note(0,0,5)=60 note(0,1,5)=INVALID_ARGUMENT",
                Pedals.loopCalls(2, 5, 60) + Pedals.overCalls(6, 50, 1) + "peel() save() back() mute(1) empty() restore()=2"
                        + " count(3)=1 count(4)=1 back()=2 layer(1,2)=50 layer(1,4)=0 count(15)=2");
        due.says("Restores the snapshot: a take over the longest loop, and its layer, too",
                LONGEST + "save()=3 empty()=1 restore()=3 count(7)=94 count(8)=2 hit(7,1)=8 press()=2 note(1,47,7)=8"
                        + " note(1,0,5)=60 save()=2 empty()=2 restore()=2 note(1,47,7)=8 layer(1,1)=2");
        due.says("It is a change.", "speed() save() undo()=0 restore()=0 count(9)=1 count(14)=1 undo()=0 count(9)=0");
    }
}
