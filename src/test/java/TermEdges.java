/** The boundary sentences of the document's section "Terms", but for texts, changes and errors. */
final class TermEdges {
    static void termAllCallsOfAnObject(Due due) {
        due.says("An object is used for at most 512 calls after it has been made;",
                Pedals.loopCalls(1, 5, 60) + "set(0,7) set(2,0) " + "pass(99)=99 ".repeat(500)
                        + "count(6)=49500 layer(0,5)=49500 barIn()=8 ring(0,5)=60 count(14)=4",
                "write(" + "p".repeat(60) + ") " + "append(112)=LIMIT_REACHED ".repeat(450) + "count(13)=60 erase()=60");
    }

    static void termDivisions(Due due) {
        due.says("Divisions are rounded down.",
                "speed() press() pass(3) hit(0,7) pass(1) press()=2 note(0,1,12)=7 note(0,0,12)=0",
                Pedals.loopCalls(1, 0, 50) + "set(2,1) pass(1)=1 note(0,0,0)=49");
    }

    static void termForces(Due due) {
        due.says("In a cell of a layer each key, 0 to 35, has a force, 0 (it is silent) to 99.",
                "press() hit(0,99)=99 hit(0,99)=99 speed() hit(23,99)=99 pass(2) press()=2 note(0,0,0)=99"
                        + " note(0,0,35)=99 note(0,0,1)=0 note(0,0,34)=0 note(0,0,-1)=INVALID_ARGUMENT"
                        + " note(0,0,36)=INVALID_ARGUMENT");
    }

    static void termAtMostSixLayers(Due due) {
        String five = "";
        for (int layer = 1; layer <= 5; layer++) {
            five += Pedals.overCalls(5, 10 * layer, 1);
        }
        due.says("There are at most 6 layers on the loop, numbered from 0 in the order in which they were laid;",
                Pedals.loopCalls(1, 5, 9) + five + "count(3)=6 layer(0,2)=9 layer(1,2)=10 layer(2,2)=20 layer(3,2)=30"
                        + " layer(4,2)=40 layer(5,2)=50 layer(6,2)=INVALID_ARGUMENT layer(-1,2)=INVALID_ARGUMENT"
                        + " press()=LIMIT_REACHED count(3)=6",
                Pedals.loopCalls(1, 5, 9) + "count(3)=1 layer(0,2)=9 layer(1,2)=INVALID_ARGUMENT");
        due.says("each is muted or not.",
                Pedals.loopCalls(1, 5, 9) + five + "mute(0)=1 mute(5)=1 layer(0,4)=1 layer(1,4)=0 layer(4,4)=0"
                        + " layer(5,4)=1");
    }

    static void termFirstLength(Due due) {
        due.says("The first length is the length of the layer 0, 1 to 24.",
                "speed() press() pass(1) press()=2 count(2)=1 layer(0,0)=1 note(0,0,0)=0"
                        + " note(0,1,0)=INVALID_ARGUMENT",
                "press() pass(24)=0 count(0)=2 count(2)=24 layer(0,0)=24 note(0,23,0)=0"
                        + " note(0,24,0)=INVALID_ARGUMENT");
    }

    static void termLengths(Due due) {
        due.says("Each layer has the first length, or twice of it.",
                "press() pass(24)=0 press()=3 pass(48)=2 count(0)=2 layer(1,0)=48 note(1,47,35)=0"
                        + " note(1,48,35)=INVALID_ARGUMENT layer(0,0)=24",
                Pedals.loopCalls(1) + "press()=3 pass(2)=2 count(0)=2 layer(1,0)=2",
                Pedals.loopCalls(1) + "press()=3 pass(1)=1 press()=2 layer(1,0)=1");
        due.says("The length of the loop is the greatest length of its layers.",
                "press() pass(24)=0 press()=3 pass(48)=2 count(1)=48 count(2)=24 peel()=1 count(1)=24 back()=2"
                        + " count(1)=48",
                Pedals.loopCalls(3) + "press() pass(3) press()=2 count(1)=3 press() pass(4) press()=2 count(1)=6");
    }

    static void termModulo(Due due) {
        due.says("In the cell c of the loop a layer sounds with its cell c modulo its length.",
                "set(1,0) press() hit(5,10) pass(2) hit(6,20) pass(1) press()=2 press()=3 pass(4) press()=2 count(1)=6"
                        + " ring(0,5)=10 ring(2,6)=20 ring(2,5)=0 ring(3,5)=10 ring(3,6)=0 ring(4,5)=0 ring(5,6)=20"
                        + " ring(6,5)=INVALID_ARGUMENT");
    }

    static void termTicks(Due due) {
        due.says("At full speed (at first) a tick moves by two halves of a cell, at half speed by one half.",
                "press() pass(1) count(7)=2 speed()=1 pass(1) count(7)=3 speed()=0 pass(1) count(7)=5",
                Pedals.loopCalls(4) + "pass(1) count(5)=2 speed()=1 pass(1) count(5)=3 speed()=0 pass(1) count(5)=5"
                        + " barIn()=11",
                Pedals.loopCalls(4) + "press() pass(1) count(7)=2 speed()=1 pass(1) count(7)=3 count(5)=3");
        due.says("The place of the loop is told in halves, from 0 on; it is in the cell (place / 2).",
                Pedals.loopCalls(4) + "count(5)=0 press() hit(5,7) pass(1) press() note(1,0,5)=7",
                Pedals.loopCalls(4) + "speed() pass(3) count(5)=3 press() hit(5,7) pass(1) press() note(1,1,17)=7",
                Pedals.loopCalls(4) + "speed() pass(7) count(5)=7 press() hit(5,7) pass(1) press() note(1,3,17)=7");
    }

    static void termRestingTicks(Due due) {
        due.says("In the modes 0 and 4 nothing happens.",
                "pass(99)=0 count(0)=0 count(6)=0 press()=1 count(7)=0",
                Pedals.loopCalls(3, 5, 60) + "set(2,50) pass(1) stop()=4 pass(99)=0 count(0)=4 count(5)=0 count(6)=0"
                        + " layer(0,5)=0 note(0,0,5)=60");
    }

    static void termFirstTakeEndsByItself(Due due) {
        due.says("In mode 1 the halves of the take grow by 2 (at half speed by 1); if they are 48 or more then, the take"
                        + " ends as if the pedal was pressed.",
                "press() pass(23)=0 count(0)=1 count(7)=46 pass(1)=0 count(0)=2 count(1)=24 count(5)=0 count(7)=0",
                "speed() press() pass(47)=0 count(0)=1 count(7)=47 pass(1)=0 count(0)=2 count(1)=24 count(5)=0",
                "speed() press() pass(47)=0 speed() pass(1)=0 count(0)=2 count(1)=24 count(5)=0",
                "press() pass(25)=0 count(0)=2 count(5)=2 barIn()=14",
                "press() pass(48)=1 count(0)=2 count(5)=0 count(6)=1 layer(0,5)=1",
                "set(0,9) set(1,8) press() pass(25)=0 count(1)=18 count(5)=2");
    }

    static void termPassesEnd(Due due) {
        due.says("Then, if the place is twice the length of the loop or more, it becomes less by that, a pass has ended"
                        + " (passes are 1 more),",
                Pedals.loopCalls(3) + "pass(2)=0 count(5)=4 count(6)=0 pass(1)=1 count(5)=0 count(6)=1",
                Pedals.loopCalls(3) + "speed() pass(5)=0 count(5)=5 pass(1)=1 count(5)=0 count(6)=1",
                Pedals.loopCalls(3) + "speed() pass(5)=0 speed() pass(1)=1 count(5)=1 count(6)=1",
                Pedals.loopCalls(3) + "speed() pass(4)=0 speed() pass(1)=1 count(5)=0",
                Pedals.loopCalls(1) + "pass(1)=1 speed() pass(1)=0 speed() pass(1)=1 count(5)=1 count(6)=2",
                "press() pass(24) press() pass(48)=2 pass(47)=0 count(5)=94 pass(1)=1 count(5)=0");
        due.says("in mode 3 too",
                Pedals.loopCalls(2) + "pass(1)=0 press() pass(1)=1 count(0)=3 count(5)=0 count(6)=1 layer(0,5)=1");
    }

    static void termFade(Due due) {
        due.says("all layers of the loop fade: each force f becomes f * (100 - FADE) / 100.",
                Pedals.loopCalls(1, 5, 99) + "pass(9)=9 note(0,0,5)=99",
                Pedals.loopCalls(1, 5, 99) + "set(2,1) pass(1)=1 note(0,0,5)=98 pass(97)=97 note(0,0,5)=1 pass(1)=1"
                        + " note(0,0,5)=0 layer(0,1)=0 pass(1)=1 note(0,0,5)=0",
                Pedals.loopCalls(1, 5, 99) + "set(2,100) pass(1)=1 note(0,0,5)=0 layer(0,2)=0",
                Pedals.loopCalls(1, 5, 99) + "set(2,99) pass(1)=1 note(0,0,5)=0",
                Pedals.loopCalls(1, 5, 99) + "set(2,98) pass(1)=1 note(0,0,5)=1",
                Pedals.loopCalls(2, 0, 60) + "pass(1)=0 speed() press() pass(1) hit(23,40)=40 pass(1)=1 press()"
                        + " mute(1)=1 set(2,50) speed() pass(2)=1 note(0,0,0)=30 layer(1,2)=20");
        due.says("a pass that has not ended fades nothing",
                Pedals.loopCalls(2, 5, 99) + "set(2,50) pass(1)=0 note(0,0,5)=99 pass(1)=1 note(0,0,5)=49");
    }

    static void termTakeOverEndsByItself(Due due) {
        due.says("Then, in mode 3, if the halves of the take are 4 times the first length or more, the take ends as if"
                        + " the pedal was pressed.",
                Pedals.loopCalls(3) + "press()=3 pass(5)=1 count(0)=3 count(7)=10 pass(1)=1 count(0)=2 layer(1,0)=6"
                        + " count(5)=0 count(7)=0",
                Pedals.loopCalls(1) + "speed() press()=3 pass(3)=1 count(0)=3 count(7)=3 pass(1)=1 count(0)=2"
                        + " layer(1,0)=2 count(5)=0",
                Pedals.loopCalls(1) + "speed() press()=3 pass(3)=1 speed() pass(1)=1 count(0)=2 layer(1,0)=2 count(5)=1",
                Pedals.loopCalls(3) + "press() pass(4) press()=2 count(1)=6 press()=3 pass(5) count(0)=3 pass(1)"
                        + " count(0)=2 layer(2,0)=6",
                Pedals.loopCalls(3) + "press()=3 pass(99)=17 count(0)=2 count(3)=2 count(5)=6");
        due.says("Then: behind the fading, so that the new layer has not faded, and no pass ended since it was laid",
                Pedals.loopCalls(1, 5, 60) + "set(2,50) press()=3 hit(7,60) pass(2)=2 count(0)=2 layer(1,2)=60"
                        + " layer(1,5)=0 layer(0,2)=15 layer(0,5)=2");
    }

    static void termHitCells(Due due) {
        due.says("In a first take it is kept in the cell (halves / 2);",
                "press() hit(0,5) pass(1) hit(0,6) pass(1) press()=2 note(0,0,0)=5 note(0,1,0)=6",
                "speed() press() pass(1) hit(0,5)=5 pass(1) hit(0,6)=6 pass(1) press()=2 note(0,0,12)=5 note(0,1,12)=6",
                "speed() press() pass(47) hit(0,5)=5 pass(1) count(1)=24 note(0,23,12)=5");
        due.says("in a take over a loop in the cell ((place of its beginning + halves of the take) / 2) modulo twice the"
                        + " first length.",
                Pedals.loopCalls(3) + "pass(2) press() pass(3) hit(8,30)=30 pass(1) hit(8,31)=31 pass(1) hit(8,32)=32"
                        + " press() layer(1,0)=6 note(1,5,8)=30 note(1,0,8)=31 note(1,1,8)=32",
                Pedals.loopCalls(3) + "speed() pass(1) press() hit(0,8) pass(1) hit(0,9)=9 pass(1) press()"
                        + " note(1,0,12)=8 note(1,1,12)=9",
                Pedals.loopCalls(2) + "press() pass(3) press()=2 count(5)=6 press() hit(1,10) pass(1) hit(2,20) press()"
                        + " note(2,3,1)=10 note(2,0,2)=20");
        due.says("If the take has a force there already, both are added, at most 99.",
                "press() hit(5,60)=60 hit(5,38)=98 hit(5,1)=99 hit(5,1)=99 hit(6,1)=1 pass(1) press() note(0,0,5)=99",
                "press() hit(5,60)=60 hit(5,39)=99 hit(5,99)=99",
                Pedals.loopCalls(3) + "press() hit(5,60)=60 hit(5,38)=98 hit(5,2)=99",
                Pedals.loopCalls(1) + "press() hit(5,60) pass(1) hit(5,7)=7 pass(1) count(0)=2 layer(1,2)=67");
    }

    static void termFirstTakeCells(Due due) {
        due.says("A first take of h halves has n cells: (h + 1) / 2, at most 24.",
                "set(1,0) speed() press() pass(1) press() count(1)=1",
                "set(1,0) speed() press() pass(2) press() count(1)=1",
                "set(1,0) speed() press() pass(3) press() count(1)=2",
                "set(1,0) set(0,5) speed() press() pass(45) press() count(1)=23",
                "set(1,0) set(0,5) speed() press() pass(47) press() count(1)=24",
                "set(1,0) set(0,5) speed() press() pass(47) speed() pass(1) count(0)=2 count(1)=24");
    }

    static void termRounding(Due due) {
        due.says("of the whole numbers of bars (a bar has BAR cells; at least one bar) that are at most 24 cells the one"
                        + " that is nearest to n (of two the lesser one) is its length,",
                "set(1,8) press() pass(1) press() count(1)=8",
                "set(1,8) press() pass(11) press() count(1)=8",
                "set(1,8) press() pass(12) press() count(1)=8",
                "set(1,8) press() pass(13) press() count(1)=16",
                "set(1,8) set(0,9) press() pass(24) count(1)=18",
                "set(1,8) set(0,16) press() pass(24) count(1)=16",
                "set(1,8) set(0,12) press() pass(19) press() count(1)=24",
                "set(1,8) set(0,12) press() pass(18) press() count(1)=12");
        due.says("if there is one, and it is at most SLACK away from n; otherwise n is its length.",
                "press() pass(6) press() count(1)=6",
                "press() pass(7) press() count(1)=8",
                "press() pass(8) press() count(1)=8",
                "press() pass(9) press() count(1)=8",
                "press() pass(10) press() count(1)=10",
                "press() pass(22) press() count(1)=22",
                "press() pass(23) press() count(1)=24",
                "set(1,0) press() pass(7) press() count(1)=7",
                "set(1,0) press() pass(16) press() count(1)=16",
                "set(1,8) set(0,16) press() pass(8) press() count(1)=16",
                "set(1,8) set(0,16) press() pass(7) press() count(1)=7",
                "set(1,8) set(0,13) press() pass(21) press() count(1)=13",
                "set(1,8) set(0,13) press() pass(22) press() count(1)=22");
        due.says("by the settings as the take ends",
                "press() pass(5) set(0,5) set(1,0) press() count(1)=5",
                "press() pass(5) set(1,3) press() count(1)=8");
    }

    static void termCellsBeyond(Due due) {
        due.says("Cells beyond the length are lost.",
                "press() pass(7) hit(3,30) pass(1) hit(4,40) pass(1) press()=2 count(1)=8 note(0,7,3)=30 layer(0,1)=1",
                "set(0,16) set(1,8) press() pass(15) hit(1,10) pass(1) hit(2,20) pass(8)=0 count(1)=16 layer(0,2)=10");
        due.says("a note at the very end of a take lies in the cell behind its cells",
                "press() pass(7) hit(1,11)=11 press() count(1)=8 note(0,7,1)=11",
                "set(1,0) press() pass(7) hit(1,11)=11 press() count(1)=7 layer(0,1)=0");
    }

    static void termTakeOverLength(Due due) {
        due.says("A take over a loop becomes a layer of twice the first length, if the loop has this length already, or"
                        + " if the halves of the take are more than twice the first length.",
                Pedals.loopCalls(3) + "press() pass(3)=1 press()=2 layer(1,0)=3",
                Pedals.loopCalls(3) + "press() pass(3) speed() pass(1) press()=2 layer(1,0)=6",
                Pedals.loopCalls(3) + "press() pass(4) press()=2 layer(1,0)=6 speed() press() pass(1) press()=2"
                        + " layer(2,0)=6",
                Pedals.loopCalls(3) + "press() pass(4) press()=2 peel()=1 press() pass(3) press()=2 layer(1,0)=3",
                "press() pass(24) press() pass(24) press()=2 layer(1,0)=24",
                "press() pass(24) press() pass(24) speed() pass(1) press()=2 layer(1,0)=48");
    }

    static void termTakeOverPlace(Due due) {
        due.says("Then the place of the loop becomes (the place of its beginning + the halves of the take) modulo 4 times"
                        + " the first length.",
                Pedals.loopCalls(3) + "pass(2) press() pass(3)=1 speed() pass(1) press()=2 count(5)=11",
                Pedals.loopCalls(3) + "pass(2) press() pass(4)=2 press()=2 count(5)=0",
                Pedals.loopCalls(3) + "pass(2) press() pass(4)=2 speed() pass(1) press()=2 count(5)=1",
                Pedals.loopCalls(3) + "press() pass(4)=1 press()=2 count(5)=8",
                Pedals.loopCalls(3) + "speed() pass(5) press() speed() pass(6)=2 count(0)=2 count(5)=5",
                Pedals.loopCalls(3) + "press() pass(4)=1 press()=2 pass(1) count(5)=10 press() pass(2)=1 press()"
                        + " count(5)=2");
        due.says("Otherwise the place stays.",
                Pedals.loopCalls(3) + "pass(2) press() pass(3)=1 press()=2 count(5)=4",
                Pedals.loopCalls(3) + "pass(2) press() pass(1)=1 press()=2 count(5)=0");
    }

    static void termFolding(Due due) {
        due.says("Otherwise it becomes a layer of the first length: its cell c + first length is added to its cell c,"
                        + " force by force, at most 99;",
                Pedals.loopCalls(3) + "pass(2) press() hit(1,10) pass(1) hit(3,30) pass(1) hit(2,20) pass(1) hit(4,40)"
                        + " press() layer(1,0)=3 layer(1,1)=4 note(1,2,1)=10 note(1,0,3)=30 note(1,1,2)=20"
                        + " note(1,2,4)=40",
                Pedals.loopCalls(4) + "speed() pass(1) press() hit(0,60) pass(8) hit(0,38)=38 press() layer(1,0)=4"
                        + " note(1,0,12)=98",
                Pedals.loopCalls(4) + "speed() pass(1) press() hit(0,60) pass(8) hit(0,39)=39 press() note(1,0,12)=99",
                Pedals.loopCalls(4) + "speed() pass(1) press() hit(0,60) pass(8) hit(0,40)=40 press() note(1,0,12)=99",
                "set(1,0) press() pass(24) pass(23) speed() press() pass(1) hit(23,99)=99 pass(47) hit(23,99)=99"
                        + " press() layer(1,0)=24 note(1,23,35)=99 layer(1,1)=1");
    }

    static void termDrawer(Due due) {
        String two = Pedals.loopCalls(2, 5, 60) + Pedals.overCalls(6, 50, 1) + Pedals.overCalls(7, 40, 1);
        due.says("When a layer is laid, the drawer is emptied.",
                two + "peel()=2 peel()=1 count(4)=2 press()=3 count(4)=2 pass(1) count(4)=2 press()=2 count(4)=0"
                        + " back()=NOT_POSSIBLE count(3)=2",
                two + "peel()=2 press()=3 pass(3) count(4)=1 pass(1) count(0)=2 count(4)=0");
        due.says("a take that is thrown away leaves the drawer", two + "peel()=2 press()=3 pass(1) stop()=4 count(4)=1"
                + " back()=3 layer(2,2)=40");
        due.says("Layers in the drawer do not fade.",
                two + "set(2,50) peel()=2 pass(2)=1 back()=3 layer(2,2)=40 layer(2,5)=0 layer(1,2)=25 layer(0,2)=30");
    }

    static void termHearing(Due due) {
        String notes = "set(1,0) press() hit(0,4) hit(11,5) hit(12,6) speed() hit(23,7) speed() pass(1) press()=2 ";
        due.says("At full speed each key is heard as it is kept, 0 to 35;",
                notes + "ring(0,0)=4 ring(0,11)=5 ring(0,12)=6 ring(0,35)=7 heard(0,0)=4 heard(0,2)=35 heard(0,3)=0");
        due.says("at half speed 12 lower (those below 12 are not heard).",
                notes + "speed() ring(0,0)=6 ring(0,1)=0 ring(0,11)=0 ring(0,23)=7 ring(0,24)=0 ring(0,35)=0"
                        + " heard(0,0)=2 heard(0,1)=13 heard(0,2)=23 heard(0,3)=0",
                "set(1,0) press() hit(11,5) pass(1) press()=2 speed() heard(0,0)=0 loudest()=NOT_FOUND");
        String six = Pedals.loopCalls(1, 5, 99);
        for (int i = 0; i < 5; i++) {
            six += Pedals.overCalls(5, 99, 1);
        }
        due.says("The ring of a key in a cell of the loop is the sum of the forces of all layers that are not muted.",
                six + "ring(0,5)=594 mute(0)=1 ring(0,5)=495 mute(5)=1 ring(0,5)=396 mute(1) mute(2) mute(3) ring(0,5)=99"
                        + " mute(4) ring(0,5)=0 mute(5)=0 ring(0,5)=99");
        due.says("What a take has is not heard as long as it runs.",
                "press() hit(5,60) pass(8) ring(0,5)=INVALID_ARGUMENT loudest()=NOT_POSSIBLE press()=2 ring(0,5)=60",
                Pedals.loopCalls(2) + "press() hit(5,60) ring(0,5)=0 loudness()=0.0 loudest()=NOT_FOUND"
                        + " silentIn()=0 ifPeeled(1,1)=0 pass(1) press()=2 ring(0,5)=60");
    }

    static void termBarLines(Due due) {
        due.says("Bar lines come every BAR cells of what was played, the first one at the place 0 as the loop began to"
                        + " play:",
                Pedals.loopCalls(3) + "barIn()=0 speed() pass(1) barIn()=15 pass(1) barIn()=14 pass(13) barIn()=1"
                        + " pass(1) barIn()=0 pass(1) barIn()=15",
                Pedals.loopCalls(3) + "pass(5) stop()=4 press()=2 barIn()=0");
        due.says("(since the loop began to play, whatever the length of the loop was)",
                Pedals.loopCalls(3) + "set(0,7) press() pass(5)=1 press()=2 count(1)=6 barIn()=4 peel()=1 count(5)=4"
                        + " barIn()=4 pass(1)=1 back()=2 count(5)=0 barIn()=2 pass(1)=0 barIn()=0");
    }
}
