/** The boundary sentences of the promises 17 to 25: looks. */
final class LookEdges {
    /** Two cells with the keys 5 (60) and 20 (30) in the cell 0; a layer of four with the key 5 (20) in its cell 3. */
    private static final String TWO = "set(1,0) press() hit(5,60) hit(20,30) pass(2) press()=2 press() pass(3) hit(5,20)"
            + " press()=2 ";
    private static final String GREAT = "2147483647";
    private static final String SMALL = "-2147483648";

    private static String sixOfOneCell() {
        String calls = Pedals.loopCalls(1, 5, 10);
        for (int layer = 1; layer < 6; layer++) {
            calls += Pedals.overCalls(5, 10 + layer, 1);
        }
        return calls;
    }

    static void promise17Layer(Due due) {
        due.says("`layer`: its number (INVALID_ARGUMENT if there is no such layer)",
                "layer(0,0)=INVALID_ARGUMENT", "press() pass(1) layer(0,0)=INVALID_ARGUMENT",
                TWO + "layer(0,0)=2 layer(1,0)=4 layer(2,0)=INVALID_ARGUMENT layer(-1,0)=INVALID_ARGUMENT",
                TWO + "layer(" + GREAT + ",0)=INVALID_ARGUMENT layer(" + SMALL + ",0)=INVALID_ARGUMENT",
                TWO + "peel() layer(1,0)=INVALID_ARGUMENT back() layer(1,0)=4",
                TWO + "press() pass(1) layer(2,0)=INVALID_ARGUMENT",
                TWO + "empty() layer(0,0)=INVALID_ARGUMENT", TWO + "stop() layer(1,0)=4",
                sixOfOneCell() + "layer(5,2)=15 layer(6,2)=INVALID_ARGUMENT");
        due.says("`what`: 0 to 5",
                TWO + "layer(0,-1)=INVALID_ARGUMENT layer(0,0)=2 layer(0,1)=2 layer(0,2)=90 layer(0,3)=60 layer(0,4)=0"
                        + " layer(0,5)=1 layer(0,6)=INVALID_ARGUMENT",
                TWO + "layer(0," + GREAT + ")=INVALID_ARGUMENT layer(0," + SMALL + ")=INVALID_ARGUMENT",
                TWO + "layer(1,0)=4 layer(1,1)=1 layer(1,2)=20 layer(1,3)=20 layer(1,4)=0 layer(1,5)=0");
        due.says("1: how many forces above 0 it has; 3: its greatest force",
                Pedals.loopCalls(2) + "layer(0,1)=0 layer(0,2)=0 layer(0,3)=0",
                Pedals.loopCalls(2, 0, 1) + "layer(0,1)=1 layer(0,2)=1 layer(0,3)=1 set(2,1) pass(2)=1 layer(0,1)=0"
                        + " layer(0,3)=0");
        due.says("5: how many passes ended since it was laid, while it was on the loop",
                TWO + "pass(1)=1 layer(0,5)=2 layer(1,5)=1 peel() pass(4)=2 layer(0,5)=4 back()=2 layer(1,5)=1 pass(4)=1"
                        + " layer(0,5)=5 layer(1,5)=2 stop() press() layer(0,5)=5 count(6)=0");
    }

    static void promise18Note(Due due) {
        due.says("`cell`: a cell of the layer",
                TWO + "note(0,-1,5)=INVALID_ARGUMENT note(0,0,5)=60 note(0,1,5)=0 note(0,2,5)=INVALID_ARGUMENT"
                        + " note(0,3,5)=INVALID_ARGUMENT note(1,3,5)=20 note(1,4,5)=INVALID_ARGUMENT",
                TWO + "note(0," + GREAT + ",5)=INVALID_ARGUMENT note(0," + SMALL + ",5)=INVALID_ARGUMENT",
                TWO + "note(0,119304647,5)=INVALID_ARGUMENT");
        due.says("`key`: 0 to 35, as it is kept",
                TWO + "note(0,0,-1)=INVALID_ARGUMENT note(0,0,0)=0 note(0,0,35)=0 note(0,0,36)=INVALID_ARGUMENT",
                TWO + "note(0,0," + GREAT + ")=INVALID_ARGUMENT note(0,0," + SMALL + ")=INVALID_ARGUMENT",
                TWO + "speed() note(0,0,5)=60 note(0,0,20)=30 note(0,0,8)=0",
                TWO + "mute(0) note(0,0,5)=60", TWO + "note(0,1,-36)=INVALID_ARGUMENT note(0,0,41)=INVALID_ARGUMENT");
        due.says("INVALID_ARGUMENT (also if there is no such layer or cell).",
                "note(0,0,0)=INVALID_ARGUMENT", "press() hit(0,1) pass(1) note(0,0,0)=INVALID_ARGUMENT",
                TWO + "note(-1,0,5)=INVALID_ARGUMENT note(2,0,5)=INVALID_ARGUMENT note(" + GREAT
                        + ",0,5)=INVALID_ARGUMENT note(" + SMALL + ",0,5)=INVALID_ARGUMENT",
                TWO + "peel() note(1,0,5)=INVALID_ARGUMENT", TWO + "stop() note(1,3,5)=20");
    }

    static void promise19Ring(Due due) {
        due.says("`cell`: a cell of the loop (INVALID_ARGUMENT if there is no such cell)",
                "ring(0,5)=INVALID_ARGUMENT", "press() hit(5,5) pass(1) ring(0,5)=INVALID_ARGUMENT",
                TWO + "ring(-1,5)=INVALID_ARGUMENT ring(0,5)=60 ring(1,5)=0 ring(2,5)=60 ring(3,5)=20"
                        + " ring(4,5)=INVALID_ARGUMENT",
                TWO + "ring(" + GREAT + ",5)=INVALID_ARGUMENT ring(" + SMALL + ",5)=INVALID_ARGUMENT",
                TWO + "peel() ring(1,5)=0 ring(2,5)=INVALID_ARGUMENT back() ring(3,5)=20",
                TWO + "mute(1) ring(3,5)=0 ring(4,5)=INVALID_ARGUMENT", TWO + "stop() ring(3,5)=20",
                TWO + "press() ring(3,5)=20 ring(4,5)=INVALID_ARGUMENT");
        due.says("`key`: 0 to 35, as it is heard now",
                TWO + "ring(0,-1)=INVALID_ARGUMENT ring(0,0)=0 ring(0,35)=0 ring(0,36)=INVALID_ARGUMENT",
                TWO + "ring(0," + GREAT + ")=INVALID_ARGUMENT ring(0," + SMALL + ")=INVALID_ARGUMENT",
                TWO + "speed() ring(0,8)=30 ring(0,5)=0 ring(0,20)=0 ring(0,-1)=INVALID_ARGUMENT ring(0,-7)="
                        + "INVALID_ARGUMENT ring(0,24)=0 ring(0,35)=0 ring(0,36)=INVALID_ARGUMENT");
    }

    static void promise20Heard(Due due) {
        due.says("`cell`: a cell of the loop (INVALID_ARGUMENT if there is no such cell)",
                "heard(0,0)=INVALID_ARGUMENT", "press() hit(5,5) pass(1) heard(0,0)=INVALID_ARGUMENT",
                TWO + "heard(-1,0)=INVALID_ARGUMENT heard(0,0)=2 heard(1,0)=0 heard(3,0)=1 heard(4,0)=INVALID_ARGUMENT",
                TWO + "heard(" + GREAT + ",0)=INVALID_ARGUMENT heard(" + SMALL + ",0)=INVALID_ARGUMENT",
                TWO + "peel() heard(2,0)=INVALID_ARGUMENT heard(1,2)=NOT_FOUND");
        due.says("`what`: 0 to 4",
                TWO + "heard(0,-1)=INVALID_ARGUMENT heard(0,0)=2 heard(0,1)=90 heard(0,2)=20 heard(0,3)=5 heard(0,4)=5"
                        + " heard(0,5)=INVALID_ARGUMENT",
                TWO + "heard(0," + GREAT + ")=INVALID_ARGUMENT heard(0," + SMALL + ")=INVALID_ARGUMENT");
        due.says("NOT_FOUND for 2 to 4 if none is heard",
                TWO + "heard(1,0)=0 heard(1,1)=0 heard(1,2)=NOT_FOUND heard(1,3)=NOT_FOUND heard(1,4)=NOT_FOUND"
                        + " heard(1,5)=INVALID_ARGUMENT heard(1,-1)=INVALID_ARGUMENT",
                TWO + "mute(0) mute(1) heard(0,0)=0 heard(0,1)=0 heard(0,2)=NOT_FOUND heard(0,3)=NOT_FOUND"
                        + " heard(0,4)=NOT_FOUND",
                TWO + "speed() heard(3,0)=0 heard(3,1)=0 heard(3,2)=NOT_FOUND heard(0,2)=8 heard(0,3)=8 heard(0,4)=8");
        due.says("(with a ring above 0)", Pedals.loopCalls(1, 0, 1) + "heard(0,0)=1 heard(0,1)=1 heard(0,2)=0"
                + " heard(0,3)=0 heard(0,4)=0",
                "speed() press() hit(23,1) pass(1) press() speed() heard(0,0)=1 heard(0,2)=35 heard(0,3)=35 heard(0,4)=35");
        due.says("4: the one with the greatest ring, of several the lowest;",
                "press() hit(9,40) hit(3,40) hit(6,39) pass(1) press() heard(0,4)=3",
                "press() hit(9,41) hit(3,40) hit(6,39) pass(1) press() heard(0,4)=9",
                Pedals.loopCalls(1, 7, 20) + Pedals.overCalls(9, 20, 1) + Pedals.overCalls(9, 1, 1)
                        + "heard(0,4)=9 mute(2) heard(0,4)=7");
    }

    static void promise21Loudest(Due due) {
        due.says("NOT_POSSIBLE without layers; NOT_FOUND if nothing is heard.",
                "loudest()=NOT_POSSIBLE", "press() hit(5,5) pass(1) loudest()=NOT_POSSIBLE",
                TWO + "empty() loudest()=NOT_POSSIBLE", Pedals.loopCalls(3) + "loudest()=NOT_FOUND",
                TWO + "mute(0) mute(1) loudest()=NOT_FOUND mute(1) loudest()=3",
                "press() hit(11,9) pass(1) press() loudest()=0 speed() loudest()=NOT_FOUND",
                Pedals.loopCalls(2, 0, 1) + "loudest()=0", TWO + "stop() loudest()=0");
        due.says("the cell of the loop with the greatest sum of rings, of several the first one;",
                "press() hit(1,30) pass(1) hit(2,20) hit(3,20) pass(1) hit(4,40) pass(1) press() loudest()=1",
                "press() hit(1,41) pass(1) hit(2,20) hit(3,20) pass(1) hit(4,40) pass(1) press() loudest()=0",
                "press() pass(2) hit(4,1) pass(1) press() loudest()=2");
        due.says("in the whole of the loop, its last cell too",
                Pedals.loopCalls(2) + "press() pass(3) hit(5,20) press()=2 loudest()=3",
                "press() pass(24) press() pass(47) hit(5,1) pass(1) loudest()=47");
    }

    static void promise22Buried(Due due) {
        due.says("NOT_FOUND if there are no buried notes.",
                "buried()=NOT_FOUND", "press() hit(5,5) pass(1) buried()=NOT_FOUND",
                Pedals.loopCalls(1, 5, 1) + "buried()=NOT_FOUND", TWO + "buried()=NOT_FOUND",
                TWO + "empty() buried()=NOT_FOUND");
        due.says("its force is less than half of the ring of its key there.",
                Pedals.loopCalls(1, 5, 40) + Pedals.overCalls(5, 40, 1) + "buried()=NOT_FOUND",
                Pedals.loopCalls(1, 5, 40) + Pedals.overCalls(5, 41, 1) + "buried()=0",
                Pedals.loopCalls(1, 5, 41) + Pedals.overCalls(5, 40, 1) + "buried()=1",
                Pedals.loopCalls(1, 5, 1) + Pedals.overCalls(5, 1, 1) + "buried()=NOT_FOUND",
                Pedals.loopCalls(1, 5, 1) + Pedals.overCalls(5, 2, 1) + "buried()=0",
                Pedals.loopCalls(1, 5, 40) + Pedals.overCalls(6, 99, 1) + "buried()=NOT_FOUND",
                Pedals.loopCalls(1) + Pedals.overCalls(5, 99, 1) + "buried()=NOT_FOUND");
        due.says("A note of a layer that is not muted, is buried if it is heard,",
                Pedals.loopCalls(1, 5, 10) + Pedals.overCalls(5, 40, 1) + "buried()=0 mute(0)=1 buried()=NOT_FOUND mute(0)=0"
                        + " mute(1)=1 buried()=NOT_FOUND",
                Pedals.loopCalls(1, 11, 10) + Pedals.overCalls(11, 40, 1) + "buried()=0 speed() buried()=NOT_FOUND",
                Pedals.loopCalls(1, 12, 10) + Pedals.overCalls(12, 40, 1) + "buried()=0 speed() buried()=0");
        due.says("the layer with the most buried notes, of several the lowest;",
                Pedals.loopCalls(1, 5, 10) + Pedals.overCalls(5, 10, 1) + Pedals.overCalls(5, 10, 1) + "buried()=0 mute(0)"
                        + " buried()=NOT_FOUND",
                Pedals.loopCalls(1, 5, 60) + Pedals.overCalls(5, 10, 1) + Pedals.overCalls(5, 10, 1) + "buried()=1",
                sixOfOneCell() + "buried()=0",
                Pedals.loopCalls(1, 5, 99) + Pedals.overCalls(5, 99, 1) + Pedals.overCalls(6, 9, 1)
                        + Pedals.overCalls(6, 9, 1) + Pedals.overCalls(7, 1, 1) + Pedals.overCalls(7, 2, 1) + "buried()=4",
                Pedals.loopCalls(1, 5, 99) + Pedals.overCalls(6, 9, 1) + Pedals.overCalls(7, 9, 1)
                        + Pedals.overCalls(8, 9, 1) + Pedals.overCalls(9, 9, 1) + Pedals.overCalls(9, 8, 1) + "buried()=5");
        due.says("counted in each cell of the loop once",
                // The layer 0 has one in the cell 1, the layer 1 one in the cell 0.
                "set(1,0) press() hit(6,60) pass(1) hit(7,10) pass(1) press()=2 press() hit(6,10) pass(1) hit(7,60) pass(1)"
                        + " press()=2 buried()=0",
                // The one note of the layer 0 is buried in both cells; the layer 2 has three buried notes.
                Pedals.loopCalls(1, 5, 10) + Pedals.overCalls(5, 60, 1) + "press() hit(6,10) hit(7,10) pass(1) hit(6,10)"
                        + " pass(1) count(0)=2 press() hit(6,60) hit(7,60) pass(1) hit(6,60) pass(1) count(0)=2"
                        + " count(1)=2 buried()=2");
        due.says("counted in all cells of the loop",
                // The note of the layer 1 is buried in both cells, that of the layer 0 in the second one alone.
                Pedals.loopCalls(1, 6, 10) + Pedals.overCalls(5, 10, 1)
                        + "press() hit(5,60) pass(1) hit(5,60) hit(6,60) pass(1) count(0)=2 count(1)=2 buried()=1",
                Pedals.loopCalls(2) + Pedals.overCalls(5, 10, 1) + "pass(1) press() pass(2) hit(5,60) pass(1) press()"
                        + " count(1)=4 buried()=1");
    }

    /** The highest keys of its cells: 7, none, 3, 7. */
    private static final String MELODY = "press() hit(7,5) hit(6,90) pass(2) hit(3,5) pass(1) hit(7,5) pass(1) press()=2 ";

    static void promise23Tunes(Due due) {
        due.says("NOT_POSSIBLE if the pad has a fault, read as a tune, or without layers.",
                "tunes()=NOT_POSSIBLE", "write(7) tunes()=NOT_POSSIBLE", "press() hit(7,7) write(7) tunes()=NOT_POSSIBLE",
                MELODY + "tunes()=NOT_POSSIBLE", MELODY + "write(7,) tunes()=NOT_POSSIBLE count(13)=2",
                MELODY + "write(36) tunes()=NOT_POSSIBLE", MELODY + "write(p) tunes()=NOT_POSSIBLE",
                MELODY + "write(7) tunes()=2 count(13)=1 empty() tunes()=NOT_POSSIBLE",
                MELODY + "write(" + "1,".repeat(30) + ") tunes()=NOT_POSSIBLE", MELODY + "write(7) stop() tunes()=2");
        due.says("if its first key is the highest one that is heard there, its second key the highest one in the next"
                        + " cell, and so on",
                MELODY + "write(7) tunes()=2", MELODY + "write(6) tunes()=0", MELODY + "write(3,7) tunes()=1",
                MELODY + "write(7,3) tunes()=0", MELODY + "write(0) tunes()=0", MELODY + "write(8) tunes()=0",
                MELODY + "mute(0) write(7) tunes()=0", MELODY + "write(7) speed() tunes()=0",
                "press() hit(12,5) pass(1) press() speed() write(0) tunes()=1 speed() tunes()=0",
                "press() hit(0,5) pass(1) press() write(0) tunes()=1 speed() tunes()=0",
                "speed() press() hit(23,5) pass(1) press() speed() write(35) tunes()=1 speed() tunes()=0 erase() write(23)"
                        + " tunes()=1");
        due.says("(behind the last cell of the loop the first one comes again)",
                MELODY + "write(7,7) tunes()=1", MELODY + "write(3,7,7) tunes()=1", MELODY + "write(7,7,3) tunes()=0",
                Pedals.loopCalls(1, 7, 5) + "write(" + "7,".repeat(29) + "7) tunes()=1",
                Pedals.loopCalls(1, 12, 5) + "write(" + "12,".repeat(19) + "12) tunes()=1",
                Pedals.loopCalls(1, 7, 5) + "write(" + "7,".repeat(29) + "17) count(13)=60 tunes()=0",
                Pedals.loopCalls(1, 7, 5) + "write(" + "7,".repeat(29) + "8) tunes()=0",
                "press() hit(7,5) pass(1) hit(8,5) pass(1) press() write(" + "7,8,".repeat(14) + "7) tunes()=1",
                "press() hit(7,5) pass(1) hit(7,5) pass(1) press() write(7,7,7) tunes()=2",
                Pedals.loopCalls(1, 7, 5) + "press() pass(2) write(7) tunes()=2");
    }

    static void promise24Count(Due due) {
        due.says("`what`: 0 to 15",
                "count(-1)=INVALID_ARGUMENT count(16)=INVALID_ARGUMENT count(" + GREAT + ")=INVALID_ARGUMENT count(" + SMALL
                        + ")=INVALID_ARGUMENT count(0)=0 count(15)=0");
        due.says("1: the length of the loop, 2: the first length, 0 for both without layers;",
                "count(1)=0 count(2)=0", "press() pass(5) count(1)=0 count(2)=0", TWO + "count(1)=4 count(2)=2",
                TWO + "stop() count(1)=4 count(2)=2", TWO + "empty() count(1)=0 count(2)=0");
        due.says("3: layers; 4: layers in the drawer;",
                TWO + "count(3)=2 count(4)=0 peel() count(3)=1 count(4)=1 empty() count(3)=0 count(4)=0",
                sixOfOneCell() + "count(3)=6 peel() peel() peel() peel() peel() count(3)=1 count(4)=5");
        due.says("5: the place, 0 in the modes 0, 1 and 4;",
                "count(5)=0 press() pass(5) count(5)=0", TWO + "count(5)=6 press() count(5)=6 stop() count(5)=0 press()"
                        + " count(5)=0", TWO + "count(5)=6 stop() count(5)=0", TWO + "count(5)=6 empty() count(5)=0 press()"
                        + " pass(1) count(5)=0", TWO + "stop() peel() count(5)=0 back() count(5)=0");
        due.says("6: passes that ended since the loop began to play;",
                TWO + "count(6)=1 pass(1)=1 count(6)=2 peel() pass(2)=1 count(6)=3 stop() count(6)=3 press() count(6)=0");
        due.says("7: halves of the take, 8: its notes: how many forces above 0 it has, 0 for both if none runs;",
                "count(7)=0 count(8)=0", "press() hit(1,1) hit(1,1) hit(2,1) pass(3) hit(1,1) count(7)=6 count(8)=3 press()"
                        + " count(7)=0 count(8)=0",
                TWO + "count(7)=0 count(8)=0 press() hit(0,1) speed() hit(23,1) pass(1) count(7)=1 count(8)=2 stop()"
                        + " count(7)=0 count(8)=0",
                "press() hit(1,1) pass(3) stop() count(7)=0 count(8)=0", "press() hit(1,1) pass(24) count(7)=0 count(8)=0");
        due.says("13: the length of the pad; 14: states in the history; 15: layers that were laid so far",
                "write(" + "!".repeat(60) + ") count(13)=60 count(14)=0", "speed() speed() speed() speed() count(14)=4"
                        + " speed() count(14)=4", TWO + "count(15)=2 peel() count(15)=2 press() pass(1) count(15)=2 press()"
                        + " count(15)=3 count(3)=2 empty() count(15)=3 press() pass(1) press() count(15)=4",
                TWO + "undo() count(15)=1");
    }

    static void promise25Loudness(Due due) {
        due.says("0.0 without layers.", "loudness()=0.0", "press() hit(5,5) pass(3) loudness()=0.0",
                TWO + "empty() loudness()=0.0", TWO + "mute(0) mute(1) loudness()=0.0");
        due.says("the sum of all rings that are heard in all cells of the loop, as a double, divided by the length",
                TWO + "loudness()=50.0 mute(0) loudness()=5.0 mute(0) speed() loudness()=15.0 peel() loudness()=15.0",
                Pedals.loopCalls(3, 5, 50) + "loudness()=" + 50.0 / 3.0, Pedals.loopCalls(7, 5, 1) + "loudness()="
                        + 1.0 / 7.0, TWO + "stop() loudness()=50.0");
        String keys = "";
        for (int key = 0; key < 24; key++) {
            keys += "hit(" + key + ",99) ";
        }
        due.says("of every key", "press() " + keys + "pass(1) press() loudness()=2376.0 speed() loudness()=1188.0");
    }
}
