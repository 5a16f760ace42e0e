/** The boundary sentences of the promises 1 to 11: the pedal. */
final class PedalEdges {
    private static String layers(int layers) {
        String calls = Pedals.loopCalls(2, 1, 10);
        for (int layer = 1; layer < layers; layer++) {
            calls += Pedals.overCalls(1 + layer, 10 + layer, 1);
        }
        return calls;
    }

    static void promise01NewObject(Due due) {
        due.says("Creates an empty pedal, at full speed.",
                "count(0)=0 count(1)=0 count(2)=0 count(3)=0 count(4)=0 count(5)=0 count(6)=0 count(7)=0 count(8)=0"
                        + " count(9)=0 count(10)=8 count(11)=1 count(12)=0 count(13)=0 count(14)=0 count(15)=0",
                "press()=1 pass(1) count(7)=2",
                "stop()=NOT_POSSIBLE", "empty()=NOT_POSSIBLE", "hit(0,1)=NOT_POSSIBLE", "pass(1)=0",
                "peel()=NOT_POSSIBLE", "back()=NOT_POSSIBLE", "mute(0)=INVALID_ARGUMENT", "speed()=1", "erase()=0",
                "fault(0)=0", "fault(1)=0", "play()=NOT_POSSIBLE", "why(0)=NOT_FOUND", "layer(0,0)=INVALID_ARGUMENT",
                "note(0,0,0)=INVALID_ARGUMENT", "ring(0,0)=INVALID_ARGUMENT", "heard(0,0)=INVALID_ARGUMENT",
                "loudest()=NOT_POSSIBLE", "buried()=NOT_FOUND", "write(5) tunes()=NOT_POSSIBLE", "loudness()=0.0",
                "barIn()=NOT_POSSIBLE", "drift(0)=NOT_POSSIBLE", "meets()=NOT_POSSIBLE", "rounded(1)=1",
                "silentIn()=NOT_POSSIBLE", "ifPeeled(1,0)=INVALID_ARGUMENT", "undo()=NOT_POSSIBLE", "save()=0",
                "restore()=NOT_POSSIBLE");
    }

    static void promise02PressWhenEmpty(Due due) {
        due.says("0: a first take begins (mode 1). A take keeps the halves that went by since it began, 0 at first, and"
                        + " its notes.",
                "press()=1 count(0)=1 count(7)=0 count(8)=0",
                "press() hit(5,60) pass(3) stop()=0 press()=1 count(7)=0 count(8)=0 hit(5,1)=1",
                "press() hit(5,60) pass(3) empty()=0 press()=1 count(7)=0 count(8)=0 hit(5,1)=1",
                Pedals.loopCalls(3) + "pass(2) press() pass(1) empty()=1 press()=1 count(7)=0 hit(4,9) pass(1) press()"
                        + " note(0,0,4)=9");
    }

    static void promise02PressInAFirstTake(Due due) {
        due.says("1: the first take ends (not possible as long as it has no halves):",
                "press()=1 press()=NOT_POSSIBLE count(0)=1 hit(5,60) press()=NOT_POSSIBLE count(8)=1 speed() pass(1)"
                        + " press()=2 count(2)=1");
        due.says("it becomes the layer 0; the loop plays (mode 2) from the place 0 on, with 0 passes, and 0 halves played.",
                "press() hit(5,60) pass(3) press()=2 count(3)=1 layer(0,2)=60 layer(0,4)=0 layer(0,5)=0 count(5)=0"
                        + " count(6)=0 barIn()=0",
                Pedals.loopCalls(3) + "mute(0) pass(7) count(6)=2 barIn()=2 empty() press() pass(2) press()=2 count(5)=0"
                        + " count(6)=0 barIn()=0 layer(0,4)=0 layer(0,5)=0");
    }

    static void promise02PressWhilePlaying(Due due) {
        due.says("2: a take begins over the loop (mode 3); it keeps the place at which it begins.",
                Pedals.loopCalls(4) + "pass(3) press()=3 count(7)=0 count(8)=0 count(5)=6 hit(5,7) pass(1) press()"
                        + " note(1,3,5)=7",
                Pedals.loopCalls(4) + "press() hit(5,7) pass(1) stop() press()=2 press()=3 count(7)=0 count(8)=0"
                        + " hit(5,1)=1");
        due.says("(Not possible with 6 layers: a limit.)",
                layers(5) + "press()=3 count(0)=3",
                layers(6) + "press()=LIMIT_REACHED count(0)=2 count(3)=6",
                layers(6) + "peel()=5 press()=3 pass(1) press()=2 press()=LIMIT_REACHED",
                layers(6) + "stop()=4 press()=2");
    }

    static void promise02PressInATakeOver(Due due) {
        due.says("3: the take ends (not possible as long as it has no halves): it becomes a layer (mode 2).",
                Pedals.loopCalls(3) + "press()=3 press()=NOT_POSSIBLE count(0)=3 hit(5,60) press()=NOT_POSSIBLE"
                        + " count(8)=1 speed() pass(1) press()=2 count(3)=2 layer(1,2)=60 count(7)=0 count(8)=0",
                layers(5) + "press()=3 press()=NOT_POSSIBLE pass(1) press()=2 count(3)=6");
    }

    static void promise02PressAtRest(Due due) {
        due.says("4: the loop plays (mode 2) from the place 0 on, with 0 passes, and 0 halves played.",
                Pedals.loopCalls(3) + "pass(7) count(5)=2 count(6)=2 barIn()=2 stop()=4 press()=2 count(5)=0 count(6)=0"
                        + " barIn()=0 layer(0,5)=2",
                Pedals.loopCalls(3) + "speed() pass(5) press() pass(2) stop()=4 speed() press()=2 count(5)=0 count(6)=0"
                        + " barIn()=0 pass(1) count(5)=2");
    }

    static void promise03Stop(Due due) {
        due.says("Returns the mode then; NOT_POSSIBLE in the modes 0 and 4.",
                "stop()=NOT_POSSIBLE count(0)=0",
                "press() stop()=0 stop()=NOT_POSSIBLE",
                Pedals.loopCalls(2) + "stop()=4 stop()=NOT_POSSIBLE count(0)=4",
                Pedals.loopCalls(2) + "press()=3 stop()=4 stop()=NOT_POSSIBLE");
        due.says("a first take is thrown away (mode 0);",
                "press() hit(5,60) pass(3) stop()=0 count(0)=0 count(3)=0 count(7)=0 count(8)=0 count(15)=0"
                        + " hit(5,60)=NOT_POSSIBLE");
        due.says("a loop that plays rests (mode 4), a take over it is thrown away.",
                layers(2) + "pass(3) stop()=4 count(3)=2 count(1)=2 count(5)=0 layer(0,2)=10 layer(1,2)=11",
                layers(2) + "press() hit(5,60) pass(1) stop()=4 count(3)=2 count(7)=0 count(8)=0 count(15)=2"
                        + " hit(5,60)=NOT_POSSIBLE press()=2 count(3)=2");
    }

    static void promise04Empty(Due due) {
        due.says("Returns how many layers were on the loop; NOT_POSSIBLE in mode 0.",
                "empty()=NOT_POSSIBLE", "press() empty()=0 empty()=NOT_POSSIBLE", layers(1) + "empty()=1",
                layers(6) + "empty()=6 empty()=NOT_POSSIBLE", layers(3) + "peel() empty()=2",
                layers(2) + "press() pass(1) empty()=2", layers(2) + "stop() empty()=2");
        due.says("all layers, the drawer, and a take are thrown away (mode 0);",
                layers(3) + "peel() press() hit(5,5) pass(1) empty()=2 count(0)=0 count(1)=0 count(2)=0 count(3)=0"
                        + " count(4)=0 count(5)=0 count(7)=0 count(8)=0 back()=NOT_POSSIBLE hit(5,5)=NOT_POSSIBLE"
                        + " layer(0,0)=INVALID_ARGUMENT loudness()=0.0",
                layers(1) + "pass(9) empty()=1 press()=1 press()=NOT_POSSIBLE pass(3) press()=2 layer(0,1)=0");
        due.says("the speed and the settings stay.",
                "speed() set(0,16) set(1,8) set(2,100) press() empty()=0 count(9)=1 count(10)=16 count(11)=8"
                        + " count(12)=100");
    }

    static void promise05Hit(Due due) {
        String take = "press() ";
        due.says("`key`: 0 to 23",
                take + "hit(-1,50)=INVALID_ARGUMENT", take + "hit(0,50)=50", take + "hit(23,50)=50",
                take + "hit(24,50)=INVALID_ARGUMENT", take + "hit(35,50)=INVALID_ARGUMENT",
                take + "hit(2147483647,50)=INVALID_ARGUMENT", take + "hit(-2147483648,50)=INVALID_ARGUMENT",
                take + "speed() hit(24,50)=INVALID_ARGUMENT hit(-1,50)=INVALID_ARGUMENT hit(-12,50)=INVALID_ARGUMENT");
        due.says("`force`: 1 to 99",
                take + "hit(5,0)=INVALID_ARGUMENT", take + "hit(5,1)=1", take + "hit(5,99)=99",
                take + "hit(5,100)=INVALID_ARGUMENT", take + "hit(5,-1)=INVALID_ARGUMENT",
                take + "hit(5,2147483647)=INVALID_ARGUMENT", take + "hit(5,-2147483648)=INVALID_ARGUMENT");
        due.says("NOT_POSSIBLE if no take runs.",
                "hit(5,50)=NOT_POSSIBLE", take + "hit(5,50)=50", layers(1) + "hit(5,50)=NOT_POSSIBLE",
                layers(1) + "press()=3 hit(5,50)=50", layers(1) + "stop() hit(5,50)=NOT_POSSIBLE");
        due.says("At half speed the key is kept 12 higher.",
                "speed() press() hit(0,1) hit(23,2) pass(1) press() note(0,0,12)=1 note(0,0,35)=2 layer(0,1)=2",
                "press() hit(12,9) speed() hit(0,9)=18 pass(1) press() layer(0,1)=1");
    }

    static void promise06Pass(Due due) {
        due.says("`ticks`: 1 to 99",
                "pass(0)=INVALID_ARGUMENT", "pass(-1)=INVALID_ARGUMENT", "pass(1)=0", "pass(99)=0",
                "pass(100)=INVALID_ARGUMENT", "pass(2147483647)=INVALID_ARGUMENT",
                "pass(-2147483648)=INVALID_ARGUMENT",
                Pedals.loopCalls(1) + "pass(1)=1 pass(99)=99 count(6)=100");
        due.says("Returns how many passes ended in them;",
                Pedals.loopCalls(4) + "pass(3)=0 pass(1)=1 pass(7)=1 pass(9)=3 count(6)=5",
                Pedals.loopCalls(4) + "speed() pass(7)=0 pass(1)=1 pass(99)=12",
                Pedals.loopCalls(2) + "press() pass(4)=2 count(0)=2 count(1)=4 pass(3)=0 pass(1)=1");
    }

    static void promise07Peel(Due due) {
        due.says("NOT_POSSIBLE if a take runs, or there are fewer than 2 layers.",
                "peel()=NOT_POSSIBLE", "press() peel()=NOT_POSSIBLE", layers(1) + "peel()=NOT_POSSIBLE count(3)=1",
                layers(2) + "peel()=1 peel()=NOT_POSSIBLE", layers(2) + "press()=3 peel()=NOT_POSSIBLE",
                layers(2) + "stop()=4 peel()=1 count(0)=4",
                layers(6) + "peel()=5 peel()=4 peel()=3 peel()=2 peel()=1 count(4)=5 peel()=NOT_POSSIBLE layer(0,2)=10");
        due.says("the last layer comes on the top of the drawer (not the layer 0).",
                layers(3) + "peel()=2 layer(1,2)=11 layer(2,2)=INVALID_ARGUMENT count(4)=1 back()=3 layer(2,2)=12");
        String longer = Pedals.loopCalls(3) + "press() pass(4)=1 press()=2 count(5)=8 ";
        due.says("If the loop is shorter by that, its place becomes the place modulo twice the length.",
                longer + "peel()=1 count(5)=2", longer + "pass(2)=1 count(5)=0 pass(3)=0 count(5)=6 peel()=1 count(5)=0",
                longer + "pass(2)=1 pass(2)=0 speed() pass(1)=0 count(5)=5 peel()=1 count(5)=5",
                longer + "speed() pass(3)=0 count(5)=11 peel()=1 count(5)=5",
                longer + "press() pass(1) press()=2 count(5)=10 peel()=2 count(5)=10 count(1)=6 peel()=1 count(5)=4");
    }

    static void promise08Back(Due due) {
        due.says("NOT_POSSIBLE if a take runs, or the drawer is empty.",
                "back()=NOT_POSSIBLE", "press() back()=NOT_POSSIBLE", layers(2) + "back()=NOT_POSSIBLE",
                layers(2) + "peel() press()=3 back()=NOT_POSSIBLE count(4)=1",
                layers(2) + "peel() back()=2 back()=NOT_POSSIBLE", layers(2) + "peel() stop()=4 back()=2 count(0)=4");
        due.says("the one on the top of the drawer becomes the last layer.",
                layers(6) + "mute(4) peel() peel() peel() peel() peel()=1 back()=2 layer(1,2)=11 back()=3 layer(2,2)=12"
                        + " back()=4 layer(3,2)=13 back()=5 layer(4,2)=14 layer(4,4)=1 back()=6 layer(5,2)=15 count(4)=0"
                        + " back()=NOT_POSSIBLE press()=LIMIT_REACHED");
        due.says("Its place stays, also if the loop is longer by that.",
                Pedals.loopCalls(3) + "press() pass(4) press()=2 peel()=1 count(5)=2 pass(1) count(5)=4 back()=2"
                        + " count(5)=4 count(1)=6 pass(3)=0 pass(1)=1");
    }

    static void promise09Mute(Due due) {
        due.says("INVALID_ARGUMENT if there is no such layer.",
                "mute(0)=INVALID_ARGUMENT", "press() pass(1) mute(0)=INVALID_ARGUMENT", layers(1) + "mute(0)=1",
                layers(1) + "mute(1)=INVALID_ARGUMENT", layers(1) + "mute(-1)=INVALID_ARGUMENT",
                layers(6) + "mute(5)=1 mute(6)=INVALID_ARGUMENT mute(7)=INVALID_ARGUMENT",
                layers(2) + "peel() mute(1)=INVALID_ARGUMENT", layers(2) + "press()=3 mute(2)=INVALID_ARGUMENT mute(1)=1",
                layers(1) + "mute(2147483647)=INVALID_ARGUMENT mute(-2147483648)=INVALID_ARGUMENT",
                layers(1) + "empty() mute(0)=INVALID_ARGUMENT");
        due.says("Returns 1 if it is muted then, otherwise 0;",
                layers(2) + "mute(1)=1 mute(1)=0 mute(1)=1 layer(1,4)=1 layer(0,4)=0 ring(0,1)=10",
                layers(2) + "mute(1)=1 stop() mute(0)=1 mute(1)=0 press() ring(0,1)=0 ring(1,2)=0 ring(0,2)=11",
                layers(1) + "mute(0) press() pass(1) press()=2 layer(1,4)=0");
    }

    static void promise10Speed(Due due) {
        due.says("Returns 1 if it is half speed then, otherwise 0.",
                "speed()=1 speed()=0 speed()=1 count(9)=1", "press() speed()=1 count(0)=1 speed()=0",
                layers(1) + "speed()=1 count(0)=2", layers(1) + "press() speed()=1 count(0)=3 count(7)=0",
                layers(1) + "stop() speed()=1 count(0)=4");
    }

    static void promise11Set(Due due) {
        due.says("`what`: 0 to 2",
                "set(-1,2)=INVALID_ARGUMENT", "set(0,2)=8", "set(2,2)=0", "set(3,2)=INVALID_ARGUMENT",
                "set(2147483647,2)=INVALID_ARGUMENT", "set(-2147483648,2)=INVALID_ARGUMENT");
        due.says("BAR (2 to 16; 8)",
                "count(10)=8 set(0,1)=INVALID_ARGUMENT set(0,17)=INVALID_ARGUMENT set(0,0)=INVALID_ARGUMENT set(0,2)=8"
                        + " set(0,16)=2 count(10)=16 set(0,-1)=INVALID_ARGUMENT count(10)=16 count(11)=1 count(12)=0");
        due.says("SLACK (0 to 8; 1)",
                "count(11)=1 set(1,-1)=INVALID_ARGUMENT set(1,9)=INVALID_ARGUMENT set(1,0)=1 set(1,8)=0 count(11)=8"
                        + " set(1,2147483647)=INVALID_ARGUMENT count(11)=8 count(10)=8 count(12)=0");
        due.says("FADE (0 to 100; 0)",
                "count(12)=0 set(2,-1)=INVALID_ARGUMENT set(2,101)=INVALID_ARGUMENT set(2,100)=0 set(2,0)=100 count(12)=0"
                        + " set(2,-2147483648)=INVALID_ARGUMENT count(12)=0 count(10)=8 count(11)=1");
        due.says("Returns the value before;", "set(0,9)=8 set(0,9)=9 set(0,10)=9");
        due.says("in every mode",
                "press() set(0,9)=8", layers(1) + "set(0,9)=8", layers(1) + "press() set(0,9)=8",
                layers(1) + "stop() set(0,9)=8");
    }
}
