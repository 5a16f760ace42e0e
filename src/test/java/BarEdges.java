/** The boundary sentences of the promises 26 to 31: bars, what would be. */
final class BarEdges {
    private static final String GREAT = "2147483647";
    private static final String SMALL = "-2147483648";

    static void promise26BarIn(Due due) {
        due.says("NOT_POSSIBLE in the modes 0, 1 and 4.",
                "barIn()=NOT_POSSIBLE", "press() barIn()=NOT_POSSIBLE pass(3) barIn()=NOT_POSSIBLE",
                Pedals.loopCalls(3) + "stop() barIn()=NOT_POSSIBLE", Pedals.loopCalls(3) + "empty() barIn()=NOT_POSSIBLE",
                Pedals.loopCalls(3) + "press() barIn()=0 pass(1) barIn()=14 stop() barIn()=NOT_POSSIBLE");
        due.says("until the beginning of the next cell with a bar line, 0 if it is just at one;",
                Pedals.loopCalls(3) + "set(0,2) barIn()=0 speed() pass(1) barIn()=3 pass(1) barIn()=2 pass(1) barIn()=1"
                        + " pass(1) barIn()=0 pass(1) barIn()=3",
                Pedals.loopCalls(3) + "set(0,16) barIn()=0 pass(1) barIn()=30 pass(15) barIn()=0 pass(16) barIn()=0 speed()"
                        + " pass(1) barIn()=31",
                Pedals.loopCalls(3) + "set(0,16) pass(5) barIn()=22 set(0,5) barIn()=0 set(0,4) barIn()=6");
    }

    static void promise27Drift(Due due) {
        due.says("`pass`: 0 to 99: which pass since the loop began to play",
                Pedals.loopCalls(3) + "set(0,2) drift(-1)=INVALID_ARGUMENT drift(0)=0 drift(1)=1 drift(2)=0 drift(98)=0"
                        + " drift(99)=1 drift(100)=INVALID_ARGUMENT",
                Pedals.loopCalls(3) + "drift(" + GREAT + ")=INVALID_ARGUMENT drift(" + SMALL + ")=INVALID_ARGUMENT");
        due.says("NOT_POSSIBLE without layers;",
                "drift(0)=NOT_POSSIBLE drift(99)=NOT_POSSIBLE drift(-1)=INVALID_ARGUMENT drift(100)=INVALID_ARGUMENT",
                "press() pass(3) drift(0)=NOT_POSSIBLE", Pedals.loopCalls(3) + "empty() drift(0)=NOT_POSSIBLE",
                Pedals.loopCalls(3) + "stop() drift(0)=0");
        due.says("the cell of the loop at which the first bar line in this pass comes; NOT_FOUND if there is none in this"
                        + " pass.",
                Pedals.loopCalls(3) + "drift(0)=0 drift(1)=NOT_FOUND drift(2)=2 drift(3)=NOT_FOUND drift(4)=NOT_FOUND"
                        + " drift(5)=1 drift(6)=NOT_FOUND drift(7)=NOT_FOUND drift(8)=0",
                Pedals.loopCalls(1) + "set(0,16) drift(0)=0 drift(1)=NOT_FOUND drift(15)=NOT_FOUND drift(16)=0 drift(96)=0",
                "press() pass(24) drift(0)=0 drift(1)=0 set(0,16) drift(1)=8 drift(2)=0 drift(99)=8",
                "press() pass(24) press() pass(48) set(0,13) drift(1)=4 drift(99)=6");
        due.says("if the loop has the length of now all along.",
                Pedals.loopCalls(3) + "press() pass(4) press() drift(1)=2 peel() drift(1)=NOT_FOUND back() drift(1)=2");
    }

    static void promise28Meets(Due due) {
        due.says("NOT_POSSIBLE without layers.",
                "meets()=NOT_POSSIBLE", "press() pass(8) meets()=NOT_POSSIBLE",
                Pedals.loopCalls(3) + "empty() meets()=NOT_POSSIBLE", Pedals.loopCalls(3) + "stop() meets()=8");
        due.says("the least number of passes, 1 or more, that are a whole number of bars together;",
                Pedals.loopCalls(8) + "meets()=1 set(0,2) meets()=1 set(0,16) meets()=2 set(0,15) meets()=15",
                Pedals.loopCalls(1) + "meets()=8 set(0,16) meets()=16 set(0,2) meets()=2",
                Pedals.loopCalls(6) + "meets()=4 set(0,9) meets()=3 set(0,3) meets()=1",
                "press() pass(24) press() pass(48) meets()=1 set(0,13) meets()=13 set(0,9) meets()=3 peel() meets()=3"
                        + " set(0,16) meets()=2 back() meets()=1");
    }

    static void promise29Rounded(Due due) {
        due.says("`cells`: 1 to 24",
                "rounded(0)=INVALID_ARGUMENT rounded(1)=1 rounded(24)=24 rounded(25)=INVALID_ARGUMENT"
                        + " rounded(-1)=INVALID_ARGUMENT rounded(" + GREAT + ")=INVALID_ARGUMENT rounded(" + SMALL
                        + ")=INVALID_ARGUMENT");
        due.says("a bar has BAR cells; at least one bar",
                "set(1,8) rounded(1)=8 rounded(2)=8 set(0,9) rounded(1)=9 set(0,10) rounded(1)=1 rounded(2)=10");
        due.says("that are at most 24 cells",
                "set(1,8) set(0,16) rounded(24)=16 set(0,13) rounded(24)=24 rounded(21)=13 set(0,12) rounded(24)=24"
                        + " rounded(19)=24 set(0,5) rounded(24)=20 rounded(23)=20");
        due.says("nearest to n (of two the lesser one)",
                "set(1,8) rounded(11)=8 rounded(12)=8 rounded(13)=16 rounded(20)=16 rounded(21)=24 set(0,3) rounded(4)=3"
                        + " rounded(5)=6 set(0,2) rounded(3)=2 rounded(5)=4 rounded(1)=2");
        due.says("at most SLACK away from n; otherwise n",
                "rounded(6)=6 rounded(7)=8 rounded(9)=8 rounded(10)=10 rounded(14)=14 rounded(15)=16 rounded(17)=16"
                        + " rounded(18)=18 rounded(22)=22 rounded(23)=24",
                "set(1,0) rounded(7)=7 rounded(8)=8 rounded(9)=9", "set(1,8) set(0,16) rounded(8)=16 rounded(7)=7");
        due.says("in every mode", "press() rounded(7)=8", Pedals.loopCalls(3) + "set(1,1) rounded(7)=8 stop() rounded(7)=8");
    }

    static void promise30SilentIn(Due due) {
        due.says("NOT_POSSIBLE without layers;",
                "silentIn()=NOT_POSSIBLE", "press() hit(5,5) pass(1) silentIn()=NOT_POSSIBLE",
                "set(2,50) silentIn()=NOT_POSSIBLE", Pedals.loopCalls(3) + "empty() silentIn()=NOT_POSSIBLE");
        due.says("the least number of passes, 0 or more, behind which nothing is heard in any cell;",
                Pedals.loopCalls(3) + "silentIn()=0 set(2,50) silentIn()=0",
                Pedals.loopCalls(2, 5, 1) + "set(2,1) silentIn()=1", Pedals.loopCalls(2, 5, 99) + "set(2,1) silentIn()=99",
                Pedals.loopCalls(2, 5, 99) + "set(2,99) silentIn()=1 set(2,98) silentIn()=2 set(2,100) silentIn()=1",
                Pedals.loopCalls(2, 5, 99) + "set(2,50) silentIn()=7 pass(12)=6 silentIn()=1 pass(2)=1 silentIn()=0"
                        + " loudest()=NOT_FOUND set(2,0) silentIn()=0",
                "press() pass(24) press() pass(47) hit(5,3) pass(1) set(2,10) silentIn()=3");
        due.says("NOT_FOUND if that never comes.",
                Pedals.loopCalls(2, 5, 1) + "silentIn()=NOT_FOUND set(2,1) silentIn()=1 set(2,0) silentIn()=NOT_FOUND",
                Pedals.loopCalls(2, 5, 99) + "silentIn()=NOT_FOUND mute(0) silentIn()=0");
        due.says("with the layers, the speed and the FADE of now.",
                Pedals.loopCalls(1, 11, 99) + Pedals.overCalls(12, 3, 1) + "set(2,50) silentIn()=7 speed() silentIn()=2"
                        + " mute(1) silentIn()=0 speed() silentIn()=7 mute(0) silentIn()=0 mute(1) silentIn()=2 peel()"
                        + " silentIn()=0 mute(0) silentIn()=7",
                Pedals.loopCalls(1, 0, 1) + "set(2,1) silentIn()=1 stop() silentIn()=1");
    }

    static void promise31IfPeeled(Due due) {
        String three = Pedals.loopCalls(2, 5, 50) + Pedals.overCalls(16, 20, 1) + Pedals.overCalls(19, 7, 3);
        due.says("`layers`: how many are left, 1 or more (INVALID_ARGUMENT also if there are not so many layers)",
                three + "ifPeeled(0,0)=INVALID_ARGUMENT ifPeeled(1,0)=2 ifPeeled(2,0)=2 ifPeeled(3,0)=4"
                        + " ifPeeled(4,0)=INVALID_ARGUMENT ifPeeled(-1,0)=INVALID_ARGUMENT",
                three + "ifPeeled(" + GREAT + ",0)=INVALID_ARGUMENT ifPeeled(" + SMALL + ",0)=INVALID_ARGUMENT",
                three + "peel() ifPeeled(2,0)=2 ifPeeled(3,0)=INVALID_ARGUMENT",
                three + "press() ifPeeled(3,0)=4 ifPeeled(4,0)=INVALID_ARGUMENT stop() ifPeeled(1,0)=2",
                "ifPeeled(1,0)=INVALID_ARGUMENT ifPeeled(0,0)=INVALID_ARGUMENT",
                "press() pass(1) ifPeeled(1,0)=INVALID_ARGUMENT", three + "empty() ifPeeled(1,0)=INVALID_ARGUMENT");
        due.says("`what`: 0 to 2",
                three + "ifPeeled(1,-1)=INVALID_ARGUMENT ifPeeled(1,0)=2 ifPeeled(1,1)=50 ifPeeled(1,2)=1"
                        + " ifPeeled(1,3)=INVALID_ARGUMENT",
                three + "ifPeeled(1," + GREAT + ")=INVALID_ARGUMENT ifPeeled(1," + SMALL + ")=INVALID_ARGUMENT");
        due.says("1: the sum of all rings in all its cells; 2: how many of its cells are silent",
                three + "ifPeeled(2,1)=70 ifPeeled(2,2)=1 ifPeeled(3,1)=147 ifPeeled(3,2)=1",
                three + "mute(0) ifPeeled(1,1)=0 ifPeeled(1,2)=2 ifPeeled(3,1)=47 mute(1) mute(2) ifPeeled(3,1)=0"
                        + " ifPeeled(3,2)=4",
                three + "speed() ifPeeled(1,1)=0 ifPeeled(1,2)=2 ifPeeled(2,1)=20 ifPeeled(3,1)=47",
                Pedals.loopCalls(1) + "ifPeeled(1,1)=0 ifPeeled(1,2)=1", Pedals.loopCalls(1, 0, 1) + "ifPeeled(1,1)=1"
                        + " ifPeeled(1,2)=0");
        due.says("nothing is changed", three + "ifPeeled(1,1)=50 count(3)=3 count(4)=0 count(1)=4");
    }
}
