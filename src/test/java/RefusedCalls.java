import java.util.ArrayList;
import java.util.List;

/**
 * "A call that returns an error changes nothing (the pad stays, too)", and "looks; nothing is changed": an object that
 * was asked, and refused, answers all that follows as a twin does that was never asked.
 */
final class RefusedCalls {
    private static final int[] ODD = {Integer.MIN_VALUE, -1, 0, 1, 2, 5, 6, 23, 24, 36, 99, 100, 101, Integer.MAX_VALUE};

    /** One state for each mode and for what else a call may be refused by; most with a history and a snapshot. */
    static final String[] STATES = {
        "",
        "write(" + "p".repeat(60) + ")",
        "speed() write(ph)",
        "press()",
        "press() hit(5,60)",
        "save() set(1,0) press() hit(5,60) pass(3) hit(5,7) write(5,)",
        Pedals.loopCalls(3, 5, 60) + "set(2,10) pass(2) write(ppx)",
        Pedals.loopCalls(3, 5, 60) + Pedals.overCalls(5, 20, 4) + "save() speed() pass(3) write(q)",
        Pedals.loopCalls(3, 5, 60) + Pedals.overCalls(5, 99, 4) + "mute(0) peel() stop() write(5)",
        Pedals.loopCalls(3, 5, 60) + Pedals.overCalls(5, 99, 4) + "peel() pass(2) press() hit(9,9)",
        Pedals.loopCalls(3, 5, 60) + Pedals.overCalls(5, 99, 2) + "save() pass(2) press() hit(9,9) pass(1) write(t0)",
        Pedals.loopCalls(1, 5, 60) + Pedals.overCalls(5, 9, 1) + Pedals.overCalls(5, 9, 1) + Pedals.overCalls(5, 9, 1)
                + Pedals.overCalls(5, 9, 1) + Pedals.overCalls(5, 9, 1) + "set(2,1) write(ppp)",
        Pedals.loopCalls(2, 5, 60) + "empty() write(vpx)",
    };

    /** What is done next, so that all that is hidden comes to light. */
    private static final String[] NEXT = {
        "fault(0) fault(1) tunes() play() why(0) why(1) why(2) count(13) append(112) play() undo() undo() undo() undo()"
                + " undo()",
        "press() hit(3,9) pass(1) press() back() pass(7) back() barIn() press() pass(1) press() peel() undo() undo()",
        "undo() undo() undo() undo() hit(5,1) pass(2) press() pass(2) back()",
        "restore() hit(5,1) pass(1) press() hit(9,9) pass(1) press() back() undo() undo()",
        "stop() restore() press() press() pass(1) press() undo()",
        "pass(99) pass(99) speed() pass(99) undo() hit(9,1) undo() undo() undo()",
    };

    static void termARefusedCallChangesNothing(Due due) {
        int refused = 0;
        for (String state : STATES) {
            List<String> twin = allThatFollows(state, "");
            for (String call : calls()) {
                String answer = Calls.behind(state).answer(call);
                if (answer.startsWith("-")) {
                    refused++;
                    due.same("what follows [" + state + "] and the refused " + call,
                            allThatFollows(state, call).toString(), twin.toString());
                }
            }
        }
        due.holds("many calls are refused", refused > 1500);
    }

    static void termLooksChangeNothing(Due due) {
        for (String state : STATES) {
            List<String> twin = allThatFollows(state, "");
            for (String looks : looks()) {
                due.same("what follows [" + state + "] and " + looks, allThatFollows(state, looks).toString(),
                        twin.toString());
            }
        }
    }

    private static List<String> allThatFollows(String state, String asked) {
        List<String> answers = new ArrayList<>();
        ask(behind(state, asked), picture(), answers);
        for (String next : NEXT) {
            Calls twin = behind(state, asked);
            ask(twin, next, answers);
            ask(twin, SHORT_PICTURE, answers);
        }
        return answers;
    }

    private static Calls behind(String state, String asked) {
        Calls twin = Calls.behind(state);
        ask(twin, asked, new ArrayList<>());
        return twin;
    }

    private static void ask(Calls of, String calls, List<String> answers) {
        for (String call : calls.trim().split(" +")) {
            answers.add(call + "=" + of.answer(call));
        }
    }

    private static final String SHORT_PICTURE = shortPicture();

    private static String shortPicture() {
        StringBuilder calls = new StringBuilder();
        for (int what = 0; what < 16; what++) {
            calls.append("count(").append(what).append(") ");
        }
        for (int layer = 0; layer < 6; layer++) {
            for (int what = 0; what < 6; what++) {
                calls.append("layer(").append(layer).append(',').append(what).append(") ");
            }
        }
        return calls + "loudest() buried() loudness() barIn() meets() silentIn() drift(1) rounded(7) why(0) why(1) why(2)"
                + " fault(0) fault(1) tunes()";
    }

    private static String picture() {
        StringBuilder calls = new StringBuilder(SHORT_PICTURE);
        for (int cell = 0; cell < 48; cell++) {
            for (int what = 0; what < 5; what++) {
                calls.append(" heard(").append(cell).append(',').append(what).append(')');
            }
        }
        return calls.toString();
    }

    /** Every call of the face that can be refused, with arguments from far below to far above their ranges. */
    static List<String> calls() {
        List<String> calls = new ArrayList<>(List.of("press()", "stop()", "empty()", "peel()", "back()", "play()",
                "restore()", "loudest()", "buried()", "tunes()", "barIn()", "meets()", "silentIn()", "undo()"));
        for (int odd : ODD) {
            for (String name : List.of("pass", "mute", "append", "fault", "why", "count", "drift", "rounded")) {
                calls.add(name + "(" + odd + ")");
            }
            for (int other : new int[] {-1, 1, 100}) {
                calls.add("hit(" + odd + "," + other + ")");
            }
            for (int what : new int[] {-1, 0, 1, 2, 3}) {
                calls.add("set(" + what + "," + odd + ")");
            }
            for (String name : List.of("layer", "ring", "heard", "ifPeeled")) {
                calls.add(name + "(" + odd + ",0)");
                calls.add(name + "(1," + odd + ")");
            }
            calls.add("note(" + odd + ",0,0)");
            calls.add("note(0," + odd + ",0)");
            calls.add("note(0,0," + odd + ")");
        }
        return calls;
    }

    /** The looks in a few long rows, so that an object and its twin stay below 512 calls. */
    private static List<String> looks() {
        StringBuilder first = new StringBuilder("fault(0) fault(1) why(0) why(1) why(2) loudest() buried() tunes()"
                + " loudness() barIn() meets() silentIn()");
        for (int what = 0; what < 16; what++) {
            first.append(" count(").append(what).append(')');
        }
        for (int i = 0; i < 6; i++) {
            first.append(" layer(0,").append(i).append(") layer(1,").append(i).append(") heard(0,").append(i)
                    .append(") ring(").append(i).append(",5) note(0,").append(i).append(",5) note(1,").append(i)
                    .append(",5) drift(").append(i).append(") rounded(").append(i + 4).append(") ifPeeled(1,").append(i)
                    .append(") ifPeeled(2,").append(i).append(')');
        }
        return List.of(first.toString(), "loudest()", "buried()", "loudness()", "silentIn()", "tunes()", "ifPeeled(1,1)");
    }
}
