/** Promise 12: unit. */
final class UnitTest {
    public static void main(String[] args) {
        CallAgents x = new CallAgents();
        int[] wrong = {31, 127, 0, 9, 11, 13, -1, 128, 255, 10 + 65536, Integer.MIN_VALUE, Integer.MAX_VALUE};
        for (int u : wrong) {
            Check.due("unit(" + u + ")", x.unit(u), false);
        }
        Check.due("none of these was collected", x.inject(0), -10);
        int[] right = {32, 126, 10, 65};
        for (int u : right) {
            Check.due("unit(" + u + ")", x.unit(u), true);
        }
        Check.due("the first sign is wrong", x.inject(0), -10);
        x.unit('I');
        x.unit('X');
        Check.due("the first text is gone", x.inject(0), -11);
        room();
        everySign();
        refusedOnesAreNotCollected();
        Check.finish("UnitTest");
    }

    private static void everySign() {
        Check.sentence("A sign (32 .. 126, or 10) is collected .. False: another one");
        CallAgents x = new CallAgents();
        for (int u = -40; u <= 300; u++) {
            Check.due("unit(" + u + ")", x.unit(u), u == 10 || (u >= 32 && u <= 126));
        }
    }

    /** A text with other signs in between is the text without them, also when there is no more room. */
    private static void refusedOnesAreNotCollected() {
        Check.sentence("A sign .. is collected, at most 500. False: another one, no room");
        String text = Letter.request("BYE", 0).text();
        CallAgents x = new CallAgents();
        for (int i = 0; i < text.length(); i++) {
            Check.due("unit(127)", x.unit(127), false);
            x.unit(text.charAt(i));
            Check.due("unit(31)", x.unit(31), false);
        }
        Check.due("the text alone", x.inject(0), 0);
        CallAgents y = new CallAgents();
        for (int n = 0; n < 500; n++) {
            Check.due("unit, sign " + n, y.unit(n < text.length() ? text.charAt(n) : ' '), true);
        }
        for (int n = 500; n < 510; n++) {
            Check.due("unit, sign " + n, y.unit(' '), false);
        }
        Check.due("the first sign behind the message", y.inject(0), -10 - text.length());
        Check.due("all is gone", y.inject(0), -10);
    }

    private static void room() {
        Check.sentence("at most 500. False: .. no room");
        CallAgents x = new CallAgents();
        for (int n = 0; n < 500; n++) {
            Check.due("unit, sign " + n, x.unit('A'), true);
        }
        Check.due("unit, sign 500", x.unit('A'), false);
        Check.due("unit, sign 500", x.unit(10), false);
        Check.due("AA", x.inject(1), -11);
        Check.due("there is room again", x.unit('A'), true);
    }
}
