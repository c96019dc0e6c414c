/** Promise 12: unit. */
final class UnitTest {
    public static void main(String[] args) {
        CallAgents x = new CallAgents();
        int[] wrong = {31, 127, 0, 9, 11, 13, -1, 128, 255, 10 + 65536, Integer.MIN_VALUE, Integer.MAX_VALUE};
        for (int u : wrong) {
            Check.due("unit(" + u + ")", x.unit(u), false);
        }
        Check.due("none of these was collected", x.inject(0), -10);
        int[] right = {32, 126, 10, 65};
        for (int u : right) {
            Check.due("unit(" + u + ")", x.unit(u), true);
        }
        Check.due("the first sign is wrong", x.inject(0), -10);
        x.unit('I');
        x.unit('X');
        Check.due("the first text is gone", x.inject(0), -11);
        room();
        Check.finish("UnitTest");
    }

    private static void room() {
        CallAgents x = new CallAgents();
        for (int n = 0; n < 500; n++) {
            Check.due("unit, sign " + n, x.unit('A'), true);
        }
        Check.due("unit, sign 500", x.unit('A'), false);
        Check.due("unit, sign 500", x.unit(10), false);
        Check.due("AA", x.inject(1), -11);
        Check.due("there is room again", x.unit('A'), true);
    }
}
