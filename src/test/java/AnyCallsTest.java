import java.util.Random;

/** Long runs of calls of any kind: none throws, and what is always true stays true. */
final class AnyCallsTest {
    private static final int[] EDGES = {-1, 0, 1, 2, 3, 8, 9, 59, 60, 500, 65535, 65536, 100000, Integer.MIN_VALUE,
        Integer.MAX_VALUE};

    public static void main(String[] args) {
        for (int seed = 0; seed < 3000; seed++) {
            run(new Random(seed), seed % 3 == 0);
        }
        Check.finish("AnyCallsTest");
    }

    private static void run(Random random, boolean wild) {
        CallAgents x = new CallAgents();
        int states = 0;
        for (int n = 0; n < 500; n++) {
            call(x, random, wild);
            for (int agent = 0; agent < 2; agent++) {
                int state = x.told(agent, 0);
                Check.due("a state", state >= 0 && state <= 9, true);
                Check.due("lines", x.told(agent, 6) >= 0 && x.told(agent, 6) <= 3, true);
                Check.due("nothing is agreed in 1, 2, 5, 7",
                        x.told(agent, 6) == 0 || (state != 1 && state != 2 && state != 5 && state != 7), true);
                states |= 1 << state;
            }
            Check.due("flying", x.flying() >= 0 && x.flying() <= 60, true);
        }
        whatFliesIsAMessage(x);
        Check.due("the run did something", states != 1 || wild, true);
    }

    private static int number(Random random, boolean wild, int below) {
        return wild && random.nextInt(3) == 0 ? EDGES[random.nextInt(EDGES.length)] : random.nextInt(below);
    }

    private static void call(CallAgents x, Random random, boolean wild) {
        int agent = number(random, wild, 2);
        int i = number(random, wild, Math.max(1, x.flying()));
        switch (random.nextInt(14)) {
            case 0 -> x.media(agent, number(random, wild, 70000), number(random, wild, 300));
            case 1 -> x.invite(agent);
            case 2 -> x.accept(agent);
            case 3 -> x.hang(agent);
            case 4 -> {
                if (random.nextInt(4) == 0) {
                    x.refuse(agent);
                }
            }
            case 5, 6, 7 -> x.bring(i);
            case 8 -> x.twice(i);
            case 9 -> x.lose(i);
            case 10 -> x.pass(1 + number(random, wild, random.nextInt(20) == 0 ? 100000 : 600));
            case 11 -> x.sign(i, number(random, wild, 300));
            case 12 -> x.line(agent, number(random, wild, 4), number(random, wild, 12));
            default -> anyText(x, random, agent);
        }
    }

    /** A message of the flight with some signs put otherwise, or just any signs. */
    private static void anyText(CallAgents x, Random random, int agent) {
        StringBuilder text = new StringBuilder(x.flying() > 0 ? Check.text(x, random.nextInt(x.flying())) : "INVITE");
        int changes = random.nextInt(3);
        for (int n = 0; n < changes; n++) {
            text.setCharAt(random.nextInt(text.length()), (char) (random.nextInt(8) == 0 ? 10 : 32 + random.nextInt(95)));
        }
        boolean whole = changes == 0 && x.flying() > 0;
        if (random.nextInt(6) == 0) {
            text.setLength(random.nextInt(text.length()));
            whole = false;
        }
        int answer = Check.inject(x, agent, text.toString());
        if (agent < 0 || agent > 1) {
            Check.due("no agent", answer, CallAgents.NONE);
            x.inject(0);
        } else {
            Check.due("a wrong sign of the text", answer == 0 || (answer <= -10 && answer >= -10 - text.length()), true);
            Check.due("a message as it was written", !whole || answer == 0, true);
        }
    }

    private static void whatFliesIsAMessage(CallAgents x) {
        CallAgents y = new CallAgents();
        for (int i = 0; i < x.flying(); i++) {
            String text = Check.text(x, i);
            Check.due(text, Check.inject(y, 0, text), 0);
        }
    }
}
