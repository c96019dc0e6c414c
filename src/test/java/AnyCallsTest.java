import java.util.ArrayList;
import java.util.List;
import java.util.Random;

/** Runs of 512 calls of any kind: none throws, and what is always true stays true. */
final class AnyCallsTest {
    private static final int[] EDGES = {-1, 0, 1, 2, 3, 8, 9, 59, 60, 500, 65535, 65536, 100000, Integer.MIN_VALUE,
        Integer.MAX_VALUE};
    private static final int CALLS = 512, LONGEST = 260;
    private static final List<String> TEXTS = texts();

    private final CallAgents x = new CallAgents();
    private final Random random;
    private final boolean wild;
    private int calls;

    private AnyCallsTest(long seed, boolean wild) {
        random = new Random(seed);
        this.wild = wild;
    }

    public static void main(String[] args) {
        for (int seed = 0; seed < 6000; seed++) {
            new AnyCallsTest(seed, seed % 3 == 0).run(seed % 2 == 0);
        }
        Check.finish("AnyCallsTest");
    }

    /** A message of each kind, as agents write them. */
    private static List<String> texts() {
        List<String> texts = new ArrayList<>();
        for (Scene scene : Scene.values()) {
            CallAgents x = scene.make();
            x.pass(500);
            x.invite(scene.agent);
            if (x.flying() > 0) {
                texts.add(Check.text(x, 0));
            }
        }
        for (String status : new String[] {"180 Ringing", "481 Gone"}) {
            texts.add(Letter.response(status, "INVITE", 0).toTag(1).text());
        }
        texts.add(Letter.request("ACK", 1).text());
        return texts;
    }

    /** Half of the runs keep some calls for a look at a message in flight. */
    private void run(boolean looksAtText) {
        int last = CALLS - 8 - (looksAtText ? LONGEST : 0);
        while (calls < last) {
            step(calls + LONGEST < last);
            if (random.nextInt(4) == 0) {
                looks();
            }
        }
        looks();
        if (looksAtText) {
            whatFliesIsAMessage();
        }
    }

    private void looks() {
        int agent = random.nextInt(2);
        int state = x.told(agent, 0);
        int lines = x.told(agent, 6);
        int flying = x.flying();
        calls += 3;
        Check.due("a state", state >= 0 && state <= 9, true);
        Check.due("lines", lines >= 0 && lines <= 3, true);
        Check.due("lines are agreed in 3, 6, 8, 9 alone", lines == 0 || state == 3 || state == 6 || state >= 8, true);
        Check.due("flying", flying >= 0 && flying <= 60, true);
    }

    private int number(int below) {
        return wild && random.nextInt(3) == 0 ? EDGES[random.nextInt(EDGES.length)] : random.nextInt(below);
    }

    private void step(boolean hasTimeForText) {
        int agent = number(2);
        int i = number(6);
        calls++;
        switch (random.nextInt(hasTimeForText ? 24 : 23)) {
            case 0, 1 -> x.media(agent, number(70000), number(300));
            case 2, 3 -> x.invite(agent);
            case 4, 5 -> x.accept(agent);
            case 6, 7 -> x.hang(agent);
            case 8 -> x.refuse(agent);
            case 9, 10 -> x.twice(i);
            case 11 -> x.lose(i);
            case 12, 13 -> x.pass(1 + number(random.nextInt(20) == 0 ? 100000 : 600));
            case 14 -> x.sign(i, number(300));
            case 15 -> x.line(agent, number(4), number(12));
            case 16 -> x.told(agent, number(10));
            case 17 -> x.unit(number(128));
            case 18 -> x.inject(agent);
            case 23 -> anyText(agent);
            default -> x.bring(i);
        }
    }

    /** A message with some signs put otherwise, or its beginning. */
    private void anyText(int agent) {
        StringBuilder text = new StringBuilder(TEXTS.get(random.nextInt(TEXTS.size())));
        int changes = random.nextInt(3);
        for (int n = 0; n < changes; n++) {
            text.setCharAt(random.nextInt(text.length()), (char) (random.nextInt(8) == 0 ? 10 : 32 + random.nextInt(95)));
        }
        boolean whole = changes == 0;
        if (random.nextInt(6) == 0) {
            text.setLength(random.nextInt(text.length()));
            whole = false;
        }
        x.inject(0);
        int answer = Check.inject(x, agent, text.toString());
        calls += text.length() + 2;
        if (agent < 0 || agent > 1) {
            Check.due("no agent", answer, CallAgents.NONE);
        } else {
            Check.due("a wrong sign of the text", answer == 0 || (answer <= -10 && answer >= -10 - text.length()), true);
            Check.due("a message as it was written", !whole || answer == 0, true);
        }
    }

    private void whatFliesIsAMessage() {
        int flying = x.flying();
        if (flying > 0) {
            String text = Check.text(x, random.nextInt(flying));
            Check.due(text, Check.inject(new CallAgents(), 0, text), 0);
        }
    }
}
