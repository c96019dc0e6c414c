import java.util.Random;
import java.util.regex.Matcher;

/**
 * Runs of calls against the model: bad links, both agents calling, messages from outside that nearly fit. An object has
 * 512 calls, so a run keeps some of them for a look at its end: at the agents, the lines agreed, or a text.
 */
final class ModelTest {
    private static final int RUNS = 6000, CALLS = 512, LONGEST = 260, TOLD = 19;
    private static final String[] STARTS = {"INVITE", "ACK", "BYE", "180 Ringing", "200 OK", "486 Busy", "481 Gone"};
    private static final String[] BODIES = {"", "", "m=9 1 0 1 7\n", "m=0 1\nm=7 2 1 1\n",
        "m=1 0\nm=2 1 3 7\nm=65535 5 1\n"};

    private final CallAgents x = new CallAgents();
    private final Model model = new Model();
    private final Random random;
    private String name;
    private int calls;

    private ModelTest(long seed) {
        random = new Random(seed);
        name = "run " + seed;
    }

    public static void main(String[] args) {
        int seen = 0;
        for (int seed = 0; seed < RUNS; seed++) {
            ModelTest run = new ModelTest(seed);
            run.run(seed % 3);
            seen |= 1 << run.model.agents[0].state | 1 << run.model.agents[1].state;
        }
        Check.due("all states were seen", seen, 1023);
        Check.finish("ModelTest");
    }

    private void run(int look) {
        int last = CALLS - TOLD - (look == 0 ? 0 : LONGEST);
        last = random.nextBoolean() ? last : 1 + random.nextInt(last);
        boolean fromOutside = random.nextBoolean();
        while (calls < last) {
            calls++;
            step(fromOutside && calls + LONGEST < last);
        }
        for (int agent = 0; agent < 2; agent++) {
            Check.told(name, x, agent, model.agents[agent].told());
        }
        Check.due(name + ": flying()", x.flying(), model.flight.size());
        if (look == 1 && !model.flight.isEmpty()) {
            int i = random.nextInt(model.flight.size());
            Check.due(name + ": message " + i, Check.text(x, i), model.flight.get(i));
        }
        if (look == 2) {
            compareLines(0);
            compareLines(1);
        }
    }

    private void compareLines(int agent) {
        for (int i = 0; i < model.agents[agent].agreed.size(); i++) {
            String[] words = model.agents[agent].agreed.get(i).substring(2).split(" ");
            int[] formats = new int[words.length - 1];
            for (int f = 0; f < formats.length; f++) {
                formats[f] = Integer.parseInt(words[f + 1]);
            }
            Check.agreed(name, x, agent, i, Integer.parseInt(words[0]), formats);
        }
    }

    /** The answer of a call, and that of the model. */
    private void due(String call, int got, int want) {
        Check.due(name + ", call " + calls + ": " + call, got, want);
    }

    private void due(String call, boolean got, boolean want) {
        Check.due(name + ", call " + calls + ": " + call, got, want);
    }

    private void step(boolean hasTimeForText) {
        int agent = random.nextInt(2);
        Model.Agent one = model.agents[agent];
        switch (random.nextInt(hasTimeForText ? 20 : 19)) {
            case 0 -> media(agent, one);
            case 1, 2 -> due("invite(" + agent + ")", x.invite(agent), one.invite());
            case 3, 4, 5 -> due("accept(" + agent + ")", x.accept(agent), one.accept());
            case 6 -> due("refuse(" + agent + ")", x.refuse(agent), one.refuse());
            case 7 -> due("hang(" + agent + ")", x.hang(agent), one.hang());
            case 8, 9 -> pass(random.nextInt(12) == 0 ? 1 + random.nextInt(40000) : 100 * (1 + random.nextInt(8)));
            case 19 -> inject(agent);
            default -> move(random.nextInt(Math.max(1, random.nextBoolean() ? model.flight.size() : 3)));
        }
    }

    private void pass(int time) {
        model.pass(time);
        due("pass(" + time + ")", x.pass(time), model.time);
    }

    private void media(int agent, Model.Agent one) {
        int port = 1 + random.nextInt(65535);
        int formats = 1 + random.nextInt(255);
        boolean room = one.own.size() < 3;
        if (room) {
            one.media(port, formats);
        }
        due("media(" + agent + ", " + port + ", " + formats + ")", x.media(agent, port, formats),
                room ? one.own.size() : CallAgents.BAD);
    }

    private void move(int i) {
        boolean there = i < model.flight.size();
        int way = random.nextInt(8);
        if (there && way == 0) {
            model.flight.remove(i);
        } else if (there && way <= 2) {
            model.twice(i);
        } else if (there) {
            model.bring(i);
        }
        int got = way == 0 ? x.lose(i) : way <= 2 ? x.twice(i) : x.bring(i);
        due((way == 0 ? "lose(" : way <= 2 ? "twice(" : "bring(") + i + ")", got, there ? model.flight.size() : CallAgents.BAD);
    }

    private void inject(int agent) {
        String text = random.nextBoolean() && !model.flight.isEmpty() ? nearly() : fitting(agent);
        due("inject(" + agent + ") of\n" + text, Check.inject(x, agent, text), 0);
        model.agents[agent].receive(text);
        calls += text.length();
    }

    /** A message in flight, one of its numbers put otherwise. */
    private String nearly() {
        String text = model.flight.get(random.nextInt(model.flight.size()));
        Matcher read = Model.read(text);
        String[] groups = {"via", "branch", "from", "fromtag", "to", "totag", "call", "seq"};
        String group = groups[random.nextInt(groups.length)];
        int place = read.start(group);
        boolean agent = group.equals("via") || group.equals("from") || group.equals("to");
        return place < 0 ? text : text.substring(0, place) + random.nextInt(agent ? 2 : 5) + text.substring(read.end(group));
    }

    /** A message with what the agent knows, now and then with something else. */
    private String fitting(int agent) {
        Model.Agent one = model.agents[agent];
        String start = STARTS[random.nextInt(STARTS.length)];
        boolean request = start.indexOf(' ') < 0;
        String method = STARTS[random.nextInt(3)];
        Letter letter = request ? Letter.request(start, agent) : Letter.response(start, method, agent);
        letter.branch(nearly(request ? 1 : one.branch)).call(nearly(one.call)).seq(nearly(one.seq));
        letter.fromTag(nearly(request ? one.otherTag : one.ownTag)).body(BODIES[random.nextInt(BODIES.length)]);
        boolean tagged = random.nextInt(start.equals("INVITE") ? 8 : 2) == 0;
        return (tagged ? letter.toTag(nearly(request ? one.ownTag : one.otherTag)) : letter).text();
    }

    private int nearly(int number) {
        return random.nextInt(6) == 0 ? Math.max(0, number - 1 + random.nextInt(3)) : number;
    }
}
