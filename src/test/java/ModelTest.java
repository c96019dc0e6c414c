import java.util.Random;
import java.util.regex.Matcher;

/** Long runs of calls against the model: bad links, both agents calling, messages from outside that nearly fit. */
final class ModelTest {
    private static final int RUNS = 400, CALLS = 250;
    private static final String[] STARTS = {"INVITE", "ACK", "BYE", "180 Ringing", "200 OK", "486 Busy", "481 Gone"};
    private static final String[] BODIES = {"", "", "m=9 1 0 1 7\n", "m=0 1\nm=7 2 1 1\n", "m=1 0\nm=2 1 3 7\nm=65535 5 1\n"};

    private final CallAgents x = new CallAgents();
    private final Model model = new Model();
    private final Random random;
    private int seen;

    private ModelTest(long seed) {
        random = new Random(seed);
    }

    public static void main(String[] args) {
        int seen = 0;
        for (int seed = 0; seed < RUNS; seed++) {
            ModelTest run = new ModelTest(seed);
            run.run("run " + seed);
            seen |= run.seen;
        }
        Check.due("all states were seen", seen, 1023);
        Check.finish("ModelTest");
    }

    private void run(String name) {
        for (int n = 0; n < CALLS; n++) {
            String call = name + ", call " + n + ": " + step();
            for (int agent = 0; agent < 2; agent++) {
                Check.told(call, x, agent, model.agents[agent].told());
                seen |= 1 << x.told(agent, 0);
            }
            Check.due(call + ": flying()", x.flying(), model.flight.size());
            if (n % 25 == 24) {
                compareTexts(call);
            }
        }
    }

    private void compareTexts(String call) {
        for (int i = 0; i < model.flight.size(); i++) {
            Check.due(call + ": message " + i, Check.text(x, i), model.flight.get(i));
        }
        for (int agent = 0; agent < 2; agent++) {
            for (int i = 0; i < model.agents[agent].agreed.size(); i++) {
                String[] words = model.agents[agent].agreed.get(i).substring(2).split(" ");
                int[] formats = new int[words.length - 1];
                for (int f = 0; f < formats.length; f++) {
                    formats[f] = Integer.parseInt(words[f + 1]);
                }
                Check.agreed(call, x, agent, i, Integer.parseInt(words[0]), formats);
            }
        }
    }

    /** One call on both, and what it was. */
    private String step() {
        int agent = random.nextInt(2);
        Model.Agent one = model.agents[agent];
        int flying = model.flight.size();
        switch (random.nextInt(16)) {
            case 0:
                return media(agent, one);
            case 1, 2:
                Check.due("invite(" + agent + ")", x.invite(agent), one.invite());
                return "invite(" + agent + ")";
            case 3, 4:
                Check.due("accept(" + agent + ")", x.accept(agent), one.accept());
                return "accept(" + agent + ")";
            case 5:
                boolean refuses = random.nextInt(3) == 0;
                Check.due("refuse(" + agent + ")", refuses && x.refuse(agent), refuses && one.refuse());
                return "refuse(" + agent + ")";
            case 6:
                Check.due("hang(" + agent + ")", x.hang(agent), one.hang());
                return "hang(" + agent + ")";
            case 7, 8:
                int time = random.nextInt(12) == 0 ? 1 + random.nextInt(40000) : 100 * (1 + random.nextInt(8));
                model.pass(time);
                Check.due("pass(" + time + ")", x.pass(time), model.time);
                return "pass(" + time + ")";
            case 9, 10:
                return inject(agent);
            default:
                return flying == 0 ? "nothing" : move(random.nextInt(random.nextBoolean() ? flying : Math.min(flying, 3)));
        }
    }

    private String media(int agent, Model.Agent one) {
        int port = 1 + random.nextInt(65535);
        int formats = 1 + random.nextInt(255);
        boolean room = one.own.size() < 3;
        if (room) {
            one.media(port, formats);
        }
        Check.due("media(" + agent + ", " + port + ", " + formats + ")", x.media(agent, port, formats),
                room ? one.own.size() : CallAgents.BAD);
        return "media(" + agent + ", " + port + ", " + formats + ")";
    }

    private String move(int i) {
        switch (random.nextInt(8)) {
            case 0:
                model.flight.remove(i);
                Check.due("lose(" + i + ")", x.lose(i), model.flight.size());
                return "lose(" + i + ")";
            case 1, 2:
                model.twice(i);
                Check.due("twice(" + i + ")", x.twice(i), model.flight.size());
                return "twice(" + i + ")";
            default:
                model.bring(i);
                Check.due("bring(" + i + ")", x.bring(i), model.flight.size());
                return "bring(" + i + ")";
        }
    }

    private String inject(int agent) {
        String text = random.nextBoolean() && !model.flight.isEmpty() ? nearly() : fitting(agent);
        Check.due("inject(" + agent + ")", Check.inject(x, agent, text), 0);
        model.agents[agent].receive(text);
        return "inject(" + agent + ") of\n" + text;
    }

    /** A message in flight, one of its numbers put otherwise. */
    private String nearly() {
        String text = model.flight.get(random.nextInt(model.flight.size()));
        Matcher read = Model.read(text);
        String[] groups = {"via", "branch", "from", "fromtag", "to", "totag", "call", "seq"};
        String group = groups[random.nextInt(groups.length)];
        int place = read.start(group);
        boolean agent = group.equals("via") || group.equals("from") || group.equals("to");
        return place < 0 ? text : text.substring(0, place) + random.nextInt(agent ? 2 : 5) + text.substring(read.end(group));
    }

    /** A message with what the agent knows, now and then with something else. */
    private String fitting(int agent) {
        Model.Agent one = model.agents[agent];
        String start = STARTS[random.nextInt(STARTS.length)];
        boolean request = start.indexOf(' ') < 0;
        String method = STARTS[random.nextInt(3)];
        Letter letter = request ? Letter.request(start, agent) : Letter.response(start, method, agent);
        letter.branch(nearly(request ? 1 : one.branch)).call(nearly(one.call)).seq(nearly(one.seq));
        letter.fromTag(nearly(request ? one.otherTag : one.ownTag)).body(BODIES[random.nextInt(BODIES.length)]);
        boolean tagged = random.nextInt(start.equals("INVITE") ? 8 : 2) == 0;
        return (tagged ? letter.toTag(nearly(request ? one.ownTag : one.otherTag)) : letter).text();
    }

    private int nearly(int number) {
        return random.nextInt(6) == 0 ? Math.max(0, number - 1 + random.nextInt(3)) : number;
    }
}
