/** Promise 2: media. */
final class MediaTest {
    public static void main(String[] args) {
        counts();
        wrongOnes();
        offered();
        lateLineIsInTheAnswer();
        eachBoundary();
        theFourthChangesNothing();
        Check.finish("MediaTest");
    }

    private static void counts() {
        Check.sentence("One more line of an agent's own media: how many it has. BAD: .. it has 3");
        CallAgents x = new CallAgents();
        Check.due("media(0, 1, 1)", x.media(0, 1, 1), 1);
        Check.due("media(0, 65535, 255)", x.media(0, 65535, 255), 2);
        Check.due("media(1, 9, 128): each its own", x.media(1, 9, 128), 1);
        Check.due("media(0, 1, 1): the same again", x.media(0, 1, 1), 3);
        Check.due("media: a fourth", x.media(0, 1, 1), CallAgents.BAD);
        Check.due("media(1, 9, 128)", x.media(1, 9, 128), 2);
    }

    private static void wrongOnes() {
        Check.sentence("BAD: none such");
        CallAgents x = new CallAgents();
        int[][] wrong = {{-1, 1, 1}, {2, 1, 1}, {0, 0, 1}, {0, -1, 1}, {0, 65536, 1}, {0, 1, 0}, {0, 1, 256},
            {0, 1, -1}, {Integer.MIN_VALUE, 1, 1}, {0, Integer.MAX_VALUE, 1}, {0, 1, Integer.MIN_VALUE}};
        for (int[] w : wrong) {
            Check.due("media(" + w[0] + ", " + w[1] + ", " + w[2] + ")", x.media(w[0], w[1], w[2]), CallAgents.BAD);
        }
        Check.due("media: none of the wrong ones counts", x.media(0, 1, 1), 1);
    }

    private static void offered() {
        Check.sentence("OFFER: its own media, formats rising");
        CallAgents x = new CallAgents();
        x.media(0, 65535, 255);
        x.media(0, 1, 128 + 8 + 1);
        x.media(0, 20, 2);
        x.media(0, 30, 4);
        x.invite(0);
        String text = Check.text(x, 0);
        Check.due("the offer", text.substring(text.indexOf("Content-Length")),
                "Content-Length: 41\n\nm=65535 0 1 2 3 4 5 6 7\nm=1 0 3 7\nm=20 1\n");
    }

    /** Each limit of a line, just inside and just outside, for both agents. */
    private static void eachBoundary() {
        for (int agent = 0; agent < 2; agent++) {
            Check.sentence("each with a port 1 .. 65,535");
            isOwn(agent, 0, 1, false);
            isOwn(agent, 1, 1, true);
            isOwn(agent, 65535, 1, true);
            isOwn(agent, 65536, 1, false);
            Check.sentence("and formats 1 .. 255 as bits");
            isOwn(agent, 1, 0, false);
            isOwn(agent, 1, 255, true);
            isOwn(agent, 1, 256, false);
            isOwn(agent, 1, 257, false);
            for (int format = 0; format < 8; format++) {
                isOwn(agent, 9, 1 << format, true);
            }
        }
        Check.sentence("BAD: none such");
        isOwn(-1, 1, 1, false);
        isOwn(2, 1, 1, false);
    }

    /** Taken as the first line of its own and offered so, or not taken: then there is nothing to invite with. */
    private static void isOwn(int agent, int port, int formats, boolean taken) {
        CallAgents x = new CallAgents();
        String call = "media(" + agent + ", " + port + ", " + formats + ")";
        Check.due(call, x.media(agent, port, formats), taken ? 1 : CallAgents.BAD);
        Check.due(call + ", invite(0)", x.invite(0), taken && agent == 0);
        Check.due(call + ", invite(1)", x.invite(1), taken && agent == 1);
        StringBuilder line = new StringBuilder("\n\nm=" + port);
        for (int format = 0; format < 8; format++) {
            line.append((formats >> format & 1) == 1 ? " " + format : "");
        }
        Check.due(call + ": the offer", Check.text(x, 0).endsWith(line + "\n"), taken);
    }

    private static void theFourthChangesNothing() {
        Check.sentence("BAD: .. it has 3; at most 3 lines");
        for (int agent = 0; agent < 2; agent++) {
            CallAgents x = new CallAgents();
            for (int n = 1; n <= 3; n++) {
                Check.due("media, line " + n, x.media(agent, n, 1 << n), n);
            }
            for (int n = 4; n <= 6; n++) {
                Check.due("media, line " + n, x.media(agent, n, 1), CallAgents.BAD);
            }
            Check.due("the other one has none", x.media(1 - agent, 1, 1), 1);
            x.invite(agent);
            Check.due("three are offered", Check.text(x, 0).endsWith("\n\nm=1 1\nm=2 2\nm=3 3\n"), true);
        }
    }

    private static void lateLineIsInTheAnswer() {
        Check.sentence("One more line of an agent's own media");
        CallAgents x = Check.ringing();
        Check.due("media while it rings", x.media(1, 6000, 128), 2);
        x.accept(1);
        Check.agreed("a late line", x, 1, 1, 6000, 7);
    }
}
