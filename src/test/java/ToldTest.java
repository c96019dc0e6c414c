/** Promises 15 and 16: told and line. */
final class ToldTest {
    public static void main(String[] args) {
        aWholeCall();
        countsAllSendings();
        wrongOnes();
        lines();
        bothSides();
        branchOfTheLastRequest();
        Check.finish("ToldTest");
    }

    private static void aWholeCall() {
        Check.sentence("0 its state, 1 own tag, 2 the other's, 3 call, 4 SEQ, 5 branch, 6 lines agreed");
        CallAgents x = Check.withMedia();
        x.invite(1);
        Check.told("calling", x, 1, 1, 1, 0, 3, 1, 1, 0, 1, 0);
        x.bring(0);
        Check.told("rings here", x, 0, 5, 1, 1, 3, 0, 0, 0, 1, 0);
        x.bring(0);
        Check.told("rings there", x, 1, 2, 1, 0, 3, 1, 1, 0, 1, 0);
        x.accept(0);
        Check.told("accepted", x, 0, 6, 1, 1, 3, 0, 0, 1, 2, 0);
        x.bring(0);
        Check.told("talking", x, 1, 3, 1, 1, 3, 1, 2, 1, 2, 0);
        x.bring(0);
        Check.told("talking", x, 0, 3, 1, 1, 3, 0, 0, 1, 2, 0);
        x.hang(0);
        Check.told("hanging up", x, 0, 8, 1, 1, 3, 1, 1, 1, 3, 0);
        x.bring(0);
        Check.told("over", x, 1, 9, 1, 1, 3, 1, 2, 1, 3, 0);
        x.bring(0);
        Check.told("over", x, 0, 9, 1, 1, 3, 1, 1, 1, 3, 0);
    }

    private static void countsAllSendings() {
        Check.sentence("7 messages that it sent in all (each time that one was sent)");
        CallAgents x = Check.withMedia();
        for (int n = 0; n < 10; n++) {
            x.invite(0);
            x.pass(32000);
        }
        Check.due("told(0, 7), more than fly", x.told(0, 7), 70);
        Check.due("told(0, 5)", x.told(0, 5), 10);
        Check.due("told(0, 4)", x.told(0, 4), 10);
        Check.due("told(0, 3)", x.told(0, 3), 20);
        Check.due("told(0, 1)", x.told(0, 1), 10);
    }

    private static void wrongOnes() {
        Check.sentence("BAD: none such");
        CallAgents x = Check.talking();
        int[] agents = {-1, 2, Integer.MIN_VALUE, Integer.MAX_VALUE};
        for (int agent : agents) {
            Check.due("told(" + agent + ", 0)", x.told(agent, 0), CallAgents.BAD);
            Check.due("line(" + agent + ", 0, 0)", x.line(agent, 0, 0), CallAgents.BAD);
        }
        int[] whats = {-1, 9, Integer.MIN_VALUE, Integer.MAX_VALUE};
        for (int what : whats) {
            Check.due("told(0, " + what + ")", x.told(0, what), CallAgents.BAD);
        }
        int[] lines = {-1, 2, 3, Integer.MIN_VALUE, Integer.MAX_VALUE};
        for (int i : lines) {
            Check.due("line(0, " + i + ", 0)", x.line(0, i, 0), CallAgents.BAD);
        }
        int[] cells = {-1, 4, 9, 10, 11, Integer.MIN_VALUE, Integer.MAX_VALUE};
        for (int what : cells) {
            Check.due("line(0, 0, " + what + ")", x.line(0, 0, what), CallAgents.BAD);
        }
    }

    private static void bothSides() {
        Check.sentence("Of an agent: 0 its state, .. 8 that came and were dropped. BAD: none such");
        CallAgents x = Check.talking();
        for (int agent = -2; agent <= 3; agent++) {
            for (int what = -2; what <= 12; what++) {
                boolean there = agent >= 0 && agent <= 1 && what >= 0 && what <= 8;
                Check.due("told(" + agent + ", " + what + ")", x.told(agent, what) != CallAgents.BAD, there);
            }
        }
        Check.sentence("Of an agreed line: 0 its port, 1 how many formats, 2 and on these. BAD: none such");
        Letter ok = Letter.response("200 OK", "INVITE", 0).toTag(1).body("m=65535 0 1 2 3 4 5 6 7\nm=0 0\nm=9 7 7 7\n");
        int[] formats = {8, 1, 3};
        for (int agent = -1; agent <= 2; agent++) {
            CallAgents y = Check.ringing();
            Check.comes("200", y, 0, ok, false);
            Check.due("lines", y.told(0, 6), 3);
            for (int i = -1; i <= 4; i++) {
                for (int what = -2; what <= 24; what++) {
                    boolean there = agent == 0 && i >= 0 && i < 3 && what >= 0 && what < 2 + formats[i];
                    Check.due("line(" + agent + ", " + i + ", " + what + ")", y.line(agent, i, what) != CallAgents.BAD, there);
                }
            }
        }
    }

    private static void branchOfTheLastRequest() {
        Check.sentence("BRANCH (that of its last request; 0 before one)");
        CallAgents x = Check.withMedia();
        Check.due("before one", x.told(1, 5), 0);
        x.invite(0);
        Check.due("INVITE", x.told(0, 5), 1);
        x.bring(0);
        Check.due("180 is no request", x.told(1, 5), 0);
        x.bring(0);
        x.accept(1);
        Check.due("200 is no request", x.told(1, 5), 0);
        x.bring(0);
        Check.due("ACK of 200 has a new one", x.told(0, 5), 2);
        x.bring(0);
        x.hang(1);
        Check.due("BYE", x.told(1, 5), 1);
        x.pass(500);
        Check.due("BYE again has the same", x.told(1, 5), 1);
        CallAgents y = Check.ringing();
        y.refuse(1);
        y.bring(0);
        Check.due("ACK of 486 has that of the INVITE", y.told(0, 5), 1);
        y.invite(0);
        Check.due("the next INVITE", y.told(0, 5), 2);
    }

    private static void lines() {
        Check.sentence("Of an agreed line: 0 its port, 1 how many formats, 2 and on these");
        CallAgents x = Check.talking();
        for (int agent = 0; agent < 2; agent++) {
            Check.due("lines", x.told(agent, 6), 2);
            Check.agreed("agreed", x, agent, 0, 5000, 1, 2);
            Check.agreed("not wanted", x, agent, 1, 0, 1, 7);
        }
        CallAgents y = Check.withMedia();
        y.invite(1);
        Letter ok = Letter.response("200 OK", "INVITE", 1).toTag(5).call(3);
        Check.comes("200", y, 1, ok.body("m=65535 7 7 6 5 4 3 2 1\nm=0 0\nm=8 5 5\n"), false);
        Check.agreed("formats that were not offered", y, 1, 0, 65535, 7, 7, 6, 5, 4, 3, 2, 1);
        Check.agreed("lines that were not offered", y, 1, 1, 0, 0);
        Check.agreed("lines that were not offered", y, 1, 2, 8, 5, 5);
        Check.due("lines", y.told(1, 6), 3);
        CallAgents z = Check.ringing();
        Check.comes("200 without media", z, 0, Letter.response("200 OK", "INVITE", 0).toTag(5), false);
        Check.told("nothing is agreed", z, 0, 3, 1, 5, 2, 1, 2, 0, 2, 0);
    }
}
