/** Promises 7 to 10: bring, twice, lose and flying. */
final class FlightTest {
    public static void main(String[] args) {
        bring();
        twice();
        lose();
        noneSuch();
        noMoreThanSixty();
        bringInAFullFlight();
        twiceInAFullFlight();
        theOldestIsLost();
        Check.finish("FlightTest");
    }

    /** Eight INVITEs of calls 2 to 16 that all gave up, only the first sending of each in flight. */
    private static CallAgents eightCalls() {
        CallAgents x = Check.withMedia();
        for (int n = 0; n < 8; n++) {
            x.invite(0);
            x.pass(32000);
            while (x.flying() > n + 1) {
                x.lose(n + 1);
            }
        }
        return x;
    }

    private static String callOf(CallAgents x, int i) {
        String text = Check.text(x, i);
        int from = text.indexOf("Call-ID: ") + 9;
        return text.substring(from, text.indexOf('\n', from));
    }

    private static String calls(CallAgents x) {
        StringBuilder calls = new StringBuilder();
        for (int i = 0; i < x.flying(); i++) {
            calls.append(callOf(x, i)).append(i < x.flying() - 1 ? " " : "");
        }
        return calls.toString();
    }

    private static void bring() {
        CallAgents x = eightCalls();
        Check.due("bring(3)", x.bring(3), 8);
        Check.due("it is gone, the answer comes behind", calls(x), "2 4 6 10 12 14 16 8");
        Check.due("the 180", Check.text(x, 7), "SIP/2.0 180 Ringing\n"
                + "Via: SIP/2.0/UDP 0;branch=z9hG4bK4\nFrom: <sip:0>;tag=4\nTo: <sip:1>;tag=1\nCall-ID: 8\n"
                + "CSeq: 4 INVITE\nContent-Length: 0\n\n");
        Check.due("it came", x.told(1, 0), 5);
        Check.due("bring(7): dropped", x.bring(7), 7);
        Check.due("it came to agent 0", x.told(0, 8), 1);
        Check.due("none lost", calls(x), "2 4 6 10 12 14 16");
    }

    private static void twice() {
        CallAgents x = eightCalls();
        Check.due("twice(3)", x.twice(3), 9);
        Check.due("it stays", calls(x), "2 4 6 8 10 12 14 16 8");
        Check.due("it came", x.told(1, 0), 5);
        Check.due("twice(3) again", x.twice(3), 10);
        Check.due("its last response again", Check.text(x, 9), Check.text(x, 8));
        Check.due("twice(8): dropped", x.twice(8), 10);
        Check.due("it came to agent 0", x.told(0, 8), 1);
        Check.due("it stays", calls(x), "2 4 6 8 10 12 14 16 8 8");
    }

    private static void lose() {
        CallAgents x = eightCalls();
        Check.due("lose(7)", x.lose(7), 7);
        Check.due("lose(0)", x.lose(0), 6);
        Check.due("lose(2)", x.lose(2), 5);
        Check.due("these are left", calls(x), "4 6 10 12 14");
        Check.due("flying()", x.flying(), 5);
        Check.told("nothing came", x, 1, 0, 0, 0, 0, 0, 0, 0, 0, 0);
        x.invite(0);
        Check.due("a new one comes behind", calls(x), "4 6 10 12 14 18");
    }

    private static void noneSuch() {
        CallAgents x = eightCalls();
        int[] wrong = {-1, 8, 60, Integer.MIN_VALUE, Integer.MAX_VALUE};
        for (int i : wrong) {
            Check.due("bring(" + i + ")", x.bring(i), CallAgents.BAD);
            Check.due("twice(" + i + ")", x.twice(i), CallAgents.BAD);
            Check.due("lose(" + i + ")", x.lose(i), CallAgents.BAD);
        }
        Check.due("all are left", calls(x), "2 4 6 8 10 12 14 16");
    }

    /** Nine calls with seven sendings each are 63. */
    private static CallAgents full() {
        CallAgents x = Check.withMedia();
        for (int n = 0; n < 9; n++) {
            x.invite(0);
            x.pass(32000);
        }
        return x;
    }

    private static void noMoreThanSixty() {
        CallAgents x = full();
        Check.due("flying()", x.flying(), 60);
        Check.due("all were sent", x.told(0, 7), 63);
        Check.due("the oldest were lost", callOf(x, 3), "2");
        Check.due("the oldest were lost", callOf(x, 4), "4");
        Check.due("the newest is the last", callOf(x, 59), "18");
        Check.due("there is no 61st", x.sign(60, 0), CallAgents.BAD);
        Check.due("bring(60)", x.bring(60), CallAgents.BAD);
    }

    /** Eight single ones and eight times seven are 64. */
    private static void theOldestIsLost() {
        CallAgents x = eightCalls();
        for (int n = 0; n < 8; n++) {
            x.invite(0);
            x.pass(32000);
        }
        Check.due("flying()", x.flying(), 60);
        Check.due("four are lost", callOf(x, 0) + " " + callOf(x, 1) + " " + callOf(x, 4), "10 12 18");
    }

    private static void bringInAFullFlight() {
        CallAgents x = full();
        Check.due("bring(59)", x.bring(59), 60);
        Check.due("none was lost for the answer", callOf(x, 0) + callOf(x, 3) + callOf(x, 4), "224");
        Check.due("the 180", Check.text(x, 59).startsWith("SIP/2.0 180 Ringing\n"), true);
    }

    private static void twiceInAFullFlight() {
        CallAgents x = full();
        Check.due("twice(0)", x.twice(0), 60);
        Check.due("the one that came was the oldest, and was lost", callOf(x, 2) + callOf(x, 3), "24");
        Check.due("the 180 to it", Check.text(x, 59), "SIP/2.0 180 Ringing\n"
                + "Via: SIP/2.0/UDP 0;branch=z9hG4bK1\nFrom: <sip:0>;tag=1\nTo: <sip:1>;tag=1\nCall-ID: 2\n"
                + "CSeq: 1 INVITE\nContent-Length: 0\n\n");
        Check.due("it came", x.told(1, 0), 5);
    }
}
