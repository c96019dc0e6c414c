import java.util.ArrayList;
import java.util.List;

/** Promises 7 to 10: bring, twice, lose and flying. */
final class FlightTest {
    private static final String INVITE = "INVITE sip:1 SIP/2.0", RINGING = "SIP/2.0 180 Ringing", BUSY = "SIP/2.0 486 Busy";
    private static final String VIA = "\nVia: SIP/2.0/UDP 0;branch=z9hG4bK";
    /** The beginning of a 486 to the first INVITE of agent 0. */
    private static final String BUSY_TAG = BUSY + VIA + "1\nFrom: <sip:0>;tag=1\nTo: <sip:1>;tag=";

    public static void main(String[] args) {
        bring();
        twice();
        lose();
        noneSuch();
        noMoreThanSixty();
        bringInAFullFlight();
        twiceInAFullFlight();
        theOldestIsLost();
        sixtyAndOneMore();
        nothingInFlight();
        eachOfSixty();
        Check.finish("FlightTest");
    }

    /** Eight INVITEs of calls 2 to 16 that all gave up, only the first sending of each in flight. */
    private static CallAgents eightCalls() {
        CallAgents x = Check.withMedia();
        for (int n = 0; n < 8; n++) {
            x.invite(0);
            x.pass(32000);
            while (x.flying() > n + 1) {
                x.lose(n + 1);
            }
        }
        return x;
    }

    /** The signs of message i from one on, up to its line's end: few calls, since an object has only 512. */
    private static String piece(CallAgents x, int i, int from) {
        StringBuilder piece = new StringBuilder();
        for (int sign = x.sign(i, from); sign >= 32; sign = x.sign(i, from + piece.length())) {
            piece.append((char) sign);
        }
        return piece.toString();
    }

    /** The branch that an INVITE of agent 0, or the response to one, names. */
    private static String branchOf(CallAgents x, int i) {
        String start = x.sign(i, 0) == 'I' ? INVITE : x.sign(i, 8) == '1' ? RINGING : BUSY;
        return piece(x, i, start.length() + VIA.length());
    }

    private static String branches(CallAgents x) {
        List<String> branches = new ArrayList<>();
        int count = x.flying();
        for (int i = 0; i < count; i++) {
            branches.add(branchOf(x, i));
        }
        return String.join(" ", branches);
    }

    private static void bring() {
        Check.sentence("Message i in flight comes to its agent, and is no more in flight: how many are then");
        CallAgents x = eightCalls();
        Check.due("bring(3)", x.bring(3), 8);
        Check.due("it is gone, the answer comes behind", branches(x), "1 2 3 5 6 7 8 4");
        Check.due("the 180", Check.text(x, 7), "SIP/2.0 180 Ringing\n"
                + "Via: SIP/2.0/UDP 0;branch=z9hG4bK4\nFrom: <sip:0>;tag=4\nTo: <sip:1>;tag=1\nCall-ID: 8\n"
                + "CSeq: 4 INVITE\nContent-Length: 0\n\n");
        Check.due("it came", x.told(1, 0), 5);
        Check.due("bring(7): dropped", x.bring(7), 7);
        Check.due("it came to agent 0", x.told(0, 8), 1);
        Check.due("none lost", branches(x), "1 2 3 5 6 7 8");
    }

    private static void twice() {
        Check.sentence("The same, but it stays in flight, too");
        CallAgents x = eightCalls();
        Check.due("twice(3)", x.twice(3), 9);
        Check.due("it stays", branches(x), "1 2 3 4 5 6 7 8 4");
        Check.due("it came", x.told(1, 0), 5);
        Check.due("twice(3) again", x.twice(3), 10);
        Check.due("its last response again", piece(x, 9, 0), RINGING);
        Check.due("twice(8): dropped", x.twice(8), 10);
        Check.due("it came to agent 0", x.told(0, 8), 1);
        Check.due("it stays", branches(x), "1 2 3 4 5 6 7 8 4 4");
    }

    private static void lose() {
        Check.sentence("Message i in flight is lost: how many are then");
        CallAgents x = eightCalls();
        Check.due("lose(7)", x.lose(7), 7);
        Check.due("lose(0)", x.lose(0), 6);
        Check.due("lose(2)", x.lose(2), 5);
        Check.due("these are left", branches(x), "2 3 5 6 7");
        Check.due("flying()", x.flying(), 5);
        Check.told("nothing came", x, 1, 0, 0, 0, 0, 0, 0, 0, 0, 0);
        x.invite(0);
        Check.due("a new one comes behind", branches(x), "2 3 5 6 7 9");
    }

    private static void noneSuch() {
        Check.sentence("BAD: none such");
        CallAgents x = eightCalls();
        int[] wrong = {-1, 8, 60, Integer.MIN_VALUE, Integer.MAX_VALUE};
        for (int i : wrong) {
            Check.due("bring(" + i + ")", x.bring(i), CallAgents.BAD);
            Check.due("twice(" + i + ")", x.twice(i), CallAgents.BAD);
            Check.due("lose(" + i + ")", x.lose(i), CallAgents.BAD);
        }
        Check.due("all are left", branches(x), "1 2 3 4 5 6 7 8");
    }

    /** Nine calls with seven sendings each are 63. */
    private static CallAgents full() {
        CallAgents x = Check.withMedia();
        for (int n = 0; n < 9; n++) {
            x.invite(0);
            x.pass(32000);
        }
        return x;
    }

    private static void noMoreThanSixty() {
        Check.sentence("of more than 60 the oldest is lost");
        CallAgents x = full();
        Check.due("flying()", x.flying(), 60);
        Check.due("all were sent", x.told(0, 7), 63);
        Check.due("the oldest were lost", branchOf(x, 3), "1");
        Check.due("the oldest were lost", branchOf(x, 4), "2");
        Check.due("the newest is the last", branchOf(x, 59), "9");
        Check.due("there is no 61st", x.sign(60, 0), CallAgents.BAD);
        Check.due("bring(60)", x.bring(60), CallAgents.BAD);
    }

    /** Eight single ones and eight times seven are 64. */
    private static void theOldestIsLost() {
        CallAgents x = eightCalls();
        for (int n = 0; n < 8; n++) {
            x.invite(0);
            x.pass(32000);
        }
        Check.due("flying()", x.flying(), 60);
        Check.due("four are lost", branchOf(x, 0) + " " + branchOf(x, 1) + " " + branchOf(x, 4), "5 6 9");
    }

    /** Eight times seven and four more sendings are just 60: the first call's seven are all there. */
    private static CallAgents sixty() {
        CallAgents x = Check.withMedia();
        for (int n = 0; n < 8; n++) {
            x.invite(0);
            x.pass(32000);
        }
        x.invite(0);
        x.pass(3500);
        return x;
    }

    private static void isFull(String what, CallAgents x, String seventh, String last) {
        Check.due(what + ": flying()", x.flying(), 60);
        Check.due(what + ": message 6 is of branch", branchOf(x, 6), seventh);
        Check.due(what + ": the last one", piece(x, 59, 0), last);
    }

    private static void sixtyAndOneMore() {
        Check.sentence("new ones come behind the others; of more than 60 the oldest is lost");
        CallAgents x = sixty();
        isFull("just 60", x, "1", INVITE);
        x.pass(4000);
        isFull("61, by a timer", x, "2", INVITE);
        x.lose(59);
        Check.due("59", x.flying(), 59);
        x.invite(1);
        isFull("60 again", x, "2", "INVITE sip:0 SIP/2.0");
        CallAgents y = sixty();
        y.invite(1);
        isFull("61, by a call", y, "2", "INVITE sip:0 SIP/2.0");
        CallAgents z = sixty();
        Check.comes("a BYE", z, 1, Letter.request("BYE", 1), false);
        isFull("61, by a response", z, "2", "SIP/2.0 481 Gone");
        CallAgents v = sixty();
        Check.due("bring(0)", v.bring(0), 60);
        isFull("one gone and one more", v, "2", RINGING);
        CallAgents w = sixty();
        Check.due("twice(59)", w.twice(59), 60);
        isFull("it stays and one more", w, "2", RINGING);
        Check.due("it stays", piece(w, 58, 0), INVITE);
        CallAgents d = sixty();
        Check.comes("INVITE with a To tag", d, 1, Letter.request("INVITE", 1).toTag(1), true);
        isFull("still 60", d, "1", INVITE);
    }

    /** Two INVITEs, and so many 486 to one of them that come behind: these have the tags 2, 3, 4 and on. */
    private static CallAgents allDistinct(int busy) {
        CallAgents x = Check.withMedia();
        x.invite(1);
        x.invite(0);
        for (int n = 0; n < busy; n++) {
            x.twice(1);
        }
        return x;
    }

    /** A message in few signs: the tag of a 486, or of an INVITE the agent that it goes to. */
    private static String shortly(CallAgents x, int i) {
        if (x.sign(i, 0) == 'I') {
            return "to " + (char) x.sign(i, 11);
        }
        return piece(x, i, BUSY_TAG.length());
    }

    private static List<String> allShortly(CallAgents x) {
        List<String> all = new ArrayList<>();
        int count = x.flying();
        for (int i = 0; i < count; i++) {
            all.add(shortly(x, i));
        }
        return all;
    }

    private static List<String> due(int busy) {
        List<String> all = new ArrayList<>(List.of("to 0", "to 1"));
        for (int tag = 2; tag < 2 + busy; tag++) {
            all.add("" + tag);
        }
        return all;
    }

    private static void eachOfSixty() {
        for (int i = 0; i < 60; i++) {
            Check.sentence("Message i in flight is lost: how many are then");
            List<String> due = due(58);
            due.remove(i);
            CallAgents x = allDistinct(58);
            Check.due("lose(" + i + ") of 60", x.lose(i), 59);
            Check.due("the others stay as they were", allShortly(x).toString(), due.toString());
            if (i >= 2) {
                Check.sentence("Message i in flight comes to its agent, and is no more in flight");
                CallAgents y = allDistinct(58);
                Check.due("bring(" + i + ") of 60, answered by ACK", y.bring(i), 60);
                Check.due("the ACK is the last one", y.sign(59, 0), 'A');
                y.lose(59);
                Check.due("the others stay as they were", allShortly(y).toString(), due.toString());
            }
        }
        Check.sentence("new ones come behind the others; of more than 60 the oldest is lost");
        for (int busy = 55; busy <= 59; busy++) {
            List<String> due = due(busy);
            CallAgents x = allDistinct(busy);
            Check.due(busy + 2 + " were sent", allShortly(x).toString(), due.subList(Math.max(0, busy - 58), busy + 2).toString());
        }
    }

    private static void nothingInFlight() {
        Check.sentence("BAD: none such");
        CallAgents x = Check.withMedia();
        for (int i = -1; i <= 1; i++) {
            Check.due("bring(" + i + ")", x.bring(i), CallAgents.BAD);
            Check.due("twice(" + i + ")", x.twice(i), CallAgents.BAD);
            Check.due("lose(" + i + ")", x.lose(i), CallAgents.BAD);
            Check.due("sign(" + i + ", 0)", x.sign(i, 0), CallAgents.BAD);
        }
        x.invite(0);
        Check.due("bring(1) of one", x.bring(1), CallAgents.BAD);
        Check.due("twice(1) of one", x.twice(1), CallAgents.BAD);
        Check.due("lose(1) of one", x.lose(1), CallAgents.BAD);
        Check.due("none of these came", x.told(1, 0), 0);
        Check.due("lose(0) of one", x.lose(0), 0);
        Check.due("lose(0) again", x.lose(0), CallAgents.BAD);
        Check.due("bring(0) of none", x.bring(0), CallAgents.BAD);
        CallAgents full = sixty();
        Check.due("sign(59, 0) of 60", full.sign(59, 0), 'I');
        Check.due("sign(60, 0) of 60", full.sign(60, 0), CallAgents.BAD);
        Check.due("lose(60) of 60", full.lose(60), CallAgents.BAD);
        Check.due("twice(60) of 60", full.twice(60), CallAgents.BAD);
        Check.due("lose(59) of 60", full.lose(59), 59);
        Check.due("bring(59) of 59", full.bring(59), CallAgents.BAD);
    }

    private static void bringInAFullFlight() {
        CallAgents x = full();
        Check.due("bring(59)", x.bring(59), 60);
        Check.due("none was lost for the answer", branchOf(x, 0) + branchOf(x, 3) + branchOf(x, 4), "112");
        Check.due("the 180", piece(x, 59, 0), RINGING);
    }

    private static void twiceInAFullFlight() {
        CallAgents x = full();
        Check.due("twice(0)", x.twice(0), 60);
        Check.due("the one that came was the oldest, and was lost", branchOf(x, 2) + branchOf(x, 3), "12");
        Check.due("the 180 to it", Check.text(x, 59), "SIP/2.0 180 Ringing\n"
                + "Via: SIP/2.0/UDP 0;branch=z9hG4bK1\nFrom: <sip:0>;tag=1\nTo: <sip:1>;tag=1\nCall-ID: 2\n"
                + "CSeq: 1 INVITE\nContent-Length: 0\n\n");
        Check.due("it came", x.told(1, 0), 5);
    }
}
