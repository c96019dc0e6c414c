/** What an agent does with each thing that comes to it (the document's Terms, behind promises 7, 8 and 13). */
final class IncomingTest {
    private static final String RINGING = "180 Ringing", OK = "200 OK", BUSY = "486 Busy", GONE = "481 Gone";

    public static void main(String[] args) {
        addresses();
        inviteToAFreeOne();
        theSameInvite();
        anotherInvite();
        ack();
        bye();
        otherByes();
        ringing();
        okToInvite();
        okAgain();
        busyToInvite();
        busyAgain();
        endOfBye();
        Check.finish("IncomingTest");
    }

    private static CallAgents calling() {
        CallAgents x = Check.withMedia();
        x.invite(0);
        x.lose(0);
        return x;
    }

    /** Agent 1 was called by an INVITE of branch 1, call 2, tag 1, SEQ 1. */
    private static CallAgents accepted() {
        CallAgents x = Check.ringing();
        x.accept(1);
        x.lose(0);
        return x;
    }

    private static CallAgents refused() {
        CallAgents x = Check.ringing();
        x.refuse(1);
        x.lose(0);
        return x;
    }

    private static void stays(String what, CallAgents x, int agent, Letter letter) {
        int state = x.told(agent, 0);
        int flying = x.flying();
        Check.comes(what, x, agent, letter, true);
        Check.due(what + ": state", x.told(agent, 0), state);
        Check.due(what + ": flying", x.flying(), flying);
    }

    private static void becomes(String what, CallAgents x, int agent, Letter letter, int state) {
        Check.comes(what, x, agent, letter, false);
        Check.due(what + ": state", x.told(agent, 0), state);
    }

    private static void addresses() {
        for (String method : new String[] {"INVITE", "BYE", "ACK"}) {
            for (int agent = 0; agent < 2; agent++) {
                CallAgents x = new CallAgents();
                stays(method + ", first line", x, agent,
                        Letter.request(method, agent).start(method + " sip:" + (1 - agent) + " SIP/2.0"));
                stays(method + ", To", x, agent, Letter.request(method, agent).to(1 - agent));
                stays(method + ", Via", x, agent, Letter.request(method, agent).via(agent));
                stays(method + ", From", x, agent, Letter.request(method, agent).from(agent));
            }
        }
        CallAgents y = calling();
        stays("180, Via", y, 0, Letter.response(RINGING, "INVITE", 0).via(1));
        stays("180, From", y, 0, Letter.response(RINGING, "INVITE", 0).from(1));
        stays("180, To", y, 0, Letter.response(RINGING, "INVITE", 0).to(0));
        stays("200, To", y, 0, Letter.response(OK, "INVITE", 0).to(0).toTag(1));
        stays("486, Via", y, 0, Letter.response(BUSY, "INVITE", 0).via(1));
        becomes("180", y, 0, Letter.response(RINGING, "INVITE", 0), 2);
    }

    private static void inviteToAFreeOne() {
        CallAgents x = Check.talking();
        x.hang(1);
        Check.bringAll(x);
        Check.told("before", x, 1, 9, 1, 1, 2, 1, 1, 2, 3, 0);
        Letter invite = Letter.request("INVITE", 1).branch(40).fromTag(50).call(60).seq(70).body("m=6 1\n");
        stays("INVITE with a To tag", x, 1, Letter.request("INVITE", 1).toTag(1));
        becomes("INVITE in 9", x, 1, invite, 5);
        Check.told("it rings", x, 1, 5, 2, 50, 60, 1, 1, 0, 4, 1);
        Check.due("nothing is agreed any more", x.line(1, 0, 0), CallAgents.BAD);
        Check.due("the 180", Check.text(x, 0), "SIP/2.0 180 Ringing\n"
                + "Via: SIP/2.0/UDP 0;branch=z9hG4bK40\nFrom: <sip:0>;tag=50\nTo: <sip:1>;tag=2\nCall-ID: 60\n"
                + "CSeq: 70 INVITE\nContent-Length: 0\n\n");
        x.accept(1);
        Check.agreed("the new offer is answered", x, 1, 0, 5000, 1);
        Check.due("lines", x.told(1, 6), 1);
        CallAgents y = calling();
        y.pass(32000);
        becomes("INVITE in 4", y, 0, Letter.request("INVITE", 0).call(3), 5);
        CallAgents z = Check.ringing();
        z.refuse(1);
        Check.bringAll(z);
        becomes("the same INVITE in 9", z, 1, Letter.request("INVITE", 1), 5);
        Check.due("has a new tag", z.told(1, 1), 2);
    }

    private static void theSameInvite() {
        CallAgents x = Check.ringing();
        Letter again = Letter.request("INVITE", 1).fromTag(77).seq(78);
        becomes("again in 5", x, 1, again, 5);
        Check.due("180 again", Check.lastText(x).startsWith("SIP/2.0 180 Ringing\nVia: SIP/2.0/UDP 0;branch=z9hG4bK1\n"
                + "From: <sip:0>;tag=1\nTo: <sip:1>;tag=1\nCall-ID: 2\nCSeq: 1 INVITE\n"), true);
        Check.told("nothing else", x, 1, 5, 1, 1, 2, 0, 0, 0, 2, 0);
        x.accept(1);
        String ok = Check.lastText(x);
        becomes("again in 6", x, 1, again, 6);
        Check.due("200 again", Check.lastText(x), ok);
        CallAgents y = refused();
        Check.comes("another INVITE in between", y, 1, Letter.request("INVITE", 1).branch(2), false);
        becomes("again in 7", y, 1, again, 7);
        Check.due("486 again, with its own tag", Check.lastText(y).startsWith("SIP/2.0 486 Busy\n"
                + "Via: SIP/2.0/UDP 0;branch=z9hG4bK1\nFrom: <sip:0>;tag=1\nTo: <sip:1>;tag=1\n"), true);
        stays("again with a To tag", y, 1, Letter.request("INVITE", 1).toTag(1));
    }

    private static void isBusy(String what, CallAgents x, int agent, Letter invite, int tag) {
        int[] before = new int[9];
        for (int w = 0; w < 9; w++) {
            before[w] = x.told(agent, w);
        }
        before[7]++;
        Check.comes(what, x, agent, invite, false);
        Check.told(what, x, agent, before);
        Check.due(what, Check.lastText(x), "SIP/2.0 486 Busy\n" + "Via: SIP/2.0/UDP " + (1 - agent)
                + ";branch=z9hG4bK4\nFrom: <sip:" + (1 - agent) + ">;tag=5\nTo: <sip:" + agent + ">;tag=" + tag
                + "\nCall-ID: 6\nCSeq: 7 INVITE\nContent-Length: 0\n\n");
    }

    private static Letter another(int agent) {
        return Letter.request("INVITE", agent).branch(4).fromTag(5).call(6).seq(7).body("m=9 1\n");
    }

    private static void anotherInvite() {
        isBusy("another in 1", calling(), 0, another(0), 2);
        isBusy("another in 2", Check.ringing(), 0, another(0), 2);
        CallAgents x = Check.ringing();
        isBusy("another in 5", x, 1, another(1), 2);
        isBusy("and once more", x, 1, another(1), 3);
        x.accept(1);
        Check.agreed("the offer is still the first one", x, 1, 1, 0, 1, 7);
        isBusy("another in 6", accepted(), 1, another(1), 2);
        isBusy("another in 7", refused(), 1, another(1), 2);
        isBusy("another in 3", Check.talking(), 0, another(0), 2);
        CallAgents y = Check.talking();
        isBusy("another in 3", y, 1, another(1), 2);
        y.hang(1);
        isBusy("another in 8", y, 1, another(1), 3);
        CallAgents z = Check.talking();
        becomes("the same in 3 is another, too", z, 1, Letter.request("INVITE", 1), 3);
        Check.due("486", Check.lastText(z).startsWith("SIP/2.0 486 Busy\n"), true);
        CallAgents v = Check.ringing();
        becomes("the same branch of another call", v, 1, Letter.request("INVITE", 1).call(4), 5);
        Check.due("486", Check.lastText(v).startsWith("SIP/2.0 486 Busy\n"), true);
        becomes("another branch of the same call", v, 1, Letter.request("INVITE", 1).branch(2), 5);
        Check.due("486", Check.lastText(v).startsWith("SIP/2.0 486 Busy\n"), true);
        becomes("a new call takes the next tag", v, 1, Letter.request("INVITE", 1), 5);
        v.refuse(1);
        Check.comes("ACK", v, 1, Letter.request("ACK", 1), false);
        becomes("INVITE in 9", v, 1, Letter.request("INVITE", 1), 5);
        Check.due("tags of 486 were counted", v.told(1, 1), 4);
    }

    private static void ack() {
        CallAgents x = accepted();
        stays("ACK of another call", x, 1, Letter.request("ACK", 1).call(3));
        stays("ACK of another SEQ", x, 1, Letter.request("ACK", 1).seq(2));
        becomes("ACK in 6, of any tags and branch", x, 1, Letter.request("ACK", 1).fromTag(8).toTag(9).branch(10), 3);
        stays("ACK in 3", x, 1, Letter.request("ACK", 1));
        CallAgents y = refused();
        becomes("ACK in 7", y, 1, Letter.request("ACK", 1), 9);
        stays("ACK in 9", y, 1, Letter.request("ACK", 1));
        stays("ACK in 5", Check.ringing(), 1, Letter.request("ACK", 1));
        CallAgents z = new CallAgents();
        Check.comes("INVITE of a high SEQ", z, 1, Letter.request("INVITE", 1).seq(500), false);
        z.accept(1);
        stays("ACK of its own SEQ", z, 1, Letter.request("ACK", 1).seq(0));
        becomes("ACK of the INVITE's", z, 1, Letter.request("ACK", 1).seq(500), 3);
    }

    private static Letter goodBye(int agent) {
        return Letter.request("BYE", agent).branch(90).toTag(1).seq(91);
    }

    private static void bye() {
        CallAgents x = Check.talking();
        becomes("BYE in 3", x, 0, goodBye(0), 9);
        Check.due("200", Check.lastText(x), "SIP/2.0 200 OK\n"
                + "Via: SIP/2.0/UDP 1;branch=z9hG4bK90\nFrom: <sip:1>;tag=1\nTo: <sip:0>;tag=1\nCall-ID: 2\n"
                + "CSeq: 91 BYE\nContent-Length: 0\n\n");
        becomes("BYE in 3", Check.talking(), 1, goodBye(1), 9);
        becomes("BYE in 6", accepted(), 1, goodBye(1), 9);
        CallAgents y = Check.talking();
        y.hang(1);
        becomes("BYE in 8", y, 1, goodBye(1).body("m=9 1\n"), 9);
        Check.due("200", Check.lastText(y).startsWith("SIP/2.0 200 OK\n"), true);
        Check.due("agreed media stay", y.told(1, 6), 2);
    }

    private static void isGone(String what, CallAgents x, int agent, Letter bye) {
        int state = x.told(agent, 0);
        becomes(what, x, agent, bye, state);
        Check.due(what + ": 481, else as it came", Check.lastText(x),
                bye.start("SIP/2.0 481 Gone").body("").text());
    }

    private static void otherByes() {
        isGone("BYE in 0", new CallAgents(), 0, goodBye(0));
        isGone("BYE in 0, no tag", new CallAgents(), 1, Letter.request("BYE", 1).body("m=1 1\n"));
        isGone("BYE in 1", calling(), 0, goodBye(0).fromTag(0));
        isGone("BYE in 2", Check.ringing(), 0, goodBye(0).fromTag(0));
        isGone("BYE in 5", Check.ringing(), 1, goodBye(1));
        isGone("BYE in 7", refused(), 1, goodBye(1));
        CallAgents x = Check.talking();
        isGone("BYE of another call", x, 0, goodBye(0).call(3));
        isGone("BYE of another tag of the other", x, 0, goodBye(0).fromTag(2));
        isGone("BYE of another tag of its own", x, 0, goodBye(0).toTag(2));
        isGone("BYE without a To tag", x, 0, Letter.request("BYE", 0));
        becomes("the right BYE", x, 0, goodBye(0), 9);
        isGone("BYE in 9", x, 0, goodBye(0));
        Check.due("all were sent", x.told(0, 7), 2 + 4 + 1 + 1);
    }

    private static void ringing() {
        CallAgents x = calling();
        stays("180 of another branch", x, 0, Letter.response(RINGING, "INVITE", 0).branch(2));
        stays("180 of another call", x, 0, Letter.response(RINGING, "INVITE", 0).call(4));
        stays("180 of another SEQ", x, 0, Letter.response(RINGING, "INVITE", 0).seq(0));
        stays("180 of another tag", x, 0, Letter.response(RINGING, "INVITE", 0).fromTag(2));
        becomes("180 with a To tag and media", x, 0, Letter.response(RINGING, "INVITE", 0).toTag(8).body("m=1 1\n"), 2);
        Check.told("neither is kept", x, 0, 2, 1, 0, 2, 1, 1, 0, 1, 4);
        stays("180 in 2", x, 0, Letter.response(RINGING, "INVITE", 0));
        stays("180 in 3", Check.talking(), 0, Letter.response(RINGING, "INVITE", 0));
        stays("180 in 5", Check.ringing(), 1, Letter.response(RINGING, "INVITE", 1).seq(0));
        becomes("180, only branch, call, SEQ and own tag count", calling(), 0, Letter.response(RINGING, "BYE", 0), 2);
    }

    private static Letter okay() {
        return Letter.response(OK, "INVITE", 0).toTag(8).body("m=3 3\n");
    }

    private static void okToInvite() {
        for (int rings = 0; rings < 2; rings++) {
            CallAgents x = rings == 0 ? calling() : Check.ringing();
            stays("200 of another call", x, 0, okay().call(4));
            stays("200 of another SEQ", x, 0, okay().seq(2));
            stays("200 of another tag", x, 0, okay().fromTag(2));
            stays("200 of a BYE", x, 0, okay().method("BYE"));
            stays("200 of an ACK", x, 0, okay().method("ACK"));
            stays("200 without a To tag", x, 0, Letter.response(OK, "INVITE", 0));
            stays("481 of it", x, 0, Letter.response(GONE, "INVITE", 0).toTag(8));
            becomes("200 of any branch", x, 0, okay().branch(55), 3);
            Check.told("talking", x, 0, 3, 1, 8, 2, 1, 2, 1, 2, 7);
            Check.agreed("as it came", x, 0, 0, 3, 3);
            Check.due("the ACK", Check.lastText(x), "ACK sip:1 SIP/2.0\n"
                    + "Via: SIP/2.0/UDP 0;branch=z9hG4bK2\nFrom: <sip:0>;tag=1\nTo: <sip:1>;tag=8\nCall-ID: 2\n"
                    + "CSeq: 1 ACK\nContent-Length: 0\n\n");
        }
        stays("200 in 0", new CallAgents(), 0, okay().call(0).seq(0).fromTag(0));
    }

    private static void okAgain() {
        CallAgents x = calling();
        Check.comes("200", x, 0, okay(), false);
        String ack = Check.lastText(x);
        stays("200 again, another To tag", x, 0, okay().toTag(9));
        stays("200 again, another call", x, 0, okay().call(9));
        stays("200 again, another SEQ", x, 0, okay().seq(9));
        stays("200 again, another tag", x, 0, okay().fromTag(9));
        stays("486 in 3", x, 0, Letter.response(BUSY, "INVITE", 0).toTag(8));
        Check.due("flying", x.flying(), 1);
        becomes("200 again", x, 0, okay().branch(44).body("m=4 4\n"), 3);
        Check.due("flying", x.flying(), 2);
        Check.due("the ACK as it was", Check.lastText(x), ack);
        Check.told("nothing else", x, 0, 3, 1, 8, 2, 1, 2, 1, 3, 5);
        Check.agreed("still the first answer", x, 0, 0, 3, 3);
        x.hang(0);
        stays("200 of the INVITE in 8", x, 0, okay());
        CallAgents y = Check.talking();
        stays("200 to the one that was called", y, 1, Letter.response(OK, "INVITE", 1).toTag(1).seq(1));
        stays("200 to the one that was called", y, 1, Letter.response(OK, "INVITE", 1).toTag(1).seq(0));
        y.hang(1);
        Check.bringAll(y);
        y.invite(1);
        Check.bringAll(y);
        y.accept(0);
        Check.bringAll(y);
        Check.told("called by the one that it called before", y, 0, 3, 2, 2, 3, 1, 2, 1, 5, 0);
        for (int seq = 1; seq < 3; seq++) {
            stays("200, but it sent no ACK in this call", y, 0,
                    Letter.response(OK, "INVITE", 0).call(3).fromTag(2).toTag(2).seq(seq));
        }
    }

    private static Letter busy() {
        return Letter.response(BUSY, "INVITE", 0);
    }

    private static void busyToInvite() {
        for (int rings = 0; rings < 2; rings++) {
            CallAgents x = rings == 0 ? calling() : Check.ringing();
            stays("486 of another call", x, 0, busy().call(4));
            stays("486 of another SEQ", x, 0, busy().seq(2));
            stays("486 of another tag", x, 0, busy().fromTag(2));
            stays("486 of another branch", x, 0, busy().branch(2));
            stays("486 of a BYE", x, 0, busy().method("BYE"));
            becomes("486", x, 0, rings == 0 ? busy() : busy().toTag(0).body("m=1 1\n"), 4);
            Check.told("ended", x, 0, 4, 1, 0, 2, 1, 1, 0, 2, 5);
            Check.due("the ACK", Check.lastText(x), "ACK sip:1 SIP/2.0\n"
                    + "Via: SIP/2.0/UDP 0;branch=z9hG4bK1\nFrom: <sip:0>;tag=1\nTo: <sip:1>"
                    + (rings == 0 ? "" : ";tag=0") + "\nCall-ID: 2\nCSeq: 1 ACK\nContent-Length: 0\n\n");
        }
        CallAgents y = calling();
        becomes("486 with a To tag", y, 0, busy().toTag(7), 4);
        Check.due("it is not kept", y.told(0, 2), 0);
    }

    private static void busyAgain() {
        CallAgents x = calling();
        Check.comes("486", x, 0, busy().toTag(7), false);
        String ack = Check.lastText(x);
        stays("486 again, another branch", x, 0, busy().branch(3));
        stays("486 again, another tag", x, 0, busy().fromTag(3));
        stays("200 in 4", x, 0, okay());
        becomes("486 again", x, 0, busy(), 4);
        Check.due("the ACK as it was", Check.lastText(x), ack);
        Check.due("sent", x.told(0, 7), 3);
        CallAgents y = calling();
        y.pass(32000);
        stays("486 when no ACK was sent", y, 0, busy());
        CallAgents z = calling();
        Check.comes("486", z, 0, busy(), false);
        z.invite(0);
        z.pass(32000);
        stays("486 of the second call, when no ACK was sent", z, 0, busy().branch(2).call(4).seq(2).fromTag(2));
        stays("486 of the first call", z, 0, busy());
    }

    private static CallAgents hanging() {
        CallAgents x = Check.talking();
        x.hang(0);
        x.lose(0);
        return x;
    }

    private static Letter end(String status) {
        return Letter.response(status, "BYE", 0).branch(3).seq(2);
    }

    private static void endOfBye() {
        for (String status : new String[] {OK, GONE}) {
            CallAgents x = hanging();
            stays(status + " of another branch", x, 0, end(status).branch(2));
            stays(status + " of another call", x, 0, end(status).call(3));
            stays(status + " of another SEQ", x, 0, end(status).seq(1));
            stays(status + " of another method", x, 0, end(status).method("INVITE").toTag(1));
            stays(status + " from the other", x, 0, end(status).via(1));
            becomes(status + " of any tags", x, 0, end(status).fromTag(6).toTag(7).body("m=1 1\n"), 9);
            Check.due("agreed media stay", x.told(0, 6), 2);
            stays(status + " in 9", x, 0, end(status));
            stays(status + " in 3", Check.talking(), 0, end(status).branch(2).seq(1));
        }
        CallAgents y = hanging();
        stays("486 of the BYE", y, 0, end(BUSY));
        stays("180 of the BYE", y, 0, end(RINGING));
    }
}
