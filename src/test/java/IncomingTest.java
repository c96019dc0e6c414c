import java.util.function.Supplier;

/**
 * What an agent does with each thing that comes to it (the document's Terms, behind promises 7, 8 and 13): what it sends,
 * what it keeps, and cases of more than one message. StatesTest and FieldsTest tell when something is taken.
 */
final class IncomingTest {
    private static final String RINGING = "180 Ringing", OK = "200 OK", BUSY = "486 Busy", GONE = "481 Gone";

    public static void main(String[] args) {
        addresses();
        inviteToAFreeOne();
        theSameInvite();
        anotherInvite();
        tagsOfBusy();
        ack();
        bye();
        otherByes();
        ringing();
        okToInvite();
        okAgain();
        okToTheOneCalled();
        busyToInvite();
        busyAgain();
        endOfBye();
        Check.finish("IncomingTest");
    }

    /** Dropped: nothing is sent and nothing is changed. */
    private static void stays(String what, CallAgents x, int agent, Letter letter) {
        int state = x.told(agent, 0);
        int flying = x.flying();
        Check.comes(what, x, agent, letter, true);
        Check.due(what + ": state", x.told(agent, 0), state);
        Check.due(what + ": flying", x.flying(), flying);
    }

    private static CallAgents becomes(String what, CallAgents x, int agent, Letter letter, int state) {
        Check.comes(what, x, agent, letter, false);
        Check.due(what + ": state", x.told(agent, 0), state);
        return x;
    }

    private static String firstLine(CallAgents x, int i) {
        StringBuilder line = new StringBuilder();
        for (int sign = x.sign(i, 0); sign >= 32; sign = x.sign(i, line.length())) {
            line.append((char) sign);
        }
        return line.toString();
    }

    private static void addresses() {
        Check.sentence("a request in whose first line and To is not the agent itself, or in whose Via and From is not"
                + " the other one");
        for (String method : new String[] {"INVITE", "BYE", "ACK"}) {
            for (int agent = 0; agent < 2; agent++) {
                stays(method + ", first line", new CallAgents(), agent,
                        Letter.request(method, agent).start(method + " sip:" + (1 - agent) + " SIP/2.0"));
                stays(method + ", To", new CallAgents(), agent, Letter.request(method, agent).to(1 - agent));
                stays(method + ", Via", new CallAgents(), agent, Letter.request(method, agent).via(agent));
                stays(method + ", From", new CallAgents(), agent, Letter.request(method, agent).from(agent));
                stays(method + ", all of the other", new CallAgents(), agent, Letter.request(method, 1 - agent));
            }
        }
        Check.sentence("a response in whose Via and From is not the agent itself, or in whose To is not the other one");
        for (String status : new String[] {RINGING, OK, BUSY}) {
            stays(status + ", Via", Scene.CALLING.make(), 0, Letter.response(status, "INVITE", 0).toTag(1).via(1));
            stays(status + ", From", Scene.CALLING.make(), 0, Letter.response(status, "INVITE", 0).toTag(1).from(1));
            stays(status + ", To", Scene.CALLING.make(), 0, Letter.response(status, "INVITE", 0).toTag(1).to(0));
            stays(status + ", all of the other", Scene.CALLING.make(), 0, Letter.response(status, "INVITE", 1).toTag(1));
        }
        becomes("180", Scene.CALLING.make(), 0, Letter.response(RINGING, "INVITE", 0), 2);
    }

    private static void inviteToAFreeOne() {
        Check.sentence("call, tag and branch of the other one are known; a new own tag; what is offered is kept, nothing"
                + " is agreed any more; 180 is sent: state 5");
        CallAgents x = Scene.OVER_BY_BYE.make();
        Check.told("before", x, 1, 9, 1, 1, 2, 0, 0, 2, 3, 0);
        Letter invite = Letter.request("INVITE", 1).branch(40).fromTag(50).call(60).seq(70).body("m=6 1\n");
        becomes("INVITE in 9", x, 1, invite, 5);
        Check.told("it rings", x, 1, 5, 2, 50, 60, 0, 0, 0, 4, 0);
        Check.due("nothing is agreed any more", x.line(1, 0, 0), CallAgents.BAD);
        Check.due("the 180", Check.text(x, 0), "SIP/2.0 180 Ringing\n"
                + "Via: SIP/2.0/UDP 0;branch=z9hG4bK40\nFrom: <sip:0>;tag=50\nTo: <sip:1>;tag=2\nCall-ID: 60\n"
                + "CSeq: 70 INVITE\nContent-Length: 0\n\n");
        x.accept(1);
        Check.agreed("the new offer is answered", x, 1, 0, 5000, 1);
        Check.due("lines", x.told(1, 6), 1);
        becomes("INVITE in 4", Scene.GAVE_UP.make(), 0, Letter.request("INVITE", 0).call(3), 5);
        CallAgents z = becomes("the same INVITE in 9", Scene.OVER_BY_ACK.make(), 1, Letter.request("INVITE", 1), 5);
        Check.due("has a new tag", z.told(1, 1), 2);
    }

    private static void theSameInvite() {
        Check.sentence("The same branch and call again, in 5, 6, 7: its last response again");
        String to = "Via: SIP/2.0/UDP 0;branch=z9hG4bK1\nFrom: <sip:0>;tag=1\nTo: <sip:1>;tag=1\nCall-ID: 2\nCSeq: 1 INVITE\n";
        String none = "Content-Length: 0\n\n", answer = "Content-Length: 19\n\nm=5000 1 2\nm=0 1 7\n";
        Letter again = Letter.request("INVITE", 1).fromTag(77).seq(78);
        CallAgents x = becomes("again in 5", Scene.RINGS_HERE.make(), 1, again, 5);
        Check.due("180 again", Check.text(x, 0), "SIP/2.0 180 Ringing\n" + to + none);
        Check.told("nothing else", x, 1, 5, 1, 1, 2, 0, 0, 0, 2, 0);
        CallAgents y = becomes("again in 6", Scene.ACCEPTED.make(), 1, again, 6);
        Check.due("200 again", Check.text(y, 0), "SIP/2.0 200 OK\n" + to + answer);
        CallAgents z = becomes("again in 7", Scene.REFUSED.make(), 1, again, 7);
        Check.due("486 again", Check.text(z, 0), "SIP/2.0 486 Busy\n" + to + none);
        for (Scene scene : new Scene[] {Scene.RINGS_HERE, Scene.ACCEPTED, Scene.REFUSED}) {
            CallAgents v = scene.make();
            Check.comes("another INVITE in between", v, 1, Letter.request("INVITE", 1).branch(2), false);
            Check.loseAll(v);
            becomes("then again", v, 1, again, scene.state);
            String[] last = {RINGING, OK, BUSY};
            String first = "SIP/2.0 " + last[scene.state - 5];
            Check.due("its last response is that to the first one", firstLine(v, 0), first);
            Check.due("with its own tag, not the second one", v.sign(0, first.length() + 1 + to.indexOf("1\nCall-ID")), '1');
        }
    }

    private static void isBusy(String what, Supplier<CallAgents> scene, int agent, int tag) {
        CallAgents x = scene.get();
        int[] before = new int[9];
        for (int w = 0; w < 9; w++) {
            before[w] = x.told(agent, w);
        }
        before[7]++;
        Check.comes(what, x, agent, another(agent), false);
        Check.told(what, x, agent, before);
        Check.due(what, Check.text(x, 0), "SIP/2.0 486 Busy\n" + "Via: SIP/2.0/UDP " + (1 - agent)
                + ";branch=z9hG4bK4\nFrom: <sip:" + (1 - agent) + ">;tag=5\nTo: <sip:" + agent + ">;tag=" + tag
                + "\nCall-ID: 6\nCSeq: 7 INVITE\nContent-Length: 0\n\n");
    }

    private static Letter another(int agent) {
        return Letter.request("INVITE", agent).branch(4).fromTag(5).call(6).seq(7).body("m=9 1\n");
    }

    private static void anotherInvite() {
        Check.sentence("Another INVITE: 486 with a new tag, nothing else");
        for (Scene scene : Scene.values()) {
            if (!scene.isFree()) {
                isBusy("another in " + scene, scene::make, scene.agent, 2);
            }
        }
        CallAgents x = Scene.RINGS_HERE.make();
        Check.comes("another in 5", x, 1, another(1), false);
        x.accept(1);
        Check.agreed("the offer is still the first one", x, 1, 0, 5000, 1, 2);
        Check.agreed("the offer is still the first one", x, 1, 1, 0, 1, 7);
        CallAgents z = becomes("the same in 3 is another, too", Check.talking(), 1, Letter.request("INVITE", 1), 3);
        Check.due("486", firstLine(z, 0), "SIP/2.0 486 Busy");
        CallAgents v = becomes("the same branch of another call", Check.ringing(), 1, Letter.request("INVITE", 1).call(4), 5);
        Check.due("486", firstLine(v, 0), "SIP/2.0 486 Busy");
        CallAgents w = becomes("another branch of the same call", Check.ringing(), 1, Letter.request("INVITE", 1).branch(2), 5);
        Check.due("486", firstLine(w, 0), "SIP/2.0 486 Busy");
    }

    private static void tagsOfBusy() {
        Check.sentence("One number counts .. its tags (0 at first; each new one is one more)");
        CallAgents x = Check.withMedia();
        x.invite(1);
        x.invite(0);
        for (int n = 0; n < 3; n++) {
            x.twice(1);
        }
        Check.due("the own tag stays", x.told(1, 1), 1);
        int tag = "SIP/2.0 486 Busy\nVia: SIP/2.0/UDP 0;branch=z9hG4bK1\nFrom: <sip:0>;tag=1\nTo: <sip:1>;tag=".length();
        for (int n = 0; n < 3; n++) {
            Check.due("the tag of 486", x.sign(2 + n, tag), '2' + n);
        }
        x.pass(32000);
        x.invite(1);
        Check.due("a new call takes the next one", x.told(1, 1), 5);
    }

    private static void ack() {
        Check.sentence("ACK of its call and the SEQ of the INVITE: 6 becomes 3, 7 becomes 9");
        Letter any = Letter.request("ACK", 1).fromTag(8).toTag(9).branch(10).body("m=1 1\n");
        CallAgents x = becomes("ACK in 6, of any tags and branch", Scene.ACCEPTED.make(), 1, any, 3);
        Check.told("nothing else", x, 1, 3, 1, 1, 2, 0, 0, 2, 2, 0);
        Check.due("nothing is sent", x.flying(), 0);
        CallAgents y = becomes("ACK in 7", Scene.REFUSED.make(), 1, any, 9);
        Check.told("nothing else", y, 1, 9, 1, 1, 2, 0, 0, 0, 2, 0);
        CallAgents z = new CallAgents();
        Check.comes("INVITE of a high SEQ", z, 1, Letter.request("INVITE", 1).seq(500), false);
        z.accept(1);
        becomes("ACK of the INVITE's", z, 1, Letter.request("ACK", 1).seq(500), 3);
        CallAgents v = new CallAgents();
        Check.comes("INVITE of a high SEQ", v, 1, Letter.request("INVITE", 1).seq(500), false);
        v.accept(1);
        stays("ACK of its own SEQ", v, 1, Letter.request("ACK", 1).seq(0));
    }

    private static Letter goodBye(int agent) {
        return Letter.request("BYE", agent).branch(90).toTag(1).seq(91);
    }

    private static void bye() {
        Check.sentence("BYE of its call, with both tags, in 3, 6 or 8: 200: state 9");
        CallAgents x = becomes("BYE in 3", Check.talking(), 0, goodBye(0), 9);
        Check.due("200", Check.text(x, 0), "SIP/2.0 200 OK\n"
                + "Via: SIP/2.0/UDP 1;branch=z9hG4bK90\nFrom: <sip:1>;tag=1\nTo: <sip:0>;tag=1\nCall-ID: 2\n"
                + "CSeq: 91 BYE\nContent-Length: 0\n\n");
        Check.told("nothing else", x, 0, 9, 1, 1, 2, 1, 2, 2, 3, 0);
        CallAgents y = becomes("BYE in 8", Scene.HANGING_CALLED.make(), 1, goodBye(1).body("m=9 1\n"), 9);
        Check.due("200", firstLine(y, 0), "SIP/2.0 200 OK");
        Check.due("agreed media stay", y.told(1, 6), 2);
        CallAgents z = becomes("BYE in 6", Scene.ACCEPTED.make(), 1, goodBye(1), 9);
        z.pass(32000);
        Check.due("the timers end", z.told(1, 7), 3);
    }

    private static void isGone(String what, CallAgents x, int agent, Letter bye) {
        int[] before = {x.told(agent, 0), x.told(agent, 1), x.told(agent, 2), x.told(agent, 3), x.told(agent, 4),
            x.told(agent, 5), x.told(agent, 6), x.told(agent, 7) + 1, x.told(agent, 8)};
        Check.comes(what, x, agent, bye, false);
        Check.told(what, x, agent, before);
        Check.due(what + ": 481, else as it came", Check.text(x, 0), bye.start("SIP/2.0 481 Gone").body("").text());
    }

    private static void otherByes() {
        Check.sentence("any other BYE: 481 (To as it came)");
        isGone("BYE in 0", new CallAgents(), 0, goodBye(0));
        isGone("BYE in 0, no tag", new CallAgents(), 1, Letter.request("BYE", 1).body("m=1 1\n"));
        isGone("BYE in 1", Scene.CALLING.make(), 0, goodBye(0).fromTag(0));
        isGone("BYE in 2", Check.ringing(), 0, goodBye(0).fromTag(0));
        isGone("BYE in 5", Check.ringing(), 1, goodBye(1));
        isGone("BYE in 7", Scene.REFUSED.make(), 1, goodBye(1));
        isGone("BYE in 9", Scene.OVER_BY_OK.make(), 0, goodBye(0));
        isGone("BYE of another call", Check.talking(), 0, goodBye(0).call(3));
        isGone("BYE of another tag of the other", Check.talking(), 0, goodBye(0).fromTag(2));
        isGone("BYE of another tag of its own", Check.talking(), 0, goodBye(0).toTag(2));
        isGone("BYE without a To tag", Check.talking(), 0, Letter.request("BYE", 0));
    }

    private static void ringing() {
        Check.sentence("180 of its INVITE (branch, call, SEQ, own tag): 1 becomes 2 (timers end)");
        Letter ringing = Letter.response(RINGING, "INVITE", 0).toTag(8).body("m=1 1\n");
        CallAgents x = becomes("180 with a To tag and media", Scene.CALLING.make(), 0, ringing, 2);
        Check.told("neither is kept", x, 0, 2, 1, 0, 2, 1, 1, 0, 1, 0);
        becomes("180, only branch, call, SEQ and own tag count", Scene.CALLING.make(), 0,
                Letter.response(RINGING, "BYE", 0), 2);
    }

    private static Letter okay() {
        return Letter.response(OK, "INVITE", 0).toTag(8).body("m=3 3\n");
    }

    private static void okToInvite() {
        Check.sentence("the other's tag is known, the media are agreed: ACK is sent (new branch, SEQ of the INVITE): state 3");
        for (Scene scene : new Scene[] {Scene.CALLING, Scene.RINGS_THERE}) {
            CallAgents x = becomes("200 of any branch", scene.make(), 0, okay().branch(55), 3);
            Check.told("talking", x, 0, 3, 1, 8, 2, 1, 2, 1, 2, 0);
            Check.agreed("as it came", x, 0, 0, 3, 3);
            Check.due("the ACK", Check.text(x, 0), "ACK sip:1 SIP/2.0\n"
                    + "Via: SIP/2.0/UDP 0;branch=z9hG4bK2\nFrom: <sip:0>;tag=1\nTo: <sip:1>;tag=8\nCall-ID: 2\n"
                    + "CSeq: 1 ACK\nContent-Length: 0\n\n");
            stays("481 of the INVITE", scene.make(), 0, Letter.response(GONE, "INVITE", 0).toTag(8));
        }
    }

    private static void okAgain() {
        Check.sentence("in 3, with that tag, ACK is sent again as it was");
        Letter again = okay().toTag(1).branch(44).body("m=4 4\n");
        CallAgents x = becomes("200 again", Scene.TALKING_CALLER.make(), 0, again, 3);
        Check.due("the ACK as it was", Check.text(x, 0), "ACK sip:1 SIP/2.0\n"
                + "Via: SIP/2.0/UDP 0;branch=z9hG4bK2\nFrom: <sip:0>;tag=1\nTo: <sip:1>;tag=1\nCall-ID: 2\n"
                + "CSeq: 1 ACK\nContent-Length: 0\n\n");
        Check.told("nothing else", x, 0, 3, 1, 1, 2, 1, 2, 2, 3, 0);
        Check.agreed("still the first answer", x, 0, 0, 5000, 1, 2);
        stays("200 again, another To tag", Scene.TALKING_CALLER.make(), 0, okay().toTag(2));
        stays("486 in 3", Scene.TALKING_CALLER.make(), 0, Letter.response(BUSY, "INVITE", 0).toTag(1));
        stays("200 of the INVITE in 8", Scene.HANGING_CALLER.make(), 0, okay().toTag(1));
    }

    /** It has no INVITE and no ACK of its own in this call. */
    private static void okToTheOneCalled() {
        Check.sentence("200 of it (call, SEQ, own tag, method INVITE, a To tag)");
        stays("200 to the one that was called", Check.talking(), 1, Letter.response(OK, "INVITE", 1).toTag(1).seq(1));
        stays("200 to the one that was called", Check.talking(), 1, Letter.response(OK, "INVITE", 1).toTag(1).seq(0));
        for (int seq = 1; seq < 3; seq++) {
            CallAgents x = Check.talking();
            x.hang(1);
            Check.bringAll(x);
            x.invite(1);
            Check.bringAll(x);
            x.accept(0);
            Check.bringAll(x);
            Check.told("called by the one that it called before", x, 0, 3, 2, 2, 3, 1, 2, 1, 5, 0);
            stays("200, but it sent no ACK in this call", x, 0,
                    Letter.response(OK, "INVITE", 0).call(3).fromTag(2).toTag(2).seq(seq));
        }
    }

    private static Letter busy() {
        return Letter.response(BUSY, "INVITE", 0);
    }

    private static void busyToInvite() {
        Check.sentence("with or without a To tag, which is not kept) in 1, 2: ACK is sent (branch of the INVITE, To as it"
                + " came): state 4");
        for (Scene scene : new Scene[] {Scene.CALLING, Scene.RINGS_THERE}) {
            for (String tag : new String[] {"", ";tag=0", ";tag=7"}) {
                Letter letter = tag.isEmpty() ? busy() : busy().toTag(tag.charAt(5) - '0').body("m=1 1\n");
                CallAgents x = becomes("486", scene.make(), 0, letter, 4);
                Check.told("ended", x, 0, 4, 1, 0, 2, 1, 1, 0, 2, 0);
                Check.due("the ACK", Check.text(x, 0), "ACK sip:1 SIP/2.0\n"
                        + "Via: SIP/2.0/UDP 0;branch=z9hG4bK1\nFrom: <sip:0>;tag=1\nTo: <sip:1>" + tag
                        + "\nCall-ID: 2\nCSeq: 1 ACK\nContent-Length: 0\n\n");
            }
        }
    }

    private static void busyAgain() {
        Check.sentence("in 4, if an ACK was sent, that again");
        CallAgents x = becomes("486 again", Scene.TURNED_DOWN.make(), 0, busy().toTag(7), 4);
        Check.due("the ACK as it was", Check.text(x, 0), "ACK sip:1 SIP/2.0\n"
                + "Via: SIP/2.0/UDP 0;branch=z9hG4bK1\nFrom: <sip:0>;tag=1\nTo: <sip:1>;tag=1\nCall-ID: 2\n"
                + "CSeq: 1 ACK\nContent-Length: 0\n\n");
        Check.told("nothing else", x, 0, 4, 1, 0, 2, 1, 1, 0, 3, 0);
        stays("200 in 4", Scene.TURNED_DOWN.make(), 0, okay());
        stays("486 when no ACK was sent", Scene.GAVE_UP.make(), 0, busy());
        stays("486 of the second call, when no ACK was sent", secondGivenUp(), 0,
                busy().branch(2).call(4).seq(2).fromTag(2));
        stays("486 of the first call", secondGivenUp(), 0, busy());
    }

    /** The first call was turned down and acknowledged, the second one was given up. */
    private static CallAgents secondGivenUp() {
        CallAgents x = Scene.TURNED_DOWN.make();
        x.invite(0);
        x.pass(32000);
        return x;
    }

    private static void endOfBye() {
        Check.sentence("200 or 481 of its BYE (branch, call, SEQ, method BYE) in 8: 9");
        for (String status : new String[] {OK, GONE}) {
            Letter end = Letter.response(status, "BYE", 0).branch(3).seq(2).fromTag(6).toTag(7).body("m=1 1\n");
            CallAgents x = becomes(status + " of any tags", Scene.HANGING_CALLER.make(), 0, end, 9);
            Check.told("nothing else", x, 0, 9, 1, 1, 2, 2, 3, 2, 3, 0);
            Check.due("nothing is sent", x.flying(), 0);
            stays(status + " in 3", Check.talking(), 0, Letter.response(status, "BYE", 0).branch(2));
        }
        stays("486 of the BYE", Scene.HANGING_CALLER.make(), 0, Letter.response(BUSY, "BYE", 0).branch(3).seq(2));
        stays("180 of the BYE", Scene.HANGING_CALLER.make(), 0, Letter.response(RINGING, "BYE", 0).branch(3).seq(2));
    }
}
