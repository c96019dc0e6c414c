/** Promise 3: invite. */
final class InviteTest {
    public static void main(String[] args) {
        whatItSends();
        whatItForgets();
        whenItIsFalse();
        freeStates();
        Check.finish("InviteTest");
    }

    private static void whatItSends() {
        Check.sentence("invite() sends INVITE (new call, tag, branch; SEQ one more; To without tag; the offer): state 1");
        CallAgents x = Check.withMedia();
        Check.due("invite(0)", x.invite(0), true);
        Check.told("called", x, 0, 1, 1, 0, 2, 1, 1, 0, 1, 0);
        Check.told("not called yet", x, 1, 0, 0, 0, 0, 0, 0, 0, 0, 0);
        Check.due("the INVITE of agent 0", Check.text(x, 0), "INVITE sip:1 SIP/2.0\n"
                + "Via: SIP/2.0/UDP 0;branch=z9hG4bK1\nFrom: <sip:0>;tag=1\nTo: <sip:1>\nCall-ID: 2\n"
                + "CSeq: 1 INVITE\nContent-Length: 24\n\nm=4000 0 1 2\nm=4002 1 7\n");
        Check.due("invite(1)", x.invite(1), true);
        Check.told("called, too", x, 1, 1, 1, 0, 3, 1, 1, 0, 1, 0);
        Check.due("the INVITE of agent 1", Check.text(x, 1), "INVITE sip:0 SIP/2.0\n"
                + "Via: SIP/2.0/UDP 1;branch=z9hG4bK1\nFrom: <sip:1>;tag=1\nTo: <sip:0>\nCall-ID: 3\n"
                + "CSeq: 1 INVITE\nContent-Length: 11\n\nm=5000 1 2\n");
    }

    private static void whatItForgets() {
        Check.sentence("the other's tag is 0 until it is known, nothing is agreed any more");
        CallAgents x = Check.talking();
        Check.due("lines agreed", x.told(0, 6), 2);
        x.hang(0);
        Check.bringAll(x);
        Check.told("over", x, 0, 9, 1, 1, 2, 2, 3, 2, 3, 0);
        Check.due("invite again", x.invite(0), true);
        Check.told("called again", x, 0, 1, 2, 0, 4, 3, 4, 0, 4, 0);
        Check.due("no line agreed any more", x.line(0, 0, 0), CallAgents.BAD);
        Check.due("the second INVITE", Check.text(x, 0).contains("To: <sip:1>\nCall-ID: 4\nCSeq: 3 INVITE\n"), true);
        Check.bringAll(x);
        Check.told("called again, the other", x, 1, 5, 2, 2, 4, 0, 0, 0, 4, 0);
    }

    private static void whenItIsFalse() {
        Check.sentence("False: none such; not free; no media");
        CallAgents x = new CallAgents();
        Check.due("invite without media", x.invite(0), false);
        x.media(1, 1, 1);
        Check.due("invite, only the other has media", x.invite(0), false);
        x.media(0, 1, 1);
        Check.due("invite(-1)", x.invite(-1), false);
        Check.due("invite(2)", x.invite(2), false);
        Check.due("nothing was sent", x.flying(), 0);
        Check.told("nothing was changed", x, 0, 0, 0, 0, 0, 0, 0, 0, 0, 0);
    }

    private static void freeStates() {
        Check.sentence("In 0, 4, 9 it is FREE");
        CallAgents x = Check.withMedia();
        x.invite(0);
        Check.due("invite in 1", x.invite(0), false);
        x.bring(0);
        Check.due("invite in 5", x.invite(1), false);
        x.bring(0);
        Check.due("state 2", x.told(0, 0), 2);
        Check.due("invite in 2", x.invite(0), false);
        x.accept(1);
        Check.due("invite in 6", x.invite(1), false);
        x.bring(0);
        Check.due("invite in 3", x.invite(0), false);
        Check.bringAll(x);
        x.hang(1);
        Check.due("invite in 8", x.invite(1), false);
        x.bring(0);
        Check.due("invite in 9", x.invite(0), true);
        CallAgents y = Check.ringing();
        y.refuse(1);
        Check.due("invite in 7", y.invite(1), false);
        y.bring(0);
        Check.due("state 4", y.told(0, 0), 4);
        Check.due("invite in 4", y.invite(0), true);
    }
}
