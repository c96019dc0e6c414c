/** Promise 4: accept, and the answer to an offer line by line. */
final class AcceptTest {
    public static void main(String[] args) {
        whatItSends();
        afterAnother();
        answers();
        whenItIsFalse();
        Check.finish("AcceptTest");
    }

    private static void whatItSends() {
        CallAgents x = Check.ringing();
        Check.due("accept(1)", x.accept(1), true);
        Check.told("accepted", x, 1, 6, 1, 1, 2, 0, 0, 2, 2, 0);
        Check.due("the 200", Check.text(x, 0), "SIP/2.0 200 OK\n"
                + "Via: SIP/2.0/UDP 0;branch=z9hG4bK1\nFrom: <sip:0>;tag=1\nTo: <sip:1>;tag=1\nCall-ID: 2\n"
                + "CSeq: 1 INVITE\nContent-Length: 19\n\nm=5000 1 2\nm=0 1 7\n");
        Check.agreed("accepted", x, 1, 0, 5000, 1, 2);
        Check.agreed("accepted: no such line of its own", x, 1, 1, 0, 1, 7);
        Check.due("accept twice", x.accept(1), false);
    }

    private static void afterAnother() {
        CallAgents x = Check.ringing();
        Check.comes("another INVITE", x, 1, Letter.request("INVITE", 1).branch(8).call(8).seq(8).fromTag(8), false);
        x.accept(1);
        Check.due("the 200 is to the first INVITE", Check.text(x, 1), "SIP/2.0 200 OK\n"
                + "Via: SIP/2.0/UDP 0;branch=z9hG4bK1\nFrom: <sip:0>;tag=1\nTo: <sip:1>;tag=1\nCall-ID: 2\n"
                + "CSeq: 1 INVITE\nContent-Length: 19\n\nm=5000 1 2\nm=0 1 7\n");
    }

    private static void answers() {
        CallAgents x = new CallAgents();
        x.media(0, 100, 1 + 4 + 8);
        x.media(0, 200, 2);
        Letter invite = Letter.request("INVITE", 0).call(9).body("m=7 3 7 0 3 3 6 0 1\nm=0 1 1\nm=65535 5 4 5\n");
        Check.comes("offer", x, 0, invite, false);
        Check.due("accept(0)", x.accept(0), true);
        Check.agreed("those that are its own, as often and in the order offered", x, 0, 0, 100, 3, 0, 3, 3, 0);
        Check.agreed("port 0 is offered", x, 0, 1, 0, 1, 1);
        Check.agreed("no such line", x, 0, 2, 0, 5, 4, 5);
        CallAgents y = new CallAgents();
        y.media(0, 100, 1);
        Check.comes("offer", y, 0, Letter.request("INVITE", 0).body("m=7 1 2 1\nm=0 0\n"), false);
        y.accept(0);
        Check.agreed("none of the formats is its own", y, 0, 0, 0, 1, 2, 1);
        Check.agreed("port 0, no such line", y, 0, 1, 0, 0);
        CallAgents z = new CallAgents();
        Check.comes("no offer", z, 0, Letter.request("INVITE", 0), false);
        Check.due("accept without an offer", z.accept(0), true);
        Check.due("nothing is agreed", z.told(0, 6), 0);
        Check.due("the 200 without media", Check.lastText(z).endsWith("Content-Length: 0\n\n"), true);
    }

    private static void whenItIsFalse() {
        CallAgents x = Check.ringing();
        Check.due("accept(-1)", x.accept(-1), false);
        Check.due("accept(2)", x.accept(2), false);
        Check.due("accept in 2", x.accept(0), false);
        Check.due("accept in 0", Check.withMedia().accept(1), false);
        Check.due("accept in 3", Check.talking().accept(1), false);
        x.refuse(1);
        Check.due("accept in 7", x.accept(1), false);
        Check.due("one was sent", x.flying(), 1);
    }
}
