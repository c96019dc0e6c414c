/** Promise 5: refuse. */
final class RefuseTest {
    public static void main(String[] args) {
        whatItSends();
        afterAnother();
        theOtherAcknowledges();
        whenItIsFalse();
        Check.finish("RefuseTest");
    }

    private static void whatItSends() {
        Check.sentence("refuse(): 486: 7");
        CallAgents x = Check.ringing();
        Check.due("refuse(1)", x.refuse(1), true);
        Check.told("refused", x, 1, 7, 1, 1, 2, 0, 0, 0, 2, 0);
        Check.due("the 486", Check.text(x, 0), "SIP/2.0 486 Busy\n"
                + "Via: SIP/2.0/UDP 0;branch=z9hG4bK1\nFrom: <sip:0>;tag=1\nTo: <sip:1>;tag=1\nCall-ID: 2\n"
                + "CSeq: 1 INVITE\nContent-Length: 0\n\n");
        Check.due("refuse twice", x.refuse(1), false);
    }

    private static void afterAnother() {
        Check.sentence("A response has Via, From, Call-ID, CSeq of the request, To with the own tag");
        CallAgents x = Check.ringing();
        Check.comes("another BYE", x, 1, Letter.request("BYE", 1).branch(8).call(8).seq(8).fromTag(8), false);
        x.refuse(1);
        Check.due("the 486 is to the INVITE", Check.text(x, 1), "SIP/2.0 486 Busy\n"
                + "Via: SIP/2.0/UDP 0;branch=z9hG4bK1\nFrom: <sip:0>;tag=1\nTo: <sip:1>;tag=1\nCall-ID: 2\n"
                + "CSeq: 1 INVITE\nContent-Length: 0\n\n");
    }

    private static void theOtherAcknowledges() {
        Check.sentence("ACK is sent (branch of the INVITE, To as it came): state 4");
        CallAgents x = Check.ringing();
        x.refuse(1);
        Check.due("bring(0)", x.bring(0), 1);
        Check.told("ended", x, 0, 4, 1, 0, 2, 1, 1, 0, 2, 0);
        Check.due("the ACK", Check.text(x, 0), "ACK sip:1 SIP/2.0\n"
                + "Via: SIP/2.0/UDP 0;branch=z9hG4bK1\nFrom: <sip:0>;tag=1\nTo: <sip:1>;tag=1\nCall-ID: 2\n"
                + "CSeq: 1 ACK\nContent-Length: 0\n\n");
        Check.due("bring(0)", x.bring(0), 0);
        Check.told("over", x, 1, 9, 1, 1, 2, 0, 0, 0, 2, 0);
    }

    private static void whenItIsFalse() {
        Check.sentence("False: none such; not in state 5");
        CallAgents x = Check.ringing();
        Check.due("refuse(-1)", x.refuse(-1), false);
        Check.due("refuse(2)", x.refuse(2), false);
        Check.due("refuse in 2", x.refuse(0), false);
        Check.due("refuse in 0", Check.withMedia().refuse(0), false);
        Check.due("refuse in 3", Check.talking().refuse(1), false);
        x.accept(1);
        Check.due("refuse in 6", x.refuse(1), false);
        Check.due("one was sent", x.flying(), 1);
    }
}
