/** Promise 6: hang. */
final class HangTest {
    public static void main(String[] args) {
        theCallerHangs();
        theCalledOneHangs();
        bothHang();
        whenItIsFalse();
        Check.finish("HangTest");
    }

    private static void theCallerHangs() {
        Check.sentence("hang() in state 3: BYE (new branch, SEQ one more): 8");
        CallAgents x = Check.talking();
        Check.due("hang(0)", x.hang(0), true);
        Check.told("hanging up", x, 0, 8, 1, 1, 2, 2, 3, 2, 3, 0);
        Check.due("the BYE", Check.text(x, 0), "BYE sip:1 SIP/2.0\n"
                + "Via: SIP/2.0/UDP 0;branch=z9hG4bK3\nFrom: <sip:0>;tag=1\nTo: <sip:1>;tag=1\nCall-ID: 2\n"
                + "CSeq: 2 BYE\nContent-Length: 0\n\n");
        Check.due("hang twice", x.hang(0), false);
        Check.due("bring(0)", x.bring(0), 1);
        Check.told("over there", x, 1, 9, 1, 1, 2, 0, 0, 2, 3, 0);
        Check.due("the 200", Check.text(x, 0), "SIP/2.0 200 OK\n"
                + "Via: SIP/2.0/UDP 0;branch=z9hG4bK3\nFrom: <sip:0>;tag=1\nTo: <sip:1>;tag=1\nCall-ID: 2\n"
                + "CSeq: 2 BYE\nContent-Length: 0\n\n");
        Check.due("bring(0)", x.bring(0), 0);
        Check.told("over", x, 0, 9, 1, 1, 2, 2, 3, 2, 3, 0);
    }

    private static void theCalledOneHangs() {
        CallAgents x = new CallAgents();
        x.media(0, 4000, 1);
        Check.comes("486 takes a tag", x, 1, Letter.request("INVITE", 1).call(70).fromTag(33).branch(5).seq(8), false);
        x.refuse(1);
        Check.comes("ACK", x, 1, Letter.request("ACK", 1).call(70).seq(8), false);
        Check.loseAll(x);
        x.invite(0);
        Check.bringAll(x);
        x.accept(1);
        Check.bringAll(x);
        Check.told("talking", x, 1, 3, 2, 1, 2, 0, 0, 1, 4, 0);
        Check.due("hang(1)", x.hang(1), true);
        Check.told("hanging up", x, 1, 8, 2, 1, 2, 1, 1, 1, 5, 0);
        Check.due("the BYE", Check.text(x, 0), "BYE sip:0 SIP/2.0\n"
                + "Via: SIP/2.0/UDP 1;branch=z9hG4bK1\nFrom: <sip:1>;tag=2\nTo: <sip:0>;tag=1\nCall-ID: 2\n"
                + "CSeq: 1 BYE\nContent-Length: 0\n\n");
        Check.bringAll(x);
        Check.due("over", x.told(0, 0), 9);
        Check.due("over there", x.told(1, 0), 9);
    }

    private static void bothHang() {
        CallAgents x = Check.talking();
        x.hang(0);
        x.hang(1);
        Check.due("the first BYE", x.bring(0), 2);
        Check.due("the second one is over by it", x.told(1, 0), 9);
        Check.due("the second BYE", x.bring(0), 2);
        Check.due("the first one is over by it", x.told(0, 0), 9);
        Check.bringAll(x);
        Check.due("200 in 9 is dropped", x.told(0, 8), 1);
        Check.due("200 in 9 is dropped", x.told(1, 8), 1);
    }

    private static void whenItIsFalse() {
        Check.sentence("False: none such; not in state 3");
        CallAgents x = Check.ringing();
        Check.due("hang(-1)", x.hang(-1), false);
        Check.due("hang(2)", x.hang(2), false);
        Check.due("hang in 2", x.hang(0), false);
        Check.due("hang in 5", x.hang(1), false);
        x.accept(1);
        Check.due("hang in 6", x.hang(1), false);
        Check.due("one was sent", x.flying(), 1);
    }
}
