/** Promise 11: sign. The texts of all kinds stand in the tests of the calls that send them. */
final class SignTest {
    public static void main(String[] args) {
        CallAgents x = Check.withMedia();
        x.invite(0);
        x.invite(1);
        Check.due("sign(0, 0)", x.sign(0, 0), 'I');
        Check.due("sign(0, 11)", x.sign(0, 11), '1');
        Check.due("sign(1, 11)", x.sign(1, 11), '0');
        Check.due("sign(0, 20)", x.sign(0, 20), 10);
        int length = Check.text(x, 0).length();
        Check.due("the last sign", x.sign(0, length - 1), 10);
        int[] wrong = {-1, length, 499, 500, Integer.MIN_VALUE, Integer.MAX_VALUE};
        for (int k : wrong) {
            Check.due("sign(0, " + k + ")", x.sign(0, k), CallAgents.BAD);
        }
        int[] none = {-1, 2, 60, Integer.MIN_VALUE, Integer.MAX_VALUE};
        for (int i : none) {
            Check.due("sign(" + i + ", 0)", x.sign(i, 0), CallAgents.BAD);
        }
        Check.due("looking changes nothing", x.flying(), 2);
        longNumbers();
        theLongestAnswer();
        Check.finish("SignTest");
    }

    private static void longNumbers() {
        CallAgents x = new CallAgents();
        Letter bye = Letter.request("BYE", 0).branch(999999999).fromTag(100000000).toTag(0).call(20304050)
                .seq(0).body("m=0 0\n");
        Check.comes("BYE", x, 0, bye, false);
        Check.due("the 481", Check.text(x, 0), "SIP/2.0 481 Gone\n"
                + "Via: SIP/2.0/UDP 1;branch=z9hG4bK999999999\nFrom: <sip:1>;tag=100000000\nTo: <sip:0>;tag=0\n"
                + "Call-ID: 20304050\nCSeq: 0 BYE\nContent-Length: 0\n\n");
    }

    private static void theLongestAnswer() {
        CallAgents x = new CallAgents();
        x.media(0, 65535, 255);
        x.media(0, 65534, 255);
        x.media(0, 65533, 255);
        int n = 999999999;
        String lines = "m=1 0 1 2 3 4 5 6 7\nm=1 7 7 7 7 7 7 7 7\nm=9 0 0 0 0 0 0 0 0\n";
        Letter invite = Letter.request("INVITE", 0).branch(n).fromTag(n).call(n).seq(n).body(lines);
        Check.comes("INVITE", x, 0, invite, false);
        x.accept(0);
        Check.due("the 200", Check.text(x, 1), "SIP/2.0 200 OK\n"
                + "Via: SIP/2.0/UDP 1;branch=z9hG4bK" + n + "\nFrom: <sip:1>;tag=" + n + "\nTo: <sip:0>;tag=1\n"
                + "Call-ID: " + n + "\nCSeq: " + n + " INVITE\nContent-Length: 72\n\n"
                + "m=65535 0 1 2 3 4 5 6 7\nm=65534 7 7 7 7 7 7 7 7\nm=65533 0 0 0 0 0 0 0 0\n");
    }
}
