import java.util.Arrays;

/** Promise 4: accept, and the answer to an offer line by line. */
final class AcceptTest {
    public static void main(String[] args) {
        whatItSends();
        afterAnother();
        answers();
        linesByThemselves();
        allFormats();
        bothAgree();
        whenItIsFalse();
        Check.finish("AcceptTest");
    }

    private static void whatItSends() {
        Check.sentence("accept() in state 5: 200 with the answer: 6");
        CallAgents x = Check.ringing();
        Check.due("accept(1)", x.accept(1), true);
        Check.told("accepted", x, 1, 6, 1, 1, 2, 0, 0, 2, 2, 0);
        Check.due("the 200", Check.text(x, 0), "SIP/2.0 200 OK\n"
                + "Via: SIP/2.0/UDP 0;branch=z9hG4bK1\nFrom: <sip:0>;tag=1\nTo: <sip:1>;tag=1\nCall-ID: 2\n"
                + "CSeq: 1 INVITE\nContent-Length: 19\n\nm=5000 1 2\nm=0 1 7\n");
        Check.agreed("accepted", x, 1, 0, 5000, 1, 2);
        Check.agreed("accepted: no such line of its own", x, 1, 1, 0, 1, 7);
        Check.due("accept twice", x.accept(1), false);
    }

    private static void afterAnother() {
        Check.sentence("A response has Via, From, Call-ID, CSeq of the request, To with the own tag");
        CallAgents x = Check.ringing();
        Check.comes("another INVITE", x, 1, Letter.request("INVITE", 1).branch(8).call(8).seq(8).fromTag(8), false);
        x.accept(1);
        Check.due("the 200 is to the first INVITE", Check.text(x, 1), "SIP/2.0 200 OK\n"
                + "Via: SIP/2.0/UDP 0;branch=z9hG4bK1\nFrom: <sip:0>;tag=1\nTo: <sip:1>;tag=1\nCall-ID: 2\n"
                + "CSeq: 1 INVITE\nContent-Length: 19\n\nm=5000 1 2\nm=0 1 7\n");
    }

    private static void answers() {
        Check.sentence("ANSWER to an offer, line by line");
        CallAgents x = new CallAgents();
        x.media(0, 100, 1 + 4 + 8);
        x.media(0, 200, 2);
        Letter invite = Letter.request("INVITE", 0).call(9).body("m=7 3 7 0 3 3 6 0 1\nm=0 1 1\nm=65535 5 4 5\n");
        Check.comes("offer", x, 0, invite, false);
        Check.due("accept(0)", x.accept(0), true);
        Check.agreed("those that are its own, as often and in the order offered", x, 0, 0, 100, 3, 0, 3, 3, 0);
        Check.agreed("port 0 is offered", x, 0, 1, 0, 1, 1);
        Check.agreed("no such line", x, 0, 2, 0, 5, 4, 5);
        CallAgents y = new CallAgents();
        y.media(0, 100, 1);
        Check.comes("offer", y, 0, Letter.request("INVITE", 0).body("m=7 1 2 1\nm=0 0\n"), false);
        y.accept(0);
        Check.agreed("none of the formats is its own", y, 0, 0, 0, 1, 2, 1);
        Check.agreed("port 0, no such line", y, 0, 1, 0, 0);
        CallAgents z = new CallAgents();
        Check.comes("no offer", z, 0, Letter.request("INVITE", 0), false);
        Check.due("accept without an offer", z.accept(0), true);
        Check.due("nothing is agreed", z.told(0, 6), 0);
        Check.due("the 200 without media", Check.lastText(z).endsWith("Content-Length: 0\n\n"), true);
    }

    /** An agent with these lines of its own (port and formats as bits, in turn) that accepts an offer. */
    private static CallAgents answering(String offer, int... own) {
        CallAgents x = new CallAgents();
        for (int i = 0; i + 1 < own.length; i += 2) {
            x.media(1, own[i], own[i + 1]);
        }
        Check.comes("the offer", x, 1, Letter.request("INVITE", 1).body(offer), false);
        x.accept(1);
        return x;
    }

    private static void linesByThemselves() {
        Check.sentence("if the offered port is 0");
        Check.agreed("port 0", answering("m=0 1\n", 9, 2), 1, 0, 0, 1);
        Check.agreed("port 1", answering("m=1 1\n", 9, 2), 1, 0, 9, 1);
        Check.agreed("port 65535", answering("m=65535 1\n", 9, 2), 1, 0, 9, 1);
        Check.sentence("or it has no such line of its own");
        for (int lines = 0; lines <= 3; lines++) {
            int[] own = {11, 2, 12, 2, 13, 2};
            CallAgents x = answering("m=1 1\nm=2 1 5\nm=3 1\n", Arrays.copyOf(own, 2 * lines));
            Check.due("as many lines as offered", x.told(1, 6), 3);
            Check.agreed(lines + " lines of its own", x, 1, 0, lines > 0 ? 11 : 0, 1);
            Check.agreed(lines + " lines of its own", x, 1, 1, lines > 1 ? 12 : 0, lines > 1 ? new int[] {1} : new int[] {1, 5});
            Check.agreed(lines + " lines of its own", x, 1, 2, lines > 2 ? 13 : 0, 1);
            CallAgents y = answering("m=1 1\n", Arrays.copyOf(own, 2 * lines));
            Check.due("no more lines than offered", y.told(1, 6), 1);
        }
        Check.sentence("line by line");
        CallAgents z = answering("m=1 1\nm=2 2\n", 11, 4, 12, 2);
        Check.agreed("another line's format is not this one's", z, 1, 0, 0, 1);
        Check.agreed("another line's format is not this one's", z, 1, 1, 0, 2);
    }

    private static void allFormats() {
        for (int format = 0; format < 8; format++) {
            Check.sentence("or none of the formats is its own: port 0 and the formats as offered");
            Check.agreed("all but " + format, answering("m=1 " + format + "\n", 9, 255 - (1 << format)), 1, 0, 0, format);
            Check.sentence("else its own port, and those formats that are its own");
            Check.agreed("only " + format, answering("m=1 7 6 5 4 3 2 1 0\n", 9, 1 << format), 1, 0, 9, format);
            Check.sentence("(each as often as offered)");
            String often = " " + format + " " + format;
            Check.agreed("often", answering("m=1" + often + often + often + often + "\n", 9, 1 << format), 1, 0, 9,
                    format, format, format, format, format, format, format, format);
            Check.agreed("often, but not its own", answering("m=1" + often + "\n", 9, 255 - (1 << format)), 1, 0, 0,
                    format, format);
        }
        Check.sentence("in the order offered");
        Check.agreed("falling", answering("m=1 7 6 5 4 3 2 1 0\n", 9, 255), 1, 0, 9, 7, 6, 5, 4, 3, 2, 1, 0);
        Check.agreed("some", answering("m=1 5 0 7 5 2\n", 9, 1 + 4 + 32), 1, 0, 9, 5, 0, 5, 2);
        Check.agreed("a port lower than its formats", answering("m=1 7 3 0\n", 1, 255), 1, 0, 1, 7, 3, 0);
    }

    private static void bothAgree() {
        Check.sentence("AGREED: the answer's lines as they are .., in the one that gives it and the one that gets it");
        CallAgents x = Check.ringing();
        Check.due("before: the giver", x.told(1, 6), 0);
        x.accept(1);
        Check.due("given: the giver", x.told(1, 6), 2);
        Check.due("given: not yet the other", x.told(0, 6), 0);
        x.bring(0);
        Check.due("got: the other", x.told(0, 6), 2);
        Check.agreed("got", x, 0, 0, 5000, 1, 2);
        Check.agreed("got", x, 0, 1, 0, 1, 7);
        Check.sentence("(also lines and formats that were not offered)");
        CallAgents y = Check.ringing();
        Check.comes("200", y, 0, Letter.response("200 OK", "INVITE", 0).toTag(1).body("m=1 7 7\nm=2 6\nm=0 5\n"), false);
        Check.agreed("formats that were not offered", y, 0, 0, 1, 7, 7);
        Check.agreed("formats that were not offered", y, 0, 1, 2, 6);
        Check.agreed("a line that was not offered", y, 0, 2, 0, 5);
    }

    private static void whenItIsFalse() {
        Check.sentence("False: none such; not in state 5");
        CallAgents x = Check.ringing();
        Check.due("accept(-1)", x.accept(-1), false);
        Check.due("accept(2)", x.accept(2), false);
        Check.due("accept in 2", x.accept(0), false);
        Check.due("accept in 0", Check.withMedia().accept(1), false);
        Check.due("accept in 3", Check.talking().accept(1), false);
        x.refuse(1);
        Check.due("accept in 7", x.accept(1), false);
        Check.due("one was sent", x.flying(), 1);
    }
}
