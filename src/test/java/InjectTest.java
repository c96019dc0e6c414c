import java.util.ArrayList;
import java.util.Collections;
import java.util.List;

/** Promise 13: inject: which texts are messages, and which sign of the others is the first wrong one. */
final class InjectTest {
    private static final String INVITE = Letter.request("INVITE", 0).branch(17).fromTag(30).call(9).seq(12)
            .body("m=9 0 7\nm=65535 1\nm=0 0 1 2 3 4 5 6 7\n").text();
    private static final String BYE = Letter.request("BYE", 0).toTag(0).text();
    private static final String OK = Letter.response("200 OK", "INVITE", 0).toTag(12).body("m=1 0\n").text();

    public static void main(String[] args) {
        messages();
        anyOrder();
        foreignSigns();
        firstLines();
        headerNames();
        missingAndDoubled();
        doubledNames();
        numbers();
        otherMethods();
        bodies();
        agents();
        Check.finish("InjectTest");
    }

    private static void right(String what, String text) {
        Check.due(what, Check.inject(new CallAgents(), 0, text), 0);
    }

    private static void wrong(String what, String text, int sign) {
        CallAgents x = new CallAgents();
        Check.due(what + " in\n" + text, Check.inject(x, 0, text), -10 - sign);
        Check.told("no message came", x, 0, 0, 0, 0, 0, 0, 0, 0, 0, 0);
        Check.due("the text is gone", x.inject(0), -10);
    }

    /** A text with one place put otherwise; the wrong sign is counted from where that place began. */
    private static void wrong(String text, String old, String put, int offset) {
        int place = text.indexOf(old);
        Check.due("the test's own text has " + old, place >= 0, true);
        wrong(put + " for " + old, text.substring(0, place) + put + text.substring(place + old.length()), place + offset);
    }

    private static void messages() {
        for (String method : new String[] {"INVITE", "ACK", "BYE"}) {
            right(method, Letter.request(method, 0).text());
            right(method + " with a To tag", Letter.request(method, 0).toTag(3).text());
            right(method + " to the other one", Letter.request(method, 1).body("m=0 7\n").text());
            for (String status : new String[] {"180 Ringing", "200 OK", "486 Busy", "481 Gone"}) {
                right(status, Letter.response(status, method, 0).text());
                right(status, Letter.response(status, method, 1).toTag(999999999).body("m=3 3\n").text());
            }
        }
        right("numbers 0", Letter.request("BYE", 0).branch(0).fromTag(0).toTag(0).call(0).seq(0).text());
        right("three lines", INVITE);
    }

    private static void anyOrder() {
        String[] lines = INVITE.substring(0, INVITE.indexOf("\n\n")).split("\n");
        String body = INVITE.substring(INVITE.indexOf("\n\n") + 1);
        List<String> headers = new ArrayList<>(List.of(lines).subList(1, 7));
        for (int turn = 0; turn < 6; turn++) {
            Collections.rotate(headers, 1);
            CallAgents x = new CallAgents();
            String text = lines[0] + "\n" + String.join("\n", headers) + "\n" + body;
            Check.due("turned headers\n" + text, Check.inject(x, 0, text), 0);
            Check.told("it was read", x, 0, 5, 1, 30, 9, 0, 0, 0, 1, 0);
        }
        Collections.reverse(headers);
        right("headers backwards", lines[0] + "\n" + String.join("\n", headers) + "\n" + body);
    }

    /** No message has the sign ~; and each text that ends too early is wrong behind its last sign. */
    private static void foreignSigns() {
        for (String text : new String[] {INVITE, BYE, OK}) {
            for (int i = 0; i < text.length(); i++) {
                wrong("~ instead of sign " + i, text.substring(0, i) + "~" + text.substring(i + 1), i);
                wrong("~ before sign " + i, text.substring(0, i) + "~" + text.substring(i), i);
                wrong("the end before sign " + i, text.substring(0, i), i);
            }
            wrong("~ behind the end", text + "~", text.length());
            wrong("an empty line behind the end", text + "\n", text.length());
        }
        wrong("nothing", "", 0);
    }

    private static void firstLines() {
        wrong(INVITE, "INVITE sip:", "invite sip:", 0);
        wrong(INVITE, "INVITE sip:", "INFO sip:", 2);
        wrong(INVITE, "INVITE sip:", "AYE sip:", 1);
        wrong(INVITE, "INVITE sip:", "ACE sip:", 2);
        wrong(INVITE, "INVITE sip:", "\nINVITE sip:", 0);
        wrong(OK, "SIP/2.0 200 OK", "SIP/2.1 200 OK", 6);
        wrong(OK, "200 OK", "280 OK", 1);
        wrong(OK, "200 OK", "100 Ok", 1);
        wrong(OK, "200 OK", "480 Busy", 2);
        wrong(OK, "200 OK", "481 Busy", 4);
        wrong(OK, "200 OK", "486 Gone", 4);
        wrong(OK, "200 OK", "200 OK ", 6);
        wrong(OK, "200 OK", "500 OK", 0);
        wrong(INVITE, "sip:0 ", "sip:2 ", 4);
        wrong(INVITE, "sip:0 ", "sip:00 ", 5);
        wrong(INVITE, "sip:0 ", "sip:/ ", 4);
    }

    private static void headerNames() {
        wrong(INVITE, "Via: ", "Vua: ", 1);
        wrong(INVITE, "Via: ", "via: ", 0);
        wrong(INVITE, "Call-ID: ", "Cull-ID: ", 1);
        wrong(INVITE, "Call-ID: ", "Call-Id: ", 6);
        wrong(INVITE, "CSeq: ", "Cseq: ", 1);
        wrong(INVITE, "CSeq: ", "CSeq:", 5);
        wrong(INVITE, "Content-Length: ", "Content-Type: ", 8);
        wrong(INVITE, "Content-Length: ", "Xontent-Length: ", 0);
        wrong(INVITE, "From: <sip:1>", "From: <sip:3>", 11);
        wrong(INVITE, "From: <sip:1>;tag=30\n", "From: <sip:1>\n", 13);
        wrong(INVITE, "To: <sip:0>\n", "To: <sip:0>;\n", 12);
        wrong(INVITE, "To: <sip:0>\n", "To: <sip:0>;tag=\n", 16);
        wrong(INVITE, "To: <sip:0>\n", "To: <sip:0> ;tag=1\n", 11);
        wrong(INVITE, "z9hG4bK17", "z9hG4bK", 7);
        wrong(INVITE, "z9hG4bK17", "z9hG4bKA", 7);
    }

    private static void missingAndDoubled() {
        for (String text : new String[] {INVITE, OK}) {
            int end = text.indexOf("\n\n") + 1;
            String[] lines = text.substring(0, end).split("\n");
            for (int h = 1; h < lines.length; h++) {
                String line = lines[h] + "\n";
                wrong(lines[h] + " is missing", text.replace(line, ""), end - line.length());
                wrong(lines[h] + " comes again at the end", text.substring(0, end) + line + text.substring(end), end);
                int behind = text.indexOf(line) + line.length();
                wrong(lines[h] + " comes again at once", text.substring(0, behind) + line + text.substring(behind), behind);
            }
        }
        wrong(INVITE, "To: <sip:0>\n", "From: <sip:0>;tag=1\n", 0);
        wrong(INVITE, "CSeq: 12 INVITE\n", "Call-ID: 5\n", 0);
        wrong(INVITE, "To: <sip:0>\n", "\n", 0);
        String six = INVITE.substring(0, INVITE.indexOf("\n\n") + 1);
        wrong("a foreign line behind six headers", six + "Foo: 1\n\n", six.length());
    }

    /** A header comes again once its name stands there, be the rest of its line cut off or wrong. */
    private static void doubledNames() {
        for (String text : new String[] {INVITE, OK}) {
            String[] lines = text.substring(0, text.indexOf("\n\n")).split("\n");
            for (int h = 1; h < lines.length; h++) {
                String once = lines[0] + "\n" + lines[h] + "\n";
                int name = lines[h].indexOf(": ") + 2;
                for (int cut = 0; cut <= lines[h].length(); cut++) {
                    String again = lines[h].substring(0, cut);
                    wrong(again + " comes again and is cut", once + again, once.length() + (cut < name ? cut : 0));
                    wrong(again + "# comes again", once + again + "#", once.length() + (cut < name ? cut : 0));
                }
            }
        }
    }

    private static void numbers() {
        String[] bad = {"0000000000", "1234567890", "1000000000", "01", "00", "000", "0999999999", "99999999999999999999"};
        for (String number : bad) {
            wrong(INVITE, "bK17", "bK" + number, 2);
            wrong(INVITE, "tag=30", "tag=" + number, 4);
            wrong(BYE, "To: <sip:0>;tag=0", "To: <sip:0>;tag=" + number, 16);
            wrong(INVITE, "Call-ID: 9", "Call-ID: " + number, 9);
            wrong(INVITE, "CSeq: 12", "CSeq: " + number, 6);
            wrong(INVITE, "Length: 38", "Length: " + number, 8);
            wrong(INVITE, "m=65535", "m=" + number, 2);
        }
        wrong(INVITE, "Call-ID: 9", "Call-ID: 4294967297", 9);
        wrong(INVITE, "m=65535", "m=65536", 2);
        wrong(INVITE, "m=65535", "m=999999999", 2);
        wrong(INVITE, "m=65535", "m=05535", 2);
        wrong(INVITE, "Call-ID: 9", "Call-ID: -9", 9);
        wrong(INVITE, "Call-ID: 9", "Call-ID: 9 ", 10);
        wrong("a bad number at the text's end", INVITE.substring(0, INVITE.indexOf("bK17") + 2) + "017",
                INVITE.indexOf("bK17") + 2);
    }

    private static void otherMethods() {
        wrong(INVITE, "CSeq: 12 INVITE", "CSeq: 12 BYE", 9);
        wrong(INVITE, "CSeq: 12 INVITE", "CSeq: 12 ACK", 9);
        wrong(BYE, "CSeq: 1 BYE", "CSeq: 1 INVITE", 8);
        wrong(BYE, "CSeq: 1 BYE", "CSeq: 1 BYTE", 10);
        wrong(INVITE, "CSeq: 12 INVITE", "CSeq: 12 INVITED", 15);
        wrong(INVITE, "CSeq: 12 INVITE", "CSeq: 12", 8);
        wrong(OK, "CSeq: 1 INVITE", "CSeq: 1 OK", 8);
        wrong("CSeq with another method, as the first header", "ACK sip:0 SIP/2.0\nCSeq: 1 BYE\n", 26);
    }

    private static void bodies() {
        String[] bodies = {"n=9 0 7\n", "m:9 0 7\n", "m= 0 7\n", "m=9\n", "m=9 \n", "m=9 8\n", "m=9 0 8\n", "m=9 07\n",
            "m=9 0  7\n", "m=9 0 \n", "m=9 0 1 2 3 4 5 6 7 0\n", "m=9 0\n\n", "m=9 0\nm=9 0\nm=9 0\nm=9 0\n", "\n",
            "m=9 0\nM=9 0\n", "m=9,0 7\n", "m=9 0 7 m=1 0\n"};
        int[] first = {0, 1, 2, 3, 4, 4, 6, 5, 6, 6, 19, 6, 18, 0, 6, 3, 8};
        for (int i = 0; i < bodies.length; i++) {
            String text = Letter.request("INVITE", 0).body(bodies[i]).text();
            wrong("the body " + bodies[i], text, text.length() - bodies[i].length() + first[i]);
        }
        lengths();
    }

    private static void lengths() {
        String head = Letter.request("ACK", 0).text();
        for (int said = 0; said < 30; said++) {
            String start = head.replace("Length: 0", "Length: " + said);
            String two = "m=9 0 7\nm=10 3\n";
            if (said == 8) {
                right("8 signs", start + two.substring(0, 8));
            }
            if (said == 15) {
                right("15 signs", start + two);
            } else {
                wrong("15 signs, said " + said, start + two, start.length() + Math.min(said, 15));
            }
        }
        wrong(INVITE, "Length: 38", "Length: 999999999", INVITE.length() - INVITE.indexOf("Length: 38") + 7);
    }

    private static void agents() {
        CallAgents x = new CallAgents();
        int[] none = {-1, 2, Integer.MIN_VALUE, Integer.MAX_VALUE};
        for (int agent : none) {
            Check.due("inject(" + agent + ")", x.inject(agent), CallAgents.NONE);
        }
        x.unit('B');
        Check.due("inject(2) with a text", x.inject(2), CallAgents.NONE);
        x.unit('Y');
        Check.due("no agent, so nothing was gone", x.inject(1), -12);
        Check.due("a message to the wrong agent", Check.inject(x, 1, INVITE), 0);
        Check.told("it was dropped", x, 1, 0, 0, 0, 0, 0, 0, 0, 0, 1);
        Check.due("a message to the right one", Check.inject(x, 0, INVITE), 0);
        Check.told("it was taken", x, 0, 5, 1, 30, 9, 0, 0, 0, 1, 0);
    }
}
