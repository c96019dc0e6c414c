import java.util.ArrayList;
import java.util.List;

/** The form of a message (Terms) at its boundaries, and the place that inject tells of each fault (promise 13). */
final class FormTest {
    private static final String[] METHODS = {"INVITE", "ACK", "BYE"};
    private static final String[] STATUSES = {"180 Ringing", "200 OK", "486 Busy", "481 Gone"};
    private static final String BYE = Letter.request("BYE", 0).toTag(3).body("m=9 0\n").text();
    /** What stands before each number of BYE, but for Content-Length and the port. */
    private static final String[] BEFORE_NUMBERS = {"z9hG4bK", "From: <sip:1>;tag=", "To: <sip:0>;tag=", "Call-ID: ", "CSeq: "};
    private static final String[] BEFORE_AGENTS = {"BYE sip:", "UDP ", "From: <sip:", "To: <sip:"};

    public static void main(String[] args) {
        numbers();
        lengthNumbers();
        ports();
        agents();
        firstLines();
        headersOnce();
        headersInAnyOrder();
        toTags();
        asManySigns();
        mediaLines();
        formats();
        nothingBehind();
        methodOfCSeq();
        endsTooEarly();
        longest();
        gone();
        noSuchAgent();
        Check.finish("FormTest");
    }

    private static void right(String text) {
        CallAgents x = new CallAgents();
        Check.due("inject of\n" + text, Check.inject(x, 0, text), 0);
    }

    private static void wrong(String text, int sign) {
        CallAgents x = new CallAgents();
        Check.due("inject of\n" + text, Check.inject(x, 0, text), -10 - sign);
    }

    /** Another piece in the place of the one between some words and the next foreign sign. */
    private static String put(String text, String before, String old, String piece) {
        int place = text.indexOf(before + old);
        Check.due("the test's own text has " + before + old, place >= 0, true);
        return text.substring(0, place) + before + piece + text.substring(place + before.length() + old.length());
    }

    private static int behind(String text, String before) {
        return text.indexOf(before) + before.length();
    }

    private static void numbers() {
        Check.sentence("NUMBERS have 1 to 9 digits, no 0 in front but 0 itself; of a number with too many digits, 0 in"
                + " front, or too great, its first digit");
        String[] digits = {"1", "1", "3", "2", "1"};
        for (int i = 0; i < BEFORE_NUMBERS.length; i++) {
            String before = BEFORE_NUMBERS[i];
            for (String good : new String[] {"0", "1", "9", "10", "12345678", "123456789", "999999999", "100000000"}) {
                right(put(BYE, before, digits[i], good));
            }
            for (String bad : new String[] {"", "00", "01", "09", "012345678", "0123456789", "1000000000", "1234567890",
                "9999999999", "0000000000", "4294967296", "18446744073709551616", "-1", "+1", " 1", "x"}) {
                wrong(put(BYE, before, digits[i], bad), behind(BYE, before));
            }
            wrong(put(BYE, before, digits[i], "0x"), behind(BYE, before) + 1);
            wrong(put(BYE, before, digits[i], "123456789x"), behind(BYE, before) + 9);
        }
    }

    private static void lengthNumbers() {
        Check.sentence("NUMBERS have 1 to 9 digits, no 0 in front but 0 itself");
        String before = "Content-Length: ";
        for (String bad : new String[] {"", "00", "06", "000000006", "0000000006", "1000000000", "6000000000"}) {
            wrong(put(BYE, before, "6", bad), behind(BYE, before));
        }
        String none = Letter.request("BYE", 0).text();
        right(none);
        wrong(put(none, before, "0", "00"), behind(none, before));
        Check.sentence("if it ends too early, the one behind the last");
        String many = put(BYE, before, "6", "999999999");
        wrong(many, many.length());
    }

    private static void ports() {
        Check.sentence("a port (0 .. 65,535)");
        for (String good : new String[] {"0", "1", "9", "10", "65534", "65535"}) {
            right(Letter.request("BYE", 0).body("m=" + good + " 0\n").text());
        }
        for (String bad : new String[] {"", "65536", "65540", "70000", "99999", "100000", "131071", "999999999",
            "1000000000", "4294967296", "4294967297", "00", "01", "065535", "-1"}) {
            String text = Letter.request("BYE", 0).body("m=" + bad + " 0\n").text();
            wrong(text, behind(text, "m="));
            String second = Letter.request("BYE", 0).body("m=65535 0\nm=" + bad + " 0\n").text();
            wrong(second, behind(second, "\nm=65535 0\nm="));
        }
    }

    private static void agents() {
        Check.sentence("A AGENT is 0 or 1");
        String[] old = {"0", "1", "1", "0"};
        for (int i = 0; i < old.length; i++) {
            right(put(BYE, BEFORE_AGENTS[i], old[i], "0"));
            right(put(BYE, BEFORE_AGENTS[i], old[i], "1"));
            for (String bad : new String[] {"", "2", "9", "/", ":", "-1", "A", " 0"}) {
                wrong(put(BYE, BEFORE_AGENTS[i], old[i], bad), behind(BYE, BEFORE_AGENTS[i]));
            }
            wrong(put(BYE, BEFORE_AGENTS[i], old[i], "00"), behind(BYE, BEFORE_AGENTS[i]) + 1);
            wrong(put(BYE, BEFORE_AGENTS[i], old[i], "10"), behind(BYE, BEFORE_AGENTS[i]) + 1);
        }
    }

    private static void firstLines() {
        Check.sentence("The first line is METHOD, \" sip:\", agent, \" SIP/2.0\" (a REQUEST), or \"SIP/2.0 \", and ..");
        for (String method : METHODS) {
            right(Letter.request(method, 0).text());
            right(Letter.request(method, 1).text());
        }
        for (String status : STATUSES) {
            right(Letter.response(status, "INVITE", 0).text());
        }
        Letter rest = Letter.response("200 OK", "INVITE", 0);
        String[] starts = {"", "CANCEL sip:0 SIP/2.0", "INVITE  sip:0 SIP/2.0", "INVITE sip:0", "INVITE sip:0 SIP/2.0 ",
            "INVITE sip:0 SIP/2.1", "ACK sips:0 SIP/2.0", "SIP/2.0", "SIP/2.0 ", "SIP/2.0 180 OK", "SIP/2.0 181 Ringing",
            "SIP/2.0 200 Ok", "SIP/2.0 201 OK", "SIP/2.0 486 Gone", "SIP/2.0 481 Busy", "SIP/2.0 404 Gone", "SIP/2.0 200OK"};
        int[] first = {0, 0, 7, 12, 20, 19, 7, 7, 8, 12, 10, 13, 10, 12, 12, 9, 11};
        for (int i = 0; i < starts.length; i++) {
            wrong(rest.start(starts[i]).text(), first[i]);
        }
    }

    private static List<String> headersOf(String text) {
        return new ArrayList<>(List.of(text.substring(0, text.indexOf("\n\n")).split("\n")).subList(1, 7));
    }

    private static String withHeaders(String text, List<String> headers) {
        return startOf(text) + String.join("\n", headers) + text.substring(text.indexOf("\n\n"));
    }

    private static String startOf(String text) {
        return text.substring(0, text.indexOf('\n') + 1);
    }

    /** Where line n of the headers begins. */
    private static int beginning(String text, List<String> headers, int n) {
        int place = startOf(text).length();
        for (String header : headers.subList(0, n)) {
            place += header.length() + 1;
        }
        return place;
    }

    private static void headersOnce() {
        for (int n = 0; n < 6; n++) {
            Check.sentence("if a header is missing, .. where that line begins, the empty one");
            List<String> five = headersOf(BYE);
            five.remove(n);
            wrong(withHeaders(BYE, five), beginning(BYE, five, 5));
            Check.sentence("if a header .. comes again, where that line begins, .. that header's");
            for (int place = 0; place <= 6; place++) {
                List<String> seven = headersOf(BYE);
                seven.add(place, seven.get(n));
                wrong(withHeaders(BYE, seven), beginning(BYE, seven, place <= n ? n + 1 : place));
            }
            for (int other = 0; other < 6; other++) {
                List<String> six = headersOf(BYE);
                six.set(other, six.get(n));
                if (other != n) {
                    wrong(withHeaders(BYE, six), beginning(BYE, six, Math.max(other, n)));
                }
            }
        }
        Check.sentence("Then six HEADERS, each once");
        String start = startOf(BYE);
        wrong(start + "\n", start.length());
        wrong(start, start.length());
    }

    private static void headersInAnyOrder() {
        Check.sentence("six HEADERS, each once, in any order");
        Letter bye = Letter.request("BYE", 1).branch(11).fromTag(22).toTag(33).call(44).seq(55).body("m=9 0\n");
        String text = bye.text();
        String gone = bye.start("SIP/2.0 481 Gone").body("").text();
        String invite = Letter.request("INVITE", 1).branch(11).fromTag(22).call(44).seq(55).body("m=9 7 0\nm=8 1\n").text();
        for (int turn = 0; turn < 720; turn++) {
            CallAgents x = new CallAgents();
            Check.due("BYE, order " + turn, Check.inject(x, 1, withHeaders(text, turned(headersOf(text), turn))), 0);
            Check.due("481, order " + turn, Check.text(x, 0), gone);
            CallAgents y = Check.withMedia();
            Check.due("INVITE, order " + turn, Check.inject(y, 1, withHeaders(invite, turned(headersOf(invite), turn))), 0);
            y.accept(1);
            Check.agreed("INVITE, order " + turn, y, 1, 0, 0, 7, 0);
            Check.agreed("INVITE, order " + turn, y, 1, 1, 0, 1);
        }
    }

    private static List<String> turned(List<String> headers, int turn) {
        List<String> order = new ArrayList<>();
        int rest = turn;
        for (int n = headers.size(); n > 0; n--) {
            order.add(headers.remove(rest % n));
            rest /= n;
        }
        return order;
    }

    private static void toTags() {
        Check.sentence("\"To: <sip:\", agent, \">\", and, or not, \";tag=\", number");
        for (String method : METHODS) {
            right(Letter.request(method, 0).text());
            right(Letter.request(method, 0).toTag(0).text());
            right(Letter.response("200 OK", method, 0).text());
            right(Letter.response("200 OK", method, 0).toTag(999999999).text());
        }
        wrong(put(BYE, "To: <sip:0>", ";tag=3", ";tag="), behind(BYE, "To: <sip:0>;tag="));
        wrong(put(BYE, "To: <sip:0>", ";tag=3", ";"), behind(BYE, "To: <sip:0>;"));
        wrong(put(BYE, "To: <sip:0>", ";tag=3", ";tag=3;tag=3"), behind(BYE, "To: <sip:0>;tag=3"));
        Check.sentence("\"From: <sip:\", agent, \">;tag=\", number");
        wrong(put(BYE, "From: <sip:1>", ";tag=1", ""), behind(BYE, "From: <sip:1>"));
    }

    private static String said(String body, int length) {
        String head = Letter.request("ACK", 0).text();
        return head.substring(0, head.length() - 3) + length + "\n\n" + body;
    }

    private static void asManySigns() {
        String[] bodies = {"", "m=0 0\n", "m=65535 0 1 2 3 4 5 6 7\n", "m=9 0 7\nm=10 3\n", "m=1 1\nm=22 2\nm=333 3\n"};
        for (String body : bodies) {
            Check.sentence("as many signs as the last number says");
            right(said(body, body.length()));
            Check.sentence("if it ends too early, the one behind the last");
            for (int more = 1; more < 12; more++) {
                String text = said(body, body.length() + more);
                wrong(text, text.length());
            }
            Check.sentence("Nothing behind them");
            for (int length = 0; length < body.length(); length++) {
                String text = said(body, length);
                wrong(text, text.length() - body.length() + length);
            }
        }
    }

    private static void mediaLines() {
        Check.sentence("none, or 1 to 3 MEDIA lines");
        String body = "";
        for (int lines = 0; lines <= 5; lines++) {
            String text = said(body, body.length());
            if (lines <= 3) {
                right(text);
            } else {
                wrong(text, text.length() - body.length() + 3 * 6);
            }
            body += "m=9 0\n";
        }
        wrong(said("\n", 1), said("\n", 1).length() - 1);
        wrong(said("m=9 0\n\n", 7), said("m=9 0\n\n", 7).length() - 1);
    }

    private static void formats() {
        Check.sentence("1 to 8 times \" \" and a digit 0 .. 7 (a FORMAT)");
        String line = "m=9";
        for (int count = 0; count <= 10; count++) {
            String text = said(line + "\n", line.length() + 1);
            if (count >= 1 && count <= 8) {
                right(text);
            } else {
                wrong(text, text.length() - (count == 0 ? 1 : 1 + 2 * (count - 8)));
            }
            line += " " + count % 8;
        }
        for (char digit = '/'; digit <= ':'; digit++) {
            String text = said("m=9 " + digit + " 3\n", 8);
            String last = said("m=9 3 " + digit + "\n", 8);
            if (digit >= '0' && digit <= '7') {
                right(text);
                right(last);
            } else {
                wrong(text, text.length() - 4);
                wrong(last, last.length() - 2);
            }
        }
    }

    private static void nothingBehind() {
        Check.sentence("Nothing behind them");
        for (String text : new String[] {BYE, Letter.request("ACK", 0).text()}) {
            for (String more : new String[] {"\n", " ", "m", "m=9 0\n", "B", BYE.substring(0, 40)}) {
                wrong(text + more, text.length());
            }
        }
    }

    private static void methodOfCSeq() {
        Check.sentence("A request's CSeq has its method; of a request's CSeq with another method, where that begins");
        for (String method : METHODS) {
            for (String other : METHODS) {
                String text = Letter.request(method, 0).method(other).text();
                if (method.equals(other)) {
                    right(text);
                } else {
                    wrong(text, behind(text, "CSeq: 1 "));
                }
                for (String status : STATUSES) {
                    right(Letter.response(status, other, 0).text());
                }
            }
        }
    }

    private static void endsTooEarly() {
        Check.sentence("if it ends too early, the one behind the last");
        for (String text : new String[] {BYE, Letter.response("486 Busy", "INVITE", 0).text()}) {
            for (int length = 0; length < text.length(); length++) {
                wrong(text.substring(0, length), length);
            }
        }
    }

    private static void longest() {
        Check.sentence("A sign .. is collected, at most 500");
        int most = 999999999;
        String body = "m=65535 0 1 2 3 4 5 6 7\n".repeat(3);
        right(Letter.request("INVITE", 0).branch(most).fromTag(most).toTag(most).call(most).seq(most).body(body).text());
        wrong("S".repeat(500), 1);
        String full = Letter.request("ACK", 0).text();
        wrong(full + " ".repeat(500 - full.length()), full.length());
    }

    private static void gone() {
        Check.sentence("What was collected comes to an agent as a message from outside, and is gone");
        for (int agent = 0; agent < 2; agent++) {
            CallAgents x = new CallAgents();
            Check.due("taken", Check.inject(x, agent, Letter.request("BYE", agent).text()), 0);
            Check.due("taken, then gone", x.inject(agent), -10);
            Check.due("dropped", Check.inject(x, agent, Letter.request("ACK", agent).text()), 0);
            Check.due("dropped, then gone", x.inject(agent), -10);
            Check.due("wrong", Check.inject(x, agent, "BYTE"), -12);
            Check.due("wrong, then gone", x.inject(agent), -10);
            Check.told("one came and was answered, one was dropped", x, agent, 0, 0, 0, 0, 0, 0, 0, 1, 1);
            Check.told("nothing came to the other one", x, 1 - agent, 0, 0, 0, 0, 0, 0, 0, 0, 0);
        }
    }

    private static void noSuchAgent() {
        Check.sentence("NONE: no such agent");
        for (int agent : new int[] {-1, 2, 3, -2, 10, Integer.MIN_VALUE, Integer.MAX_VALUE}) {
            CallAgents x = new CallAgents();
            Check.due("inject(" + agent + "), nothing collected", x.inject(agent), CallAgents.NONE);
            Check.due("inject(" + agent + "), a message", Check.inject(x, agent, BYE), CallAgents.NONE);
            Check.due("it came to neither", x.told(0, 7) + x.told(0, 8) + x.told(1, 7) + x.told(1, 8), 0);
            Check.due("inject(" + agent + "), a wrong text", Check.inject(x, agent, "X"), CallAgents.NONE);
        }
    }
}
