import java.util.ArrayList;
import java.util.List;
import java.util.regex.Matcher;
import java.util.regex.Pattern;

/**
 * The document told a second time, for ModelTest: messages are texts, read by a pattern; time goes by one millisecond
 * after the other. It takes only texts that are messages, with the headers in the order in which agents write them.
 */
final class Model {
    private static final Pattern MESSAGE = Pattern.compile("(?:(?<request>INVITE|ACK|BYE) sip:(?<target>[01]) SIP/2\\.0"
            + "|SIP/2\\.0 (?<status>\\d+) \\w+)\nVia: SIP/2\\.0/UDP (?<via>[01]);branch=z9hG4bK(?<branch>\\d+)\n"
            + "From: <sip:(?<from>[01])>;tag=(?<fromtag>\\d+)\nTo: <sip:(?<to>[01])>(?:;tag=(?<totag>\\d+))?\n"
            + "Call-ID: (?<call>\\d+)\nCSeq: (?<seq>\\d+) (?<method>\\w+)\nContent-Length: \\d+\n\n(?<body>(?:m=.*\n)*)");

    final List<String> flight = new ArrayList<>();
    final Agent[] agents = {new Agent(0), new Agent(1)};
    int time;

    void pass(int milliseconds) {
        for (int n = 0; n < milliseconds; n++) {
            time++;
            agents[0].timers();
            agents[1].timers();
        }
    }

    void bring(int i) {
        String text = flight.remove(i);
        agents[receiver(text)].receive(text);
    }

    void twice(int i) {
        agents[receiver(flight.get(i))].receive(flight.get(i));
    }

    static Matcher read(String text) {
        Matcher read = MESSAGE.matcher(text);
        if (!read.matches()) {
            throw new IllegalArgumentException(text);
        }
        return read;
    }

    private static int receiver(String text) {
        Matcher read = read(text);
        return Integer.parseInt(read.group(read.group("request") == null ? "via" : "target"));
    }

    private static int number(Matcher read, String group) {
        return Integer.parseInt(read.group(group));
    }

    private static String message(String start, String via, String from, String to, String counts, List<String> lines) {
        String body = lines.isEmpty() ? "" : String.join("\n", lines) + "\n";
        return start + "\nVia: SIP/2.0/UDP " + via + "\nFrom: " + from + "\nTo: " + to + "\n" + counts
                + "\nContent-Length: " + body.length() + "\n\n" + body;
    }

    /** One of the two. */
    final class Agent {
        final int id;
        final List<String> own = new ArrayList<>();
        final List<String> agreed = new ArrayList<>();
        int state, ownTag, otherTag, call, seq, branch, sent, dropped;
        private int branches, tags, calls, inviteSeq, inviteBranch, began;
        private String offer = "", resend = "", response = "", ack = "";

        Agent(int id) {
            this.id = id;
        }

        void media(int port, int formats) {
            StringBuilder line = new StringBuilder("m=" + port);
            for (int f = 0; f < 8; f++) {
                line.append((formats & 1 << f) != 0 ? " " + f : "");
            }
            own.add(line.toString());
        }

        boolean free() {
            return state == 0 || state == 4 || state == 9;
        }

        int[] told() {
            return new int[] {state, ownTag, otherTag, call, seq, branch, agreed.size(), sent, dropped};
        }

        private void send(String text) {
            sent++;
            flight.add(text);
            if (flight.size() > 60) {
                flight.remove(0);
            }
        }

        private void sendUntil(String text, int next) {
            send(text);
            resend = text;
            began = time;
            state = next;
        }

        private void timers() {
            boolean waits = state == 1 || state == 6 || state == 7 || state == 8;
            int gone = time - began;
            boolean early = gone == 500 || gone == 1500 || gone == 3500 || gone == 7500;
            boolean late = state == 1 ? gone == 15500 || gone == 31500 : gone > 7500 && (gone - 7500) % 4000 == 0;
            if (waits && (early || late)) {
                send(resend);
            }
            if (waits && gone == 32000) {
                state = state == 1 ? 4 : 9;
            }
        }

        private String request(String method, String toTag, int count, List<String> lines) {
            return message(method + " sip:" + (1 - id) + " SIP/2.0", id + ";branch=z9hG4bK" + branch,
                    "<sip:" + id + ">;tag=" + ownTag, "<sip:" + (1 - id) + ">" + toTag,
                    "Call-ID: " + call + "\nCSeq: " + count + " " + method, lines);
        }

        boolean invite() {
            if (!free() || own.isEmpty()) {
                return false;
            }
            calls++;
            tags++;
            branches++;
            seq++;
            call = 2 * calls + id;
            ownTag = tags;
            otherTag = 0;
            branch = branches;
            inviteBranch = branches;
            inviteSeq = seq;
            agreed.clear();
            ack = "";
            sendUntil(request("INVITE", "", seq, own), 1);
            return true;
        }

        boolean accept() {
            if (state != 5) {
                return false;
            }
            agreed.clear();
            String[] lines = offer.isEmpty() ? new String[0] : offer.split("\n");
            for (int i = 0; i < lines.length; i++) {
                agreed.add(answer(lines[i], i < own.size() ? own.get(i) : "m=0"));
            }
            response = reply("200 OK", response, ownTag, agreed);
            sendUntil(response, 6);
            return true;
        }

        private String answer(String offered, String mine) {
            StringBuilder formats = new StringBuilder();
            for (String format : offered.substring(offered.indexOf(' ') + 1).split(" ")) {
                formats.append((mine + " ").indexOf(" " + format + " ") >= 0 ? " " + format : "");
            }
            boolean none = offered.startsWith("m=0 ") || formats.length() == 0;
            return none ? "m=0" + offered.substring(offered.indexOf(' ')) : mine.substring(0, mine.indexOf(' ')) + formats;
        }

        boolean refuse() {
            if (state != 5) {
                return false;
            }
            response = reply("486 Busy", response, ownTag, List.of());
            sendUntil(response, 7);
            return true;
        }

        boolean hang() {
            if (state != 3) {
                return false;
            }
            branch = ++branches;
            seq++;
            sendUntil(request("BYE", ";tag=" + otherTag, seq, List.of()), 8);
            return true;
        }

        /** The headers of a request, or of another response to it, but for To's tag. */
        private String reply(String status, String text, int tag, List<String> lines) {
            Matcher read = read(text);
            return message("SIP/2.0 " + status, read.group("via") + ";branch=z9hG4bK" + read.group("branch"),
                    "<sip:" + read.group("from") + ">;tag=" + read.group("fromtag"),
                    "<sip:" + read.group("to") + ">" + (tag < 0 ? "" : ";tag=" + tag),
                    "Call-ID: " + read.group("call") + "\nCSeq: " + read.group("seq") + " " + read.group("method"), lines);
        }

        void receive(String text) {
            Matcher read = read(text);
            boolean request = read.group("request") != null;
            int sender = request ? 1 - id : id;
            boolean here = (!request || number(read, "target") == id) && number(read, "via") == sender
                    && number(read, "from") == sender && number(read, "to") == 1 - sender;
            if (!here || !(request ? takesRequest(read, text) : takesResponse(read))) {
                dropped++;
            }
        }

        private boolean takesRequest(Matcher read, String text) {
            boolean ofCall = number(read, "call") == call;
            boolean tagged = read.group("totag") != null;
            switch (read.group("request")) {
                case "INVITE":
                    if (!tagged) {
                        takeInvite(read, text);
                    }
                    return !tagged;
                case "ACK":
                    boolean awaited = (state == 6 || state == 7) && ofCall && number(read, "seq") == inviteSeq;
                    state = !awaited ? state : state == 6 ? 3 : 9;
                    return awaited;
                default:
                    boolean both = tagged && number(read, "totag") == ownTag && number(read, "fromtag") == otherTag;
                    boolean ends = ofCall && both && (state == 3 || state == 6 || state == 8);
                    state = ends ? 9 : state;
                    send(reply(ends ? "200 OK" : "481 Gone", text, tagged ? number(read, "totag") : -1, List.of()));
                    return true;
            }
        }

        private void takeInvite(Matcher read, String text) {
            boolean same = number(read, "branch") == inviteBranch && number(read, "call") == call;
            if (same && state >= 5 && state <= 7) {
                send(response);
            } else if (!free()) {
                send(reply("486 Busy", text, ++tags, List.of()));
            } else {
                call = number(read, "call");
                otherTag = number(read, "fromtag");
                inviteBranch = number(read, "branch");
                inviteSeq = number(read, "seq");
                ownTag = ++tags;
                offer = read.group("body");
                agreed.clear();
                ack = "";
                response = reply("180 Ringing", text, ownTag, List.of());
                send(response);
                state = 5;
            }
        }

        private boolean takesResponse(Matcher read) {
            boolean ofCall = number(read, "call") == call;
            boolean ofBye = read.group("method").equals("BYE") && ofCall && number(read, "branch") == branch
                    && number(read, "seq") == seq && state == 8;
            boolean ofInvite = ofCall && number(read, "seq") == inviteSeq && number(read, "fromtag") == ownTag;
            boolean ofBranch = ofInvite && number(read, "branch") == inviteBranch;
            boolean ofMethod = read.group("method").equals("INVITE");
            switch (read.group("status")) {
                case "180":
                    boolean rings = ofBranch && state == 1;
                    state = rings ? 2 : state;
                    return rings;
                case "486":
                    return ofBranch && ofMethod && takesBusy(read);
                case "200":
                    if (ofInvite && ofMethod && read.group("totag") != null) {
                        return takesOk(read);
                    }
                    break;
                default:
                    break;
            }
            state = ofBye ? 9 : state;
            return ofBye;
        }

        private boolean takesBusy(Matcher read) {
            if (state == 1 || state == 2) {
                ack = request("ACK", read.group("totag") == null ? "" : ";tag=" + read.group("totag"), inviteSeq, List.of());
                send(ack);
                state = 4;
                return true;
            }
            return state == 4 && acksAgain();
        }

        private boolean takesOk(Matcher read) {
            if (state == 1 || state == 2) {
                otherTag = number(read, "totag");
                branch = ++branches;
                agreed.clear();
                agreed.addAll(read.group("body").isEmpty() ? List.of() : List.of(read.group("body").split("\n")));
                ack = request("ACK", ";tag=" + otherTag, inviteSeq, List.of());
                send(ack);
                state = 3;
                return true;
            }
            return state == 3 && number(read, "totag") == otherTag && acksAgain();
        }

        private boolean acksAgain() {
            if (!ack.isEmpty()) {
                send(ack);
            }
            return !ack.isEmpty();
        }
    }
}
