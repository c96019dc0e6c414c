/**
 * Two agents that call each other by messages of a published kind over a link that may lose, delay
 * and double them. The numbered promises of the document say what each public method does.
 */
public final class CallAgents {
    public static final int BAD = -1, NONE = -2;

    /** What inject answers for a fault in sign 0; each sign further on is one less. */
    private static final int FAULT = -10;
    private static final int LONGEST_PASS = 100000;
    /** Far above the some twenty timers that can run out in the longest pass. */
    private static final int MOST_TIMERS = 1000;

    private final Link link = new Link();
    private final Agent first = new Agent(0, link);
    private final Agent second = new Agent(1, link);
    private final Text collected = new Text(500);
    private final Text page = new Text(500);
    private final Text body = new Text(100);
    private final Reader reader = new Reader(collected);
    /** A copy, since an answer may push the message that came out of the flight. */
    private final Message coming = new Message();
    private int time;

    public CallAgents() {
        time = 0;
    }

    public int media(int agent, int port, int formats) {
        Agent one = find(agent);
        if (one == null || port < 1 || port > Media.HIGHEST_PORT || formats < 1 || formats > 255) {
            return BAD;
        }
        return one.own.addOwn(port, formats) ? one.own.count : BAD;
    }

    public boolean invite(int agent) {
        Agent one = find(agent);
        return one != null && one.startCall(time);
    }

    public boolean accept(int agent) {
        Agent one = find(agent);
        return one != null && one.takeCall(time);
    }

    public boolean refuse(int agent) {
        Agent one = find(agent);
        return one != null && one.turnDown(time);
    }

    public boolean hang(int agent) {
        Agent one = find(agent);
        return one != null && one.endCall(time);
    }

    public int bring(int i) {
        Agent one = receiverOf(i);
        if (one == null) {
            return BAD;
        }
        link.remove(i);
        one.receive(coming);
        return link.count;
    }

    public int twice(int i) {
        Agent one = receiverOf(i);
        if (one == null) {
            return BAD;
        }
        one.receive(coming);
        return link.count;
    }

    public int lose(int i) {
        return link.remove(i) ? link.count : BAD;
    }

    public int flying() {
        return link.count;
    }

    public int sign(int i, int k) {
        Message message = link.get(i);
        if (message == null) {
            return BAD;
        }
        message.write(page, body);
        return page.at(k);
    }

    public boolean unit(int u) {
        boolean known = u == Text.END || (u >= 32 && u <= 126);
        return known && collected.add(u);
    }

    public int inject(int agent) {
        Agent one = find(agent);
        if (one == null) {
            return NONE;
        }
        int fault = reader.read(coming);
        collected.clear();
        if (fault >= 0) {
            return FAULT - fault;
        }
        one.receive(coming);
        return 0;
    }

    public int pass(int milliseconds) {
        if (milliseconds < 1 || milliseconds > LONGEST_PASS) {
            return BAD;
        }
        int until = time + milliseconds;
        for (int n = 0; n < MOST_TIMERS; n++) {
            Agent next = nextByTimer(until);
            if (next == null) {
                break;
            }
            next.runTimer();
        }
        time = until;
        return time;
    }

    public int told(int agent, int what) {
        Agent one = find(agent);
        return one == null ? BAD : one.tell(what);
    }

    public int line(int agent, int i, int what) {
        Agent one = find(agent);
        return one == null ? BAD : one.dialog.agreed.cell(i, what);
    }

    private Agent find(int agent) {
        if (agent == 0) {
            return first;
        }
        return agent == 1 ? second : null;
    }

    /** Copies message i in flight to the one that comes; its agent, or null if there is none such. */
    private Agent receiverOf(int i) {
        Message message = link.get(i);
        if (message == null) {
            return null;
        }
        coming.copy(message);
        return find(message.receiver());
    }

    /** The agent whose timer is next, of equal ones the first; null if none runs out by that time. */
    private Agent nextByTimer(int until) {
        boolean firstComes = first.timer.comesBy(until);
        if (!second.timer.comesBy(until)) {
            return firstComes ? first : null;
        }
        return firstComes && first.timer.next() <= second.timer.next() ? first : second;
    }

    /** The words that the writer and the reader share; those of one choice stand side by side. */
    static final class Words {
        static final int FIRST_START = 0, LAST_START = 6;
        static final int VIA = 7, FROM = 8, TO = 9, CALL_ID = 10, CSEQ = 11, LENGTH = 12;
        static final int FIRST_METHOD = 13, LAST_METHOD = 15;
        static final String VERSION = " SIP/2.0";
        static final String PROTOCOL = "SIP/2.0/UDP ";
        static final String BRANCH = ";branch=z9hG4bK";
        static final String ADDRESS = "<sip:";
        static final String TAGGED = ">;tag=";
        static final String UNTAGGED = ">";
        static final String TAG = ";tag=";
        static final String MEDIA = "m=";

        static String get(int word) {
            switch (word) {
                case FIRST_START + Message.INVITE:
                    return "INVITE sip:";
                case FIRST_START + Message.ACK:
                    return "ACK sip:";
                case FIRST_START + Message.BYE:
                    return "BYE sip:";
                case FIRST_START + Message.RINGING:
                    return "SIP/2.0 180 Ringing";
                case FIRST_START + Message.OK:
                    return "SIP/2.0 200 OK";
                case FIRST_START + Message.BUSY:
                    return "SIP/2.0 486 Busy";
                case FIRST_START + Message.GONE:
                    return "SIP/2.0 481 Gone";
                case VIA:
                    return "Via: ";
                case FROM:
                    return "From: ";
                case TO:
                    return "To: ";
                case CALL_ID:
                    return "Call-ID: ";
                case CSEQ:
                    return "CSeq: ";
                case LENGTH:
                    return "Content-Length: ";
                case FIRST_METHOD + Message.INVITE:
                    return "INVITE";
                case FIRST_METHOD + Message.ACK:
                    return "ACK";
                default:
                    return "BYE";
            }
        }
    }

    /** Signs in a row of fixed room. */
    static final class Text {
        static final int END = 10;
        static final int HIGHEST_POWER = 1000000000;

        final char[] signs;
        int length;

        Text(int room) {
            signs = new char[Math.max(room, 0)];
        }

        void clear() {
            length = 0;
        }

        /** Sign i, or BAD where there is none. */
        int at(int i) {
            return i >= 0 && i < length && i < signs.length ? signs[i] : BAD;
        }

        boolean add(int sign) {
            if (length < 0 || length >= signs.length) {
                return false;
            }
            signs[length] = (char) sign;
            length++;
            return true;
        }

        void addWord(String word) {
            for (int i = 0; i < word.length(); i++) {
                add(word.charAt(i));
            }
        }

        void addNumber(int number) {
            boolean begun = false;
            for (int power = HIGHEST_POWER; power > 0; power /= 10) {
                int digit = number / power % 10;
                begun = begun || digit != 0 || power == 1;
                if (begun) {
                    add('0' + digit);
                }
            }
        }

        void addText(Text other) {
            for (int i = 0; i < other.length; i++) {
                add(other.at(i));
            }
        }
    }

    /** Media lines; of each its port, how many formats it has, and these. */
    static final class Media {
        static final int LINES = 3, FORMATS = 8, HIGHEST_PORT = 65535;
        static final int PORT = 0, SIZE = 1, BEFORE_FORMATS = 2;
        static final int WIDTH = BEFORE_FORMATS + FORMATS;

        final int[] cells = new int[LINES * WIDTH];
        int count;

        /** What the document's line answers: BAD where there is no such line or format. */
        int cell(int i, int what) {
            if (i < 0 || i >= count || i >= LINES || what < 0 || what >= WIDTH) {
                return BAD;
            }
            int start = i * WIDTH;
            return what < BEFORE_FORMATS + cells[start + SIZE] ? cells[start + what] : BAD;
        }

        boolean add(int port) {
            if (count < 0 || count >= LINES) {
                return false;
            }
            cells[count * WIDTH + PORT] = port;
            cells[count * WIDTH + SIZE] = 0;
            count++;
            return true;
        }

        /** One more format of the last line. */
        void addFormat(int format) {
            if (count < 1 || count > LINES) {
                return;
            }
            int start = (count - 1) * WIDTH;
            int size = cells[start + SIZE];
            if (size >= 0 && size < FORMATS) {
                cells[start + BEFORE_FORMATS + size] = format;
                cells[start + SIZE] = size + 1;
            }
        }

        /** A line whose formats are the bits of a number. */
        boolean addOwn(int port, int bits) {
            if (!add(port)) {
                return false;
            }
            for (int format = 0; format < FORMATS; format++) {
                if ((bits >> format & 1) == 1) {
                    addFormat(format);
                }
            }
            return true;
        }

        void clear() {
            count = 0;
        }

        void copy(Media other) {
            count = other.count;
            for (int i = 0; i < LINES * WIDTH; i++) {
                cells[i] = other.cells[i];
            }
        }

        /** Becomes the answer that an agent with such own media gives to an offer. */
        void answer(Media offer, Media own) {
            clear();
            for (int i = 0; i < offer.count; i++) {
                boolean wanted = offer.cell(i, PORT) != 0 && own.shares(i, offer);
                add(wanted ? own.cell(i, PORT) : 0);
                for (int f = 0; f < offer.cell(i, SIZE); f++) {
                    int format = offer.cell(i, BEFORE_FORMATS + f);
                    if (!wanted || own.has(i, format)) {
                        addFormat(format);
                    }
                }
            }
        }

        boolean shares(int i, Media offer) {
            for (int f = 0; f < offer.cell(i, SIZE); f++) {
                if (has(i, offer.cell(i, BEFORE_FORMATS + f))) {
                    return true;
                }
            }
            return false;
        }

        boolean has(int i, int format) {
            for (int f = 0; f < cell(i, SIZE); f++) {
                if (cell(i, BEFORE_FORMATS + f) == format) {
                    return true;
                }
            }
            return false;
        }

        void write(Text text) {
            for (int i = 0; i < count; i++) {
                text.addWord(Words.MEDIA);
                text.addNumber(cell(i, PORT));
                for (int f = 0; f < cell(i, SIZE); f++) {
                    text.add(' ');
                    text.addNumber(cell(i, BEFORE_FORMATS + f));
                }
                text.add(Text.END);
            }
        }
    }

    /**
     * What a message says. Its text follows from that, since agents always write headers in one
     * order; so messages in flight are kept without their texts, which would take far more room.
     */
    static final class Message {
        /** The kinds of first lines; the first three are the methods, too. */
        static final int INVITE = 0, ACK = 1, BYE = 2, RINGING = 3, OK = 4, BUSY = 5, GONE = 6;

        final Media lines = new Media();
        int kind;
        /** The agent in a request's first line. */
        int target;
        int via;
        int branch;
        int from;
        int fromTag;
        int to;
        boolean toTagged;
        int toTag;
        int call;
        int seq;
        /** That of CSeq: in a request its own one. */
        int method;

        boolean isRequest() {
            return kind <= BYE;
        }

        /** Of a message that an agent wrote: the one that it flies to. */
        int receiver() {
            return isRequest() ? target : via;
        }

        void copy(Message other) {
            kind = other.kind;
            target = other.target;
            via = other.via;
            branch = other.branch;
            from = other.from;
            fromTag = other.fromTag;
            to = other.to;
            toTagged = other.toTagged;
            toTag = other.toTag;
            call = other.call;
            seq = other.seq;
            method = other.method;
            lines.copy(other.lines);
        }

        /** Becomes the response to a request, without media, To as it came. */
        void answer(Message request, int response) {
            copy(request);
            kind = response;
            lines.clear();
        }

        void tagTo(int tag) {
            toTagged = true;
            toTag = tag;
        }

        /** Writes the text on the page; the body comes first, since its length stands before it. */
        void write(Text page, Text body) {
            body.clear();
            lines.write(body);
            page.clear();
            page.addWord(Words.get(Words.FIRST_START + kind));
            if (isRequest()) {
                page.addNumber(target);
                page.addWord(Words.VERSION);
            }
            page.add(Text.END);
            writeAddresses(page);
            writeCounts(page, body.length);
            page.add(Text.END);
            page.addText(body);
        }

        void writeAddresses(Text page) {
            page.addWord(Words.get(Words.VIA));
            page.addWord(Words.PROTOCOL);
            page.addNumber(via);
            page.addWord(Words.BRANCH);
            page.addNumber(branch);
            page.add(Text.END);
            page.addWord(Words.get(Words.FROM));
            page.addWord(Words.ADDRESS);
            page.addNumber(from);
            page.addWord(Words.TAGGED);
            page.addNumber(fromTag);
            page.add(Text.END);
            page.addWord(Words.get(Words.TO));
            page.addWord(Words.ADDRESS);
            page.addNumber(to);
            page.addWord(toTagged ? Words.TAGGED : Words.UNTAGGED);
            if (toTagged) {
                page.addNumber(toTag);
            }
            page.add(Text.END);
        }

        void writeCounts(Text page, int length) {
            page.addWord(Words.get(Words.CALL_ID));
            page.addNumber(call);
            page.add(Text.END);
            page.addWord(Words.get(Words.CSEQ));
            page.addNumber(seq);
            page.add(' ');
            page.addWord(Words.get(Words.FIRST_METHOD + method));
            page.add(Text.END);
            page.addWord(Words.get(Words.LENGTH));
            page.addNumber(length);
            page.add(Text.END);
        }
    }

    /** The messages in flight, the oldest first. */
    static final class Link {
        static final int ROOM = 60;

        /** Each place has its message from the start; those behind the count wait for use. */
        final Message[] places = new Message[ROOM];
        int count;

        Link() {
            for (int i = 0; i < ROOM; i++) {
                places[i] = new Message();
            }
        }

        /** Message i in flight, or null where there is none. */
        Message get(int i) {
            return i >= 0 && i < count && i < ROOM ? places[i] : null;
        }

        boolean remove(int i) {
            Message gone = get(i);
            if (gone == null) {
                return false;
            }
            for (int k = i; k + 1 < count && k + 1 < ROOM; k++) {
                places[k] = places[k + 1];
            }
            count--;
            if (count >= 0 && count < ROOM) {
                places[count] = gone;
            }
            return true;
        }

        void push(Message message) {
            if (count >= ROOM) {
                remove(0);
            }
            if (count >= 0 && count < ROOM && places[count] != null) {
                places[count].copy(message);
                count++;
            }
        }
    }

    /** The two timers of an agent that waits: one that sends again and one that gives up. */
    static final class Timer {
        static final int FIRST_GAP = 500, PATIENCE = 32000;

        boolean on;
        int resendAt;
        int giveUpAt;
        int gap;
        int longestGap;

        void start(int now, int longest) {
            on = true;
            gap = FIRST_GAP;
            longestGap = longest;
            resendAt = now + gap;
            giveUpAt = now + PATIENCE;
        }

        void stop() {
            on = false;
        }

        boolean resendsNext() {
            return resendAt <= giveUpAt;
        }

        int next() {
            return Math.min(resendAt, giveUpAt);
        }

        boolean comesBy(int until) {
            return on && next() <= until;
        }

        void setNextResend() {
            gap = Math.min(2 * gap, longestGap);
            resendAt += gap;
        }
    }

    /** What an agent knows of its call: the INVITE that began it, the tags, and the media. */
    static final class Dialog {
        final Media offered = new Media();
        final Media agreed = new Media();
        int call;
        int branch;
        int seq;
        int ownTag;
        int otherTag;

        void begin(Message invite, int own, int other) {
            call = invite.call;
            branch = invite.branch;
            seq = invite.seq;
            ownTag = own;
            otherTag = other;
            offered.copy(invite.lines);
            agreed.clear();
        }

        boolean startedWith(Message invite) {
            return invite.branch == branch && invite.call == call;
        }

        /** Whether a response is to the INVITE that this agent sent, but for branch and method. */
        boolean isAnsweredBy(Message response) {
            return response.call == call && response.seq == seq && response.fromTag == ownTag;
        }

        boolean hasBoth(Message bye) {
            return bye.call == call && bye.fromTag == otherTag && bye.toTagged && bye.toTag == ownTag;
        }
    }

    /** One of the two: what it keeps, and what it does with calls and with messages that come. */
    static final class Agent {
        static final int IDLE = 0, CALLING = 1, RINGS_THERE = 2, TALKING = 3, ENDED = 4;
        static final int RINGS_HERE = 5, ACCEPTED = 6, REFUSED = 7, HANGING = 8, OVER = 9;
        static final int SHORT_GAPS = 4000;

        final int id;
        final int other;
        final Link link;
        final Media own = new Media();
        final Dialog dialog = new Dialog();
        final Timer timer = new Timer();
        /** What it sends again: the INVITE, the response to one, the BYE, or at last the ACK. */
        final Message kept = new Message();
        final Message draft = new Message();
        int state;
        int seq;
        /** The count of its branches is the branch of its last request, too. */
        int branch;
        int tags;
        int calls;
        /** Whether what is kept is an ACK. */
        boolean acknowledged;
        int sent;
        int dropped;

        Agent(int id, Link link) {
            this.id = id;
            this.other = 1 - id;
            this.link = link;
        }

        boolean isFree() {
            return state == IDLE || state == ENDED || state == OVER;
        }

        boolean startCall(int now) {
            if (!isFree() || own.count == 0) {
                return false;
            }
            seq++;
            branch++;
            tags++;
            calls++;
            draftRequest(Message.INVITE, 2 * calls + id, tags);
            draft.toTagged = false;
            draft.toTag = 0;
            draft.lines.copy(own);
            dialog.begin(draft, tags, 0);
            acknowledged = false;
            keep();
            send(kept);
            waitIn(CALLING, now, Timer.PATIENCE);
            return true;
        }

        boolean takeCall(int now) {
            if (state != RINGS_HERE) {
                return false;
            }
            dialog.agreed.answer(dialog.offered, own);
            draft.copy(kept);
            draft.kind = Message.OK;
            draft.lines.copy(dialog.agreed);
            keep();
            send(kept);
            waitIn(ACCEPTED, now, SHORT_GAPS);
            return true;
        }

        boolean turnDown(int now) {
            if (state != RINGS_HERE) {
                return false;
            }
            draft.copy(kept);
            draft.kind = Message.BUSY;
            keep();
            send(kept);
            waitIn(REFUSED, now, SHORT_GAPS);
            return true;
        }

        boolean endCall(int now) {
            if (state != TALKING) {
                return false;
            }
            seq++;
            branch++;
            draftRequest(Message.BYE, dialog.call, dialog.ownTag);
            draft.tagTo(dialog.otherTag);
            acknowledged = false;
            keep();
            send(kept);
            waitIn(HANGING, now, SHORT_GAPS);
            return true;
        }

        void runTimer() {
            if (timer.resendsNext()) {
                timer.setNextResend();
                send(kept);
            } else {
                enter(state == CALLING ? ENDED : OVER);
            }
        }

        void receive(Message message) {
            boolean taken;
            switch (message.kind) {
                case Message.INVITE:
                    taken = isRequestHere(message) && takeInvite(message);
                    break;
                case Message.ACK:
                    taken = isRequestHere(message) && takeAck(message);
                    break;
                case Message.BYE:
                    taken = isRequestHere(message) && takeBye(message);
                    break;
                case Message.RINGING:
                    taken = isResponseHere(message) && takeRinging(message);
                    break;
                case Message.BUSY:
                    taken = isResponseHere(message) && takeBusy(message);
                    break;
                case Message.OK:
                    taken = isResponseHere(message) && (takeOk(message) || takeByeResponse(message));
                    break;
                default:
                    taken = isResponseHere(message) && takeByeResponse(message);
                    break;
            }
            if (!taken) {
                dropped++;
            }
        }

        int tell(int what) {
            switch (what) {
                case 0:
                    return state;
                case 1:
                    return dialog.ownTag;
                case 2:
                    return dialog.otherTag;
                case 3:
                    return dialog.call;
                case 4:
                    return seq;
                case 5:
                    return branch;
                case 6:
                    return dialog.agreed.count;
                case 7:
                    return sent;
                case 8:
                    return dropped;
                default:
                    return BAD;
            }
        }

        private boolean isRequestHere(Message request) {
            return request.target == id && request.to == id
                    && request.via == other && request.from == other;
        }

        private boolean isResponseHere(Message response) {
            return response.via == id && response.from == id && response.to == other;
        }

        private boolean takeInvite(Message invite) {
            if (invite.toTagged) {
                return false;
            }
            if (state >= RINGS_HERE && state <= REFUSED && dialog.startedWith(invite)) {
                send(kept);
                return true;
            }
            boolean free = isFree();
            tags++;
            draft.answer(invite, free ? Message.RINGING : Message.BUSY);
            draft.tagTo(tags);
            if (free) {
                dialog.begin(invite, tags, invite.fromTag);
                acknowledged = false;
                keep();
                enter(RINGS_HERE);
            }
            send(draft);
            return true;
        }

        private boolean takeAck(Message ack) {
            boolean waits = state == ACCEPTED || state == REFUSED;
            if (!waits || ack.call != dialog.call || ack.seq != dialog.seq) {
                return false;
            }
            enter(state == ACCEPTED ? TALKING : OVER);
            return true;
        }

        private boolean takeBye(Message bye) {
            boolean talks = state == TALKING || state == ACCEPTED || state == HANGING;
            if (talks && dialog.hasBoth(bye)) {
                draft.answer(bye, Message.OK);
                enter(OVER);
            } else {
                draft.answer(bye, Message.GONE);
            }
            send(draft);
            return true;
        }

        private boolean takeRinging(Message ringing) {
            if (state != CALLING || ringing.branch != dialog.branch || !dialog.isAnsweredBy(ringing)) {
                return false;
            }
            enter(RINGS_THERE);
            return true;
        }

        private boolean takeOk(Message ok) {
            if (ok.method != Message.INVITE || !dialog.isAnsweredBy(ok) || !ok.toTagged) {
                return false;
            }
            if (state == CALLING || state == RINGS_THERE) {
                dialog.otherTag = ok.toTag;
                dialog.agreed.copy(ok.lines);
                branch++;
                keepAck(ok);
                send(kept);
                enter(TALKING);
                return true;
            }
            if (state != TALKING || !acknowledged || ok.toTag != dialog.otherTag) {
                return false;
            }
            send(kept);
            return true;
        }

        private boolean takeBusy(Message busy) {
            if (busy.method != Message.INVITE || busy.branch != dialog.branch
                    || !dialog.isAnsweredBy(busy)) {
                return false;
            }
            if (state == CALLING || state == RINGS_THERE) {
                keepAck(busy);
                send(kept);
                enter(ENDED);
                return true;
            }
            if (state != ENDED || !acknowledged) {
                return false;
            }
            send(kept);
            return true;
        }

        private boolean takeByeResponse(Message response) {
            if (state != HANGING || response.method != Message.BYE || response.branch != branch
                    || response.call != dialog.call || response.seq != seq) {
                return false;
            }
            enter(OVER);
            return true;
        }

        /** The ACK of the own INVITE: SEQ is still that one's; the branch is, too, if no new one was taken. */
        private void keepAck(Message response) {
            draftRequest(Message.ACK, dialog.call, dialog.ownTag);
            draft.toTagged = response.toTagged;
            draft.toTag = response.toTag;
            acknowledged = true;
            keep();
        }

        /** A request with the agent's branch and count, without media; To is left to the caller. */
        private void draftRequest(int method, int call, int tag) {
            draft.kind = method;
            draft.method = method;
            draft.target = other;
            draft.via = id;
            draft.branch = branch;
            draft.from = id;
            draft.fromTag = tag;
            draft.to = other;
            draft.call = call;
            draft.seq = seq;
            draft.lines.clear();
        }

        private void keep() {
            kept.copy(draft);
        }

        private void send(Message message) {
            sent++;
            link.push(message);
        }

        /** Enters a state that has no timers. */
        private void enter(int next) {
            state = next;
            timer.stop();
        }

        private void waitIn(int next, int now, int longestGap) {
            state = next;
            timer.start(now, longestGap);
        }
    }

    /** Reads the collected signs as a message; the first fault that it meets is the one it tells. */
    static final class Reader {
        static final int MOST_DIGITS = 9, HIGHEST = 999999999;

        final Text text;
        int at;
        /** Behind the last sign that may be read: the text's end, later the body's, if that is nearer. */
        int limit;
        int fault;
        int bodyLength;

        Reader(Text text) {
            this.text = text;
        }

        /** The number of the first sign that is wrong, or BAD if all are right. */
        int read(Message message) {
            at = 0;
            limit = text.length;
            fault = BAD;
            bodyLength = 0;
            readStart(message);
            int seen = 0;
            for (int n = Words.VIA; n <= Words.LENGTH && fault < 0; n++) {
                seen |= readHeader(message, seen);
                expectSign(Text.END);
            }
            expectSign(Text.END);
            readBody(message.lines);
            return fault;
        }

        private void readStart(Message message) {
            message.kind = choose(Words.FIRST_START, Words.LAST_START);
            message.target = 0;
            if (message.isRequest()) {
                message.target = readAgent();
                expect(Words.VERSION);
            }
            expectSign(Text.END);
        }

        /**
         * Which header it was, as a bit. A missing one shows itself by the empty line, which fits none. One that
         * comes again does so by its name alone, whatever stands behind it: so the name is read apart from the rest.
         */
        private int readHeader(Message message, int seen) {
            int start = at;
            int header = choose(Words.VIA, Words.LENGTH);
            int bit = 1 << header;
            if ((seen & bit) != 0) {
                fail(start);
            }
            switch (Words.VIA + header) {
                case Words.VIA:
                    expect(Words.PROTOCOL);
                    message.via = readAgent();
                    expect(Words.BRANCH);
                    message.branch = readNumber(HIGHEST);
                    break;
                case Words.FROM:
                    expect(Words.ADDRESS);
                    message.from = readAgent();
                    expect(Words.TAGGED);
                    message.fromTag = readNumber(HIGHEST);
                    break;
                case Words.TO:
                    expect(Words.ADDRESS);
                    message.to = readAgent();
                    expect(Words.UNTAGGED);
                    readToTag(message);
                    break;
                case Words.CALL_ID:
                    message.call = readNumber(HIGHEST);
                    break;
                case Words.CSEQ:
                    readCSeq(message);
                    break;
                default:
                    bodyLength = readNumber(HIGHEST);
                    break;
            }
            return bit;
        }

        private void readToTag(Message message) {
            message.toTagged = here() != Text.END;
            message.toTag = 0;
            if (message.toTagged) {
                expect(Words.TAG);
                message.toTag = readNumber(HIGHEST);
            }
        }

        private void readCSeq(Message message) {
            message.seq = readNumber(HIGHEST);
            expectSign(' ');
            int start = at;
            message.method = choose(Words.FIRST_METHOD, Words.LAST_METHOD);
            if (message.isRequest() && message.method != message.kind) {
                fail(start);
            }
        }

        private void readBody(Media lines) {
            int end = at + bodyLength;
            lines.clear();
            limit = Math.min(limit, end);
            for (int n = 0; n < Media.LINES && at < end && fault < 0; n++) {
                readLine(lines);
            }
            if (at < end || at < text.length) {
                fail(at);
            }
        }

        private void readLine(Media lines) {
            expect(Words.MEDIA);
            lines.add(readNumber(Media.HIGHEST_PORT));
            expectSign(' ');
            lines.addFormat(readDigit('7'));
            for (int n = 1; n < Media.FORMATS && here() == ' '; n++) {
                expectSign(' ');
                lines.addFormat(readDigit('7'));
            }
            expectSign(Text.END);
        }

        private int readAgent() {
            return readDigit('1');
        }

        /** A single digit up to a highest one. */
        private int readDigit(int highest) {
            int sign = here();
            if (sign < '0' || sign > highest) {
                fail(at);
                return 0;
            }
            at++;
            return sign - '0';
        }

        private int readNumber(int highest) {
            int start = at;
            int value = 0;
            for (int n = 0; n < limit && here() >= '0' && here() <= '9'; n++) {
                value = at - start < MOST_DIGITS ? 10 * value + here() - '0' : value;
                at++;
            }
            int digits = at - start;
            if (digits == 0 || digits > MOST_DIGITS || value > highest
                    || (digits > 1 && text.at(start) == '0')) {
                fail(start);
            }
            return value;
        }

        private void expect(String word) {
            int fitting = fits(word);
            if (fitting < word.length()) {
                fail(at + fitting);
            }
            at += fitting;
        }

        private void expectSign(int sign) {
            if (here() == sign) {
                at++;
            } else {
                fail(at);
            }
        }

        /** Which of some words stands here, from 0 on; else the first sign that fits none is wrong. */
        private int choose(int first, int last) {
            int furthest = 0;
            for (int word = first; word <= last; word++) {
                int fitting = fits(Words.get(word));
                if (fitting == Words.get(word).length()) {
                    at += fitting;
                    return word - first;
                }
                furthest = Math.max(furthest, fitting);
            }
            fail(at + furthest);
            return 0;
        }

        /** How many signs of a word stand here, from its first one on. */
        private int fits(String word) {
            int n = 0;
            while (n < word.length() && at + n < limit && text.at(at + n) == word.charAt(n)) {
                n++;
            }
            return n;
        }

        private int here() {
            return at < limit ? text.at(at) : BAD;
        }

        /** The fault that is met first counts; what is read behind it is of no use. */
        private void fail(int sign) {
            if (fault < 0) {
                fault = sign;
            }
        }
    }
}
