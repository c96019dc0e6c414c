/** A message that a test writes from outside; what is not set is as in the first call of agent 0. */
final class Letter {
    private String start;
    private int via;
    private int branch = 1;
    private int from;
    private int fromTag = 1;
    private int to;
    private String toTag = "";
    private int call = 2;
    private int seq = 1;
    private String method;
    private String body = "";

    private Letter(String start, int via, int from, int to, String method) {
        this.start = start;
        this.via = via;
        this.from = from;
        this.to = to;
        this.method = method;
    }

    /** From the other one to this agent. */
    static Letter request(String method, int agent) {
        return new Letter(method + " sip:" + agent + " SIP/2.0", 1 - agent, 1 - agent, agent, method);
    }

    /** To a request that this agent sent. */
    static Letter response(String status, String method, int agent) {
        return new Letter("SIP/2.0 " + status, agent, agent, 1 - agent, method);
    }

    Letter start(String line) {
        start = line;
        return this;
    }

    Letter via(int agent) {
        via = agent;
        return this;
    }

    Letter branch(int number) {
        branch = number;
        return this;
    }

    Letter from(int agent) {
        from = agent;
        return this;
    }

    Letter fromTag(int number) {
        fromTag = number;
        return this;
    }

    Letter to(int agent) {
        to = agent;
        return this;
    }

    Letter toTag(int number) {
        toTag = ";tag=" + number;
        return this;
    }

    Letter call(int number) {
        call = number;
        return this;
    }

    Letter seq(int number) {
        seq = number;
        return this;
    }

    Letter method(String word) {
        method = word;
        return this;
    }

    Letter body(String lines) {
        body = lines;
        return this;
    }

    Letter noToTag() {
        toTag = "";
        return this;
    }

    int via() {
        return via;
    }

    int branch() {
        return branch;
    }

    int from() {
        return from;
    }

    int fromTag() {
        return fromTag;
    }

    int to() {
        return to;
    }

    /** 0 where there is none. */
    int toTag() {
        return toTag.isEmpty() ? 0 : Integer.parseInt(toTag.substring(";tag=".length()));
    }

    int call() {
        return call;
    }

    int seq() {
        return seq;
    }

    String method() {
        return method;
    }

    String text() {
        return start + "\nVia: SIP/2.0/UDP " + via + ";branch=z9hG4bK" + branch
                + "\nFrom: <sip:" + from + ">;tag=" + fromTag + "\nTo: <sip:" + to + ">" + toTag
                + "\nCall-ID: " + call + "\nCSeq: " + seq + " " + method
                + "\nContent-Length: " + body.length() + "\n\n" + body;
    }
}
