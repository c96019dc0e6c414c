import java.util.List;
import java.util.function.Supplier;

/**
 * By which branch, call, SEQ, tag and method a message is taken, and by which not: each is put one higher and one
 * lower than it is due, where it counts and where it does not.
 */
final class FieldsTest {
    private static final String BRANCH = "branch", CALL = "call", SEQ = "SEQ", FROM_TAG = "From tag", TO_TAG = "To tag";
    private static final String NO_TO_TAG = "no To tag", METHOD = "method", BODY = "body";
    private static final String[] ALL = {BRANCH, CALL, SEQ, FROM_TAG, TO_TAG, NO_TO_TAG, METHOD, BODY};
    /** A tag of the other one that is told by a message from outside. */
    private static final int OTHERS_TAG = 51;

    public static void main(String[] args) {
        ringing();
        okToInvite();
        busyToInvite();
        endsOfBye();
        acks();
        byes();
        theSameInvite();
        addresses();
        Check.finish("FieldsTest");
    }

    /** Agent 0 is in its third call to agent 1: branch, call, SEQ and tag are all above 1. */
    private static CallAgents calling() {
        CallAgents x = Check.withMedia();
        for (int n = 0; n < 3; n++) {
            x.invite(0);
            x.pass(n < 2 ? 32000 : 1);
        }
        Check.loseAll(x);
        Check.told("the third call", x, 0, 1, 3, 0, 6, 3, 3, 0, 15, 0);
        return x;
    }

    private static CallAgents ringsThere() {
        CallAgents x = calling();
        Check.comes("180", x, 0, response("180 Ringing"), false);
        return x;
    }

    private static CallAgents talking() {
        CallAgents x = calling();
        Check.comes("200", x, 0, response("200 OK").toTag(OTHERS_TAG), false);
        Check.loseAll(x);
        return x;
    }

    private static CallAgents turnedDown() {
        CallAgents x = calling();
        Check.comes("486", x, 0, response("486 Busy"), false);
        Check.loseAll(x);
        return x;
    }

    private static CallAgents hanging() {
        CallAgents x = talking();
        x.hang(0);
        Check.loseAll(x);
        Check.told("hanging up", x, 0, 8, 3, OTHERS_TAG, 6, 4, 5, 0, 17, 0);
        return x;
    }

    /** Agent 0 has called once and is called now by the third call of agent 1: its own tag is 2, all else is 3 or more. */
    private static CallAgents ringsHere() {
        CallAgents x = Check.withMedia();
        x.invite(0);
        for (int n = 0; n < 3; n++) {
            x.pass(32000);
            Check.loseAll(x);
            x.invite(1);
        }
        x.bring(0);
        Check.loseAll(x);
        Check.told("it rings", x, 0, 5, 2, 3, 7, 1, 1, 0, 8, 0);
        return x;
    }

    private static CallAgents accepted() {
        CallAgents x = ringsHere();
        x.accept(0);
        Check.loseAll(x);
        return x;
    }

    private static CallAgents refused() {
        CallAgents x = ringsHere();
        x.refuse(0);
        Check.loseAll(x);
        return x;
    }

    private static CallAgents talkingCalled() {
        CallAgents x = ringsHere();
        x.accept(0);
        Check.bringAll(x);
        Check.due("talking", x.told(0, 0), 3);
        return x;
    }

    private static CallAgents hangingCalled() {
        CallAgents x = talkingCalled();
        x.hang(0);
        Check.loseAll(x);
        return x;
    }

    private static Letter response(String status) {
        return Letter.response(status, "INVITE", 0).branch(3).call(6).seq(3).fromTag(3);
    }

    private static Letter request(String method) {
        return Letter.request(method, 0).branch(3).call(7).seq(3).fromTag(3);
    }

    private static Letter invite() {
        return request("INVITE").body("m=7 1\n");
    }

    private static Letter put(Letter letter, String field, int by) {
        switch (field) {
            case BRANCH:
                return letter.branch(letter.branch() + by);
            case CALL:
                return letter.call(letter.call() + by);
            case SEQ:
                return letter.seq(letter.seq() + by);
            case FROM_TAG:
                return letter.fromTag(letter.fromTag() + by);
            case TO_TAG:
                return letter.toTag(Math.max(0, letter.toTag() + by));
            case NO_TO_TAG:
                return letter.noToTag();
            case METHOD:
                return letter.method(by > 0 ? "ACK" : letter.method().equals("BYE") ? "INVITE" : "BYE");
            default:
                return letter.body("m=1 1\n");
        }
    }

    private static boolean has(String[] fields, String field) {
        return List.of(fields).contains(field);
    }

    /** Each field put otherwise, but for some of which the test says nothing; not the method of a request. */
    private static void each(Supplier<CallAgents> scene, Supplier<Letter> letter, Way way, String... counting) {
        way.look("as it is due", scene.get(), letter.get(), true);
        for (String field : ALL) {
            boolean fits = !field.equals(METHOD) || letter.get().text().startsWith("SIP");
            for (int by = -1; by <= 1 && fits; by += 2) {
                way.look(field + " put otherwise by " + by, scene.get(), put(letter.get(), field, by),
                        !has(counting, field));
            }
        }
    }

    /** What to look for when a message comes to agent 0 that is to be taken, or not. */
    private interface Way {
        void look(String what, CallAgents x, Letter letter, boolean taken);
    }

    private static Way state(int next) {
        return (what, x, letter, taken) -> {
            int before = x.told(0, 0);
            Check.comes(what, x, 0, letter, !taken);
            Check.due(what + ": state", x.told(0, 0), taken ? next : before);
        };
    }

    private static void ringing() {
        Check.sentence("180 of its INVITE (branch, call, SEQ, own tag): 1 becomes 2");
        Supplier<Letter> ringing = () -> response("180 Ringing").toTag(OTHERS_TAG);
        each(FieldsTest::calling, ringing, state(2), BRANCH, CALL, SEQ, FROM_TAG);
    }

    private static void okToInvite() {
        Check.sentence("200 of it (call, SEQ, own tag, method INVITE, a To tag) in 1, 2");
        Supplier<Letter> ok = () -> response("200 OK").toTag(OTHERS_TAG);
        each(FieldsTest::calling, ok, state(3), CALL, SEQ, FROM_TAG, METHOD, NO_TO_TAG);
        each(FieldsTest::ringsThere, ok, state(3), CALL, SEQ, FROM_TAG, METHOD, NO_TO_TAG);
        Check.sentence("in 3, with that tag, ACK is sent again as it was");
        each(FieldsTest::talking, ok, again(), CALL, SEQ, FROM_TAG, METHOD, NO_TO_TAG, TO_TAG);
    }

    /** The agent's ACK is sent again, its state stays. */
    private static Way again() {
        return (what, x, letter, taken) -> {
            int[] before = {x.told(0, 0), x.told(0, 1), x.told(0, 2), x.told(0, 3), x.told(0, 4), x.told(0, 5),
                x.told(0, 6), x.told(0, 7) + (taken ? 1 : 0), x.told(0, 8) + (taken ? 0 : 1)};
            Check.comes(what, x, 0, letter, !taken);
            Check.told(what, x, 0, before);
            Check.due(what + ": flying", x.flying(), taken ? 1 : 0);
            Check.due(what + ": an ACK", Check.text(x, 0).startsWith("ACK sip:1 "), taken);
        };
    }

    private static void busyToInvite() {
        Check.sentence("486 of it (call, SEQ, own tag, method INVITE, its branch; with or without a To tag) in 1, 2");
        Supplier<Letter> busy = () -> response("486 Busy").toTag(OTHERS_TAG);
        each(FieldsTest::calling, busy, state(4), CALL, SEQ, FROM_TAG, METHOD, BRANCH);
        each(FieldsTest::ringsThere, busy, state(4), CALL, SEQ, FROM_TAG, METHOD, BRANCH);
        Check.sentence("in 4, if an ACK was sent, that again");
        each(FieldsTest::turnedDown, busy, again(), CALL, SEQ, FROM_TAG, METHOD, BRANCH);
    }

    private static void endsOfBye() {
        Check.sentence("200 or 481 of its BYE (branch, call, SEQ, method BYE) in 8: 9");
        for (String status : new String[] {"200 OK", "481 Gone"}) {
            Supplier<Letter> end = () -> Letter.response(status, "BYE", 0).branch(5).call(6).seq(4).fromTag(3)
                    .toTag(OTHERS_TAG);
            each(FieldsTest::hanging, end, state(9), BRANCH, CALL, SEQ, METHOD);
        }
    }

    private static void acks() {
        Check.sentence("ACK of its call and the SEQ of the INVITE: 6 becomes 3, 7 becomes 9");
        Supplier<Letter> ack = () -> request("ACK").toTag(2);
        each(FieldsTest::accepted, ack, state(3), CALL, SEQ);
        each(FieldsTest::refused, ack, state(9), CALL, SEQ);
    }

    /** Another BYE is not dropped: it is answered by 481, and the state stays. */
    private static Way over() {
        return (what, x, letter, taken) -> {
            int before = x.told(0, 0);
            Check.comes(what, x, 0, letter, false);
            Check.due(what + ": state", x.told(0, 0), taken ? 9 : before);
            Check.due(what + ": the response", Check.text(x, 0),
                    letter.start(taken ? "SIP/2.0 200 OK" : "SIP/2.0 481 Gone").body("").text());
        };
    }

    private static void byes() {
        Check.sentence("BYE of its call, with both tags, in 3, 6 or 8: 200: state 9; any other BYE: 481 (To as it came)");
        Supplier<Letter> bye = () -> request("BYE").toTag(2);
        each(FieldsTest::accepted, bye, over(), CALL, FROM_TAG, TO_TAG, NO_TO_TAG);
        each(FieldsTest::talkingCalled, bye, over(), CALL, FROM_TAG, TO_TAG, NO_TO_TAG);
        each(FieldsTest::hangingCalled, bye, over(), CALL, FROM_TAG, TO_TAG, NO_TO_TAG);
        Supplier<Letter> toTheCaller = () -> request("BYE").call(6).fromTag(OTHERS_TAG).toTag(3);
        each(FieldsTest::talking, toTheCaller, over(), CALL, FROM_TAG, TO_TAG, NO_TO_TAG);
        each(FieldsTest::hanging, toTheCaller, over(), CALL, FROM_TAG, TO_TAG, NO_TO_TAG);
    }

    /** The last response again, with its own To tag, or 486 with the next one. */
    private static Way lastResponse(String status) {
        return (what, x, letter, taken) -> {
            if (letter.text().contains("To: <sip:0>;")) {
                state(5).look(what, x, letter, false);
                return;
            }
            Check.comes(what, x, 0, letter, false);
            String text = Check.text(x, 0);
            Check.due(what + ": " + text, text.startsWith("SIP/2.0 " + (taken ? status : "486 Busy") + "\n"), true);
            Check.due(what + ": tag in " + text, text.contains("To: <sip:0>;tag=" + (taken ? 2 : 3) + "\n"), true);
            Check.due(what + ": own tag", x.told(0, 1), 2);
        };
    }

    private static void theSameInvite() {
        Check.sentence("The same branch and call again, in 5, 6, 7: its last response again. Another INVITE: 486");
        each(FieldsTest::ringsHere, FieldsTest::invite, lastResponse("180 Ringing"), BRANCH, CALL);
        each(FieldsTest::accepted, FieldsTest::invite, lastResponse("200 OK"), BRANCH, CALL);
        each(FieldsTest::refused, FieldsTest::invite, lastResponse("486 Busy"), BRANCH, CALL);
    }

    private static void addresses() {
        Check.sentence("a request in whose first line and To is not the agent itself, or in whose Via and From is not"
                + " the other one");
        isMisled(FieldsTest::ringsHere, FieldsTest::invite);
        isMisled(FieldsTest::accepted, () -> request("ACK"));
        isMisled(FieldsTest::accepted, () -> request("BYE").toTag(2));
        for (String method : new String[] {"INVITE", "ACK", "BYE"}) {
            state(5).look(method + " with another first line", accepted(),
                    request(method).start(method + " sip:1 SIP/2.0"), false);
        }
        Check.sentence("a response in whose Via and From is not the agent itself, or in whose To is not the other one");
        isMisled(FieldsTest::calling, () -> response("180 Ringing"));
        isMisled(FieldsTest::calling, () -> response("200 OK").toTag(1));
        isMisled(FieldsTest::calling, () -> response("486 Busy"));
        isMisled(FieldsTest::hanging, () -> Letter.response("481 Gone", "BYE", 0).branch(5).call(6).seq(4));
        isMisled(FieldsTest::hanging, () -> Letter.response("200 OK", "BYE", 0).branch(5).call(6).seq(4));
    }

    /** Taken with the due agents, dropped with another one in any place, or in all. */
    private static void isMisled(Supplier<CallAgents> scene, Supplier<Letter> letter) {
        Check.comes("due agents", scene.get(), 0, letter.get(), false);
        state(0).look("Via", scene.get(), letter.get().via(1 - letter.get().via()), false);
        state(0).look("From", scene.get(), letter.get().from(1 - letter.get().from()), false);
        state(0).look("To", scene.get(), letter.get().to(1 - letter.get().to()), false);
        Letter turned = letter.get();
        state(0).look("all", scene.get(), turned.via(1 - turned.via()).from(1 - turned.from()).to(1 - turned.to()), false);
    }
}
