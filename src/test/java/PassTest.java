/** Promise 14: pass, and the timers. */
final class PassTest {
    public static void main(String[] args) {
        times();
        longGaps();
        shortGaps();
        textsStay();
        timersEnd();
        order();
        fromTheSendingOn();
        wrongTimesChangeNothing();
        equalTimes();
        timersOfACallThatIsOver();
        Check.finish("PassTest");
    }

    private static void times() {
        Check.sentence("So many milliseconds (1 .. 100,000) go by: the time. BAD: another number");
        CallAgents x = new CallAgents();
        Check.due("pass(1)", x.pass(1), 1);
        Check.due("pass(100000)", x.pass(100000), 100001);
        int[] wrong = {0, -1, 100001, Integer.MIN_VALUE, Integer.MAX_VALUE};
        for (int n : wrong) {
            Check.due("pass(" + n + ")", x.pass(n), CallAgents.BAD);
        }
        Check.due("pass(99)", x.pass(99), 100100);
        CallAgents y = new CallAgents();
        for (int n = 1; n < 512; n++) {
            Check.due("pass(100000)", y.pass(100000), 100000 * n);
        }
    }

    /** The agent sends again just at these times and at no other, and then gives up. */
    private static void sendsAt(String what, CallAgents x, int agent, int last, int... times) {
        int before = x.told(agent, 7);
        int state = x.told(agent, 0);
        int now = 0;
        for (int n = 0; n < times.length; n++) {
            if (times[n] - now > 1) {
                x.pass(times[n] - now - 1);
            }
            Check.due(what + " before " + times[n], x.told(agent, 7) - before, n);
            x.pass(1);
            Check.due(what + " at " + times[n], x.told(agent, 7) - before, n + 1);
            now = times[n];
        }
        x.pass(32000 - now - 1);
        Check.due(what + ", state before giving up", x.told(agent, 0), state);
        x.pass(1);
        Check.due(what + ", state at giving up", x.told(agent, 0), last);
        x.pass(100000);
        Check.due(what + ", sent in all", x.told(agent, 7) - before, times.length);
    }

    private static void longGaps() {
        Check.sentence("first 500 behind the sending, then each time twice as far from the last one; one that gives up, 32,000 behind");
        CallAgents x = Check.withMedia();
        x.pass(77);
        x.invite(0);
        sendsAt("INVITE", x, 0, 4, 500, 1500, 3500, 7500, 15500, 31500);
        CallAgents y = Check.withMedia();
        y.invite(1);
        Check.due("all at once", y.pass(32000), 32000);
        Check.due("flying()", y.flying(), 7);
        Check.due("state", y.told(1, 0), 4);
        Check.due("486 when no ACK was sent", y.told(1, 8), 0);
    }

    private static void shortGaps() {
        Check.sentence("(in states 6, 7, 8 at most 4,000); one that gives up, 32,000 behind");
        int[] times = {500, 1500, 3500, 7500, 11500, 15500, 19500, 23500, 27500, 31500};
        CallAgents x = Check.ringing();
        x.accept(1);
        sendsAt("200", x, 1, 9, times);
        CallAgents y = Check.ringing();
        y.refuse(1);
        sendsAt("486", y, 1, 9, times);
        CallAgents z = Check.talking();
        z.hang(0);
        sendsAt("BYE", z, 0, 9, times);
        CallAgents v = Check.talking();
        v.hang(1);
        sendsAt("BYE", v, 1, 9, times);
    }

    private static CallAgents accepted() {
        CallAgents x = Check.ringing();
        x.accept(1);
        return x;
    }

    private static CallAgents hanging() {
        CallAgents x = Check.talking();
        x.hang(1);
        return x;
    }

    private static void textsStay() {
        Check.sentence("One that sends again (the text as it was)");
        CallAgents first = Check.withMedia();
        first.invite(0);
        String invite = Check.text(first, 0);
        CallAgents x = Check.withMedia();
        x.invite(0);
        x.media(0, 4004, 1);
        x.pass(1500);
        Check.due("INVITE again", Check.text(x, 1), invite);
        Check.due("INVITE again", Check.text(x, 2), invite);
        Check.told("nothing else is changed", x, 0, 1, 1, 0, 2, 1, 1, 0, 3, 0);
        CallAgents y = accepted();
        y.media(1, 5002, 255);
        Check.comes("another INVITE", y, 1, Letter.request("INVITE", 1).branch(9).call(8), false);
        y.pass(500);
        Check.due("200 again, not the 486", Check.text(y, 2), Check.text(accepted(), 0));
        CallAgents z = hanging();
        Check.comes("another BYE", z, 1, Letter.request("BYE", 1).call(8), false);
        z.pass(500);
        Check.due("BYE again", Check.text(z, 2), Check.text(hanging(), 0));
    }

    /** In these states nothing is sent again and nothing is given up. */
    private static void quiet(String what, CallAgents x, int agent, int state) {
        int sent = x.told(agent, 7);
        Check.due(what, x.told(agent, 0), state);
        x.pass(100000);
        Check.due(what + ", later", x.told(agent, 0), state);
        Check.due(what + ", sent", x.told(agent, 7), sent);
    }

    private static void timersEnd() {
        Check.sentence("They are in states 1, 6, 7, 8");
        quiet("2", Check.ringing(), 0, 2);
        quiet("5", Check.ringing(), 1, 5);
        quiet("3", Check.talking(), 0, 3);
        quiet("3", Check.talking(), 1, 3);
        CallAgents x = Check.ringing();
        x.refuse(1);
        Check.bringAll(x);
        quiet("4 with an ACK", x, 0, 4);
        quiet("9 by ACK", x, 1, 9);
        CallAgents y = Check.talking();
        y.hang(0);
        Check.bringAll(y);
        quiet("9 by 200", y, 0, 9);
        quiet("9 by BYE", y, 1, 9);
        CallAgents z = Check.withMedia();
        z.invite(0);
        z.pass(499);
        Check.comes("200 in 1", z, 0, Letter.response("200 OK", "INVITE", 0).toTag(5), false);
        quiet("3 from 1", z, 0, 3);
        CallAgents v = Check.talking();
        v.hang(0);
        v.pass(400);
        Check.comes("BYE in 8", v, 0, Letter.request("BYE", 0).fromTag(1).toTag(1), false);
        quiet("9 from 8 by BYE", v, 0, 9);
    }

    private static void order() {
        Check.sentence("in the order of their times, of equal ones agent 0 first");
        CallAgents x = Check.withMedia();
        x.invite(1);
        x.invite(0);
        x.pass(100000);
        Check.due("flying()", x.flying(), 14);
        for (int i = 2; i < 14; i++) {
            Check.due("of equal times agent 0 first, message " + i, x.sign(i, 11), i % 2 == 0 ? '1' : '0');
        }
        CallAgents y = Check.withMedia();
        y.invite(1);
        y.pass(600);
        y.invite(0);
        y.pass(20000);
        int[] from = {1, 1, 0, 0, 1, 0, 1, 0, 1, 0, 1, 0};
        int[] due = {0, 500, 600, 1100, 1500, 2100, 3500, 4100, 7500, 8100, 15500, 16100};
        Check.due("flying()", y.flying(), from.length);
        for (int i = 0; i < from.length; i++) {
            Check.due("in the order of times, at " + due[i], y.sign(i, 11), '1' - from[i]);
        }
    }

    private static void wrongTimesChangeNothing() {
        Check.sentence("So many milliseconds (1 .. 100,000) go by; BAD: another number");
        for (int wrong : new int[] {0, -1, -500, 100001, Integer.MIN_VALUE, Integer.MAX_VALUE}) {
            CallAgents x = Check.withMedia();
            x.invite(0);
            x.pass(499);
            Check.due("pass(" + wrong + ")", x.pass(wrong), CallAgents.BAD);
            Check.due("no timer ran out", x.flying(), 1);
            Check.due("time stands", x.pass(1), 500);
            Check.due("now it did", x.flying(), 2);
        }
        CallAgents y = Check.withMedia();
        y.invite(0);
        Check.due("pass(100000)", y.pass(100000), 100000);
        Check.due("all timers", y.told(0, 7), 7);
        Check.due("gave up", y.told(0, 0), 4);
    }

    /** Agent 0's patience ends when agent 1 sends again for the first time, and the other way round. */
    private static void equalTimes() {
        Check.sentence("timers up to that time (that one, too) .., of equal ones agent 0 first, resending before giving up");
        for (int early = 0; early < 2; early++) {
            CallAgents x = Check.withMedia();
            x.invite(early);
            x.pass(31500);
            x.invite(1 - early);
            x.pass(499);
            Check.due("before: state", x.told(early, 0), 1);
            Check.due("before: sent", x.told(1 - early, 7), 1);
            Check.due("at that time", x.pass(1), 32000);
            Check.due("it gave up", x.told(early, 0), 4);
            Check.due("the other one sent again", x.told(1 - early, 7), 2);
            Check.due("and goes on", x.told(1 - early, 0), 1);
        }
        CallAgents y = Check.talking();
        y.hang(1);
        y.hang(0);
        y.pass(500);
        Check.due("BYE of agent 0 first", y.sign(2, 8), '1');
        Check.due("then BYE of agent 1", y.sign(3, 8), '0');
    }

    private static void timersOfACallThatIsOver() {
        Check.sentence("giving up ends them; (timers end)");
        CallAgents x = Check.withMedia();
        x.invite(0);
        x.pass(499);
        x.twice(0);
        x.bring(1);
        Check.due("180 came", x.told(0, 0), 2);
        x.pass(1);
        Check.due("nothing is sent again", x.told(0, 7), 1);
        CallAgents y = Check.ringing();
        y.accept(1);
        y.pass(499);
        Check.comes("ACK", y, 1, Letter.request("ACK", 1), false);
        y.pass(1);
        Check.due("nothing is sent again", y.told(1, 7), 2);
        CallAgents z = Check.ringing();
        z.refuse(1);
        z.pass(31999);
        Check.comes("ACK", z, 1, Letter.request("ACK", 1), false);
        Check.comes("a new INVITE", z, 1, Letter.request("INVITE", 1).call(8).branch(8), false);
        z.pass(1);
        Check.due("the new call is not given up", z.told(1, 0), 5);
    }

    private static void fromTheSendingOn() {
        Check.sentence("first 500 behind the sending");
        CallAgents x = Check.ringing();
        x.pass(12345);
        x.accept(1);
        Check.due("pass(499)", x.pass(499), 12844);
        Check.due("flying()", x.flying(), 1);
        x.twice(0);
        Check.comes("the INVITE again", x, 1, Letter.request("INVITE", 1), false);
        int flying = x.flying();
        x.pass(1);
        Check.due("500 behind the first sending", x.flying(), flying + 1);
        CallAgents y = Check.withMedia();
        y.invite(0);
        y.pass(32000);
        y.invite(0);
        y.pass(499);
        Check.due("a new call has new timers", y.flying(), 8);
        y.pass(1);
        Check.due("a new call has new timers", y.flying(), 9);
    }
}
