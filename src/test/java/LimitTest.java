/** "An object is used for at most 512 calls after it has been made": the 512th still answers as it is due. */
final class LimitTest {
    private static final int CALLS = 512;

    public static void main(String[] args) {
        Check.sentence("An object is used for at most 512 calls after it has been made");
        times();
        callsGivenUp();
        wholeCalls();
        lastUnit();
        lastInject();
        refusedCalls();
        busyAnswers();
        Check.finish("LimitTest");
    }

    private static void times() {
        CallAgents x = new CallAgents();
        for (int n = 1; n <= CALLS; n++) {
            Check.due("pass(100000), call " + n, x.pass(100000), 100000 * n);
        }
    }

    private static void callsGivenUp() {
        CallAgents x = new CallAgents();
        x.media(0, 1, 1);
        for (int n = 1; n <= 250; n++) {
            Check.due("invite(0), time " + n, x.invite(0), true);
            Check.due("pass(32000), time " + n, x.pass(32000), 32000 * n);
        }
        Check.told("calls 502 to 510", x, 0, 4, 250, 0, 500, 250, 250, 0, 1750, 0);
        Check.due("invite(0), call 511", x.invite(0), true);
        Check.due("flying(), call 512", x.flying(), 60);
    }

    /** Ten calls a time: invite, INVITE, 180, accept, 200, ACK, hang, BYE, 200 and a look. */
    private static void wholeCalls() {
        CallAgents x = new CallAgents();
        x.media(0, 1, 1);
        x.media(1, 2, 1);
        for (int n = 1; n <= 50; n++) {
            int caller = n % 2;
            x.invite(caller);
            x.bring(0);
            x.bring(0);
            x.accept(1 - caller);
            x.bring(0);
            x.bring(0);
            x.hang(caller);
            x.bring(0);
            Check.due("bring(0), time " + n, x.bring(0), 0);
            Check.due("over, time " + n, x.told(caller, 0), 9);
        }
        Check.told("calls 503 to 511", x, 0, 9, 50, 50, 50, 50, 75, 1, 150, 0);
        Check.due("told(1, 7), call 512", x.told(1, 7), 150);
    }

    private static void lastUnit() {
        CallAgents x = new CallAgents();
        for (int n = 1; n <= CALLS; n++) {
            Check.due("unit(32), call " + n, x.unit(32), n <= 500);
        }
    }

    private static void lastInject() {
        String text = Letter.request("BYE", 1).branch(999999999).call(999999999).text();
        CallAgents x = new CallAgents();
        for (int n = 1; n <= CALLS - 2 - text.length(); n++) {
            Check.due("flying()", x.flying(), 0);
        }
        for (int i = 0; i < text.length(); i++) {
            x.unit(text.charAt(i));
        }
        Check.due("inject(1), call 511", x.inject(1), 0);
        Check.due("sign(0, 8), call 512", x.sign(0, 8), '4');
    }

    private static void refusedCalls() {
        CallAgents x = new CallAgents();
        for (int n = 0; n < 56; n++) {
            x.media(2, 1, 1);
            x.invite(0);
            x.accept(0);
            x.refuse(1);
            x.hang(0);
            x.bring(0);
            x.twice(0);
            x.lose(0);
            x.pass(0);
        }
        Check.due("media(0, 1, 1), call 505", x.media(0, 1, 1), 1);
        Check.due("invite(0), call 506", x.invite(0), true);
        Check.due("flying(), call 507", x.flying(), 1);
        Check.due("pass(500), call 508", x.pass(500), 500);
        Check.due("flying(), call 509", x.flying(), 2);
        Check.due("bring(1), call 510", x.bring(1), 2);
        Check.due("lose(0), call 511", x.lose(0), 1);
        Check.due("told(1, 0), call 512", x.told(1, 0), 5);
    }

    /** Each 486 to another INVITE takes a tag: none is taken so often. */
    private static void busyAnswers() {
        CallAgents x = new CallAgents();
        x.media(0, 1, 1);
        x.media(1, 1, 1);
        x.invite(1);
        x.invite(0);
        for (int n = 1; n <= 252; n++) {
            Check.due("twice(1), time " + n, x.twice(1), 3);
            Check.due("lose(2), time " + n, x.lose(2), 2);
        }
        Check.due("pass(32000), call 509", x.pass(32000), 32000);
        Check.due("invite(1), call 510", x.invite(1), true);
        Check.due("told(1, 1), call 511", x.told(1, 1), 254);
        Check.due("told(1, 7), call 512", x.told(1, 7), 7 + 252 + 1);
    }
}
