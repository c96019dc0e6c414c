/** Each call and each thing that comes, in each state: the document's sentences that say "in" which states. */
final class StatesTest {
    private static final int DROPPED = -1;

    public static void main(String[] args) {
        calls();
        refusedCallsChangeNothing();
        noSuchAgent();
        invites();
        theSameInvite();
        acks();
        byes();
        ringing();
        okToInvite();
        busyToInvite();
        endsOfBye();
        Check.finish("StatesTest");
    }

    private static void calls() {
        for (Scene scene : Scene.values()) {
            int agent = scene.agent;
            Check.sentence("False: none such; not free; no media");
            Check.due(scene + ": invite", scene.make().invite(agent), scene.isFree());
            Check.sentence("False: none such; not in state 5");
            Check.due(scene + ": accept", scene.make().accept(agent), scene.state == 5);
            Check.due(scene + ": refuse", scene.make().refuse(agent), scene.state == 5);
            Check.sentence("False: none such; not in state 3");
            Check.due(scene + ": hang", scene.make().hang(agent), scene.state == 3);
            Check.sentence("One more line of an agent's own media");
            Check.due(scene + ": media", scene.make().media(agent, 9, 9), agent == 0 ? 3 : 2);
        }
    }

    private static void refusedCallsChangeNothing() {
        Check.sentence("False: .. not free; not in state 5; not in state 3");
        for (Scene scene : Scene.values()) {
            CallAgents x = scene.make();
            int agent = scene.agent;
            int[] before = told(x, agent);
            if (!scene.isFree()) {
                x.invite(agent);
            }
            if (scene.state != 5) {
                x.accept(agent);
                x.refuse(agent);
            }
            if (scene.state != 3) {
                x.hang(agent);
            }
            Check.told(scene + ", refused calls", x, agent, before);
            Check.due(scene + ", refused calls: flying", x.flying(), 0);
        }
    }

    private static void noSuchAgent() {
        Check.sentence("False: none such");
        for (Scene scene : Scene.values()) {
            CallAgents x = scene.make();
            int[] first = told(x, 0);
            int[] second = told(x, 1);
            for (int agent : new int[] {-1, 2, 3, -2, Integer.MIN_VALUE, Integer.MAX_VALUE}) {
                Check.due(scene + ": invite(" + agent + ")", x.invite(agent), false);
                Check.due(scene + ": accept(" + agent + ")", x.accept(agent), false);
                Check.due(scene + ": refuse(" + agent + ")", x.refuse(agent), false);
                Check.due(scene + ": hang(" + agent + ")", x.hang(agent), false);
            }
            Check.told(scene + ", no such agent", x, 0, first);
            Check.told(scene + ", no such agent", x, 1, second);
            Check.due(scene + ", no such agent: flying", x.flying(), 0);
        }
    }

    private static int[] told(CallAgents x, int agent) {
        int[] all = new int[9];
        for (int what = 0; what < 9; what++) {
            all[what] = x.told(agent, what);
        }
        return all;
    }

    /** What comes leads to a state and makes the agent send a message with such a first line, or is dropped. */
    private static void comes(Scene scene, CallAgents x, Letter letter, int next, String sent) {
        String what = scene + ": " + letter.text().substring(0, letter.text().indexOf('\n'));
        boolean dropped = next == DROPPED;
        int before = x.told(scene.agent, 7);
        Check.comes(what, x, scene.agent, letter, dropped);
        Check.due(what + ": state", x.told(scene.agent, 0), dropped ? scene.state : next);
        Check.due(what + ": flying", x.flying(), sent.isEmpty() ? 0 : 1);
        Check.due(what + ": sent", x.told(scene.agent, 7) - before, sent.isEmpty() ? 0 : 1);
        Check.due(what + ": what is sent", Check.text(x, 0).split("\n")[0], sent);
    }

    private static void invites() {
        for (Scene scene : Scene.values()) {
            Letter invite = Letter.request("INVITE", scene.agent).branch(7).call(8).fromTag(9).seq(10);
            Check.sentence(scene.isFree() ? "INVITE without To tag, free: .. 180 is sent: state 5"
                    : "Another INVITE: 486 with a new tag, nothing else");
            CallAgents x = scene.make();
            int[] before = told(x, scene.agent);
            comes(scene, x, invite, scene.isFree() ? 5 : scene.state,
                    scene.isFree() ? "SIP/2.0 180 Ringing" : "SIP/2.0 486 Busy");
            if (scene.isFree()) {
                before = new int[] {5, before[1] + 1, 9, 8, before[4], before[5], 0, before[7], before[8]};
            }
            before[7]++;
            Check.told(scene + ": behind it", x, scene.agent, before);
            Check.sentence("dropped (also: .. an INVITE with a To tag)");
            comes(scene, scene.make(), invite.toTag(0), DROPPED, "");
        }
    }

    private static void theSameInvite() {
        for (Scene scene : Scene.values()) {
            if (scene.agent == 1 && scene.state >= 5 && scene.state <= 7) {
                Check.sentence("The same branch and call again, in 5, 6, 7: its last response again");
                String[] last = {"180 Ringing", "200 OK", "486 Busy"};
                CallAgents x = scene.make();
                int[] before = told(x, 1);
                comes(scene, x, Letter.request("INVITE", 1), scene.state, "SIP/2.0 " + last[scene.state - 5]);
                before[7]++;
                Check.told(scene + ": behind it", x, 1, before);
            }
            if (scene.agent == 1 && scene.isFree()) {
                Check.sentence("INVITE without To tag, free");
                comes(scene, scene.make(), Letter.request("INVITE", 1), 5, "SIP/2.0 180 Ringing");
            }
        }
    }

    private static void acks() {
        Check.sentence("ACK of its call and the SEQ of the INVITE: 6 becomes 3, 7 becomes 9");
        for (Scene scene : Scene.values()) {
            CallAgents x = scene.make();
            Letter ack = Letter.request("ACK", scene.agent).call(x.told(scene.agent, 3)).seq(scene.state == 0 ? 0 : 1);
            comes(scene, x, ack, scene.state == 6 ? 3 : scene.state == 7 ? 9 : DROPPED, "");
        }
    }

    private static void byes() {
        Check.sentence("BYE of its call, with both tags, in 3, 6 or 8: 200: state 9; any other BYE: 481");
        for (Scene scene : Scene.values()) {
            CallAgents x = scene.make();
            int agent = scene.agent;
            Letter bye = Letter.request("BYE", agent).call(x.told(agent, 3)).toTag(x.told(agent, 1))
                    .fromTag(x.told(agent, 2));
            boolean talks = scene.state == 3 || scene.state == 6 || scene.state == 8;
            comes(scene, x, bye, talks ? 9 : scene.state, talks ? "SIP/2.0 200 OK" : "SIP/2.0 481 Gone");
        }
    }

    /** A response to the INVITE of this call, or, where nothing was sent yet, with all numbers 0. */
    private static Letter response(Scene scene, String status) {
        Letter response = Letter.response(status, "INVITE", scene.agent);
        return scene.state == 0 ? response.branch(0).call(0).seq(0).fromTag(0) : response;
    }

    private static void ringing() {
        Check.sentence("180 of its INVITE (branch, call, SEQ, own tag): 1 becomes 2 (timers end)");
        for (Scene scene : Scene.values()) {
            comes(scene, scene.make(), response(scene, "180 Ringing"), scene.state == 1 ? 2 : DROPPED, "");
        }
    }

    private static void okToInvite() {
        Check.sentence("200 of it .. in 1, 2: .. ACK is sent ..: state 3; in 3, with that tag, ACK is sent again");
        for (Scene scene : Scene.values()) {
            boolean taken = scene.state == 1 || scene.state == 2 || scene == Scene.TALKING_CALLER;
            comes(scene, scene.make(), response(scene, "200 OK").toTag(1), taken ? 3 : DROPPED,
                    taken ? "ACK sip:1 SIP/2.0" : "");
        }
    }

    private static void busyToInvite() {
        Check.sentence("486 of it .. in 1, 2: ACK is sent ..: state 4; in 4, if an ACK was sent, that again");
        for (Scene scene : Scene.values()) {
            boolean taken = scene.state == 1 || scene.state == 2 || scene == Scene.TURNED_DOWN;
            comes(scene, scene.make(), response(scene, "486 Busy").toTag(1), taken ? 4 : DROPPED,
                    taken ? "ACK sip:1 SIP/2.0" : "");
        }
    }

    private static void endsOfBye() {
        Check.sentence("200 or 481 of its BYE (branch, call, SEQ, method BYE) in 8: 9");
        for (Scene scene : Scene.values()) {
            for (String status : new String[] {"200 OK", "481 Gone", "486 Busy"}) {
                CallAgents x = scene.make();
                int agent = scene.agent;
                Letter end = Letter.response(status, "BYE", agent).branch(x.told(agent, 5)).call(x.told(agent, 3))
                        .seq(x.told(agent, 4)).fromTag(x.told(agent, 1)).toTag(x.told(agent, 2));
                comes(scene, x, end, scene.state == 8 && !status.equals("486 Busy") ? 9 : DROPPED, "");
            }
        }
    }
}
