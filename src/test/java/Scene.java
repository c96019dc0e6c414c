/**
 * An agent in each state, and in each way that leads there; nothing is in flight. It is always the first call:
 * agent 0 calls agent 1, call 2, the INVITE has branch 1 and SEQ 1, both tags are 1.
 */
enum Scene {
    IDLE(0, 0), IDLE_OTHER(1, 0), CALLING(0, 1), RINGS_THERE(0, 2), TALKING_CALLER(0, 3), TALKING_CALLED(1, 3),
    GAVE_UP(0, 4), TURNED_DOWN(0, 4), RINGS_HERE(1, 5), ACCEPTED(1, 6), REFUSED(1, 7), HANGING_CALLER(0, 8),
    HANGING_CALLED(1, 8), OVER_BY_BYE(1, 9), OVER_BY_OK(0, 9), OVER_BY_ACK(1, 9), ACCEPTED_IN_VAIN(1, 9),
    REFUSED_IN_VAIN(1, 9), HUNG_IN_VAIN(0, 9);

    final int agent;
    final int state;

    Scene(int agent, int state) {
        this.agent = agent;
        this.state = state;
    }

    boolean isFree() {
        return state == 0 || state == 4 || state == 9;
    }

    CallAgents make() {
        CallAgents x = start();
        Check.loseAll(x);
        Check.due(this + ": its state", x.told(agent, 0), state);
        return x;
    }

    private CallAgents start() {
        switch (this) {
            case IDLE, IDLE_OTHER:
                return Check.withMedia();
            case CALLING:
                return called();
            case GAVE_UP:
                return later(called());
            case RINGS_THERE, RINGS_HERE:
                return Check.ringing();
            case ACCEPTED:
                return accepted();
            case ACCEPTED_IN_VAIN:
                return later(accepted());
            case REFUSED:
                return refused();
            case REFUSED_IN_VAIN:
                return later(refused());
            case TURNED_DOWN, OVER_BY_ACK:
                return arrived(refused());
            case TALKING_CALLER, TALKING_CALLED:
                return Check.talking();
            case HANGING_CALLER, HANGING_CALLED:
                return hanging(agent);
            case HUNG_IN_VAIN:
                return later(hanging(0));
            default:
                return arrived(hanging(0));
        }
    }

    private static CallAgents called() {
        CallAgents x = Check.withMedia();
        x.invite(0);
        return x;
    }

    private static CallAgents accepted() {
        CallAgents x = Check.ringing();
        x.accept(1);
        return x;
    }

    private static CallAgents refused() {
        CallAgents x = Check.ringing();
        x.refuse(1);
        return x;
    }

    private static CallAgents hanging(int agent) {
        CallAgents x = Check.talking();
        x.hang(agent);
        return x;
    }

    private static CallAgents later(CallAgents x) {
        x.pass(32000);
        return x;
    }

    private static CallAgents arrived(CallAgents x) {
        Check.bringAll(x);
        return x;
    }
}
