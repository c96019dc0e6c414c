/** Promise 1: both idle, without media; nothing in flight, time 0. */
final class NewObjectTest {
    public static void main(String[] args) {
        CallAgents x = new CallAgents();
        for (int agent = 0; agent < 2; agent++) {
            Check.told("new", x, agent, 0, 0, 0, 0, 0, 0, 0, 0, 0);
            Check.due("new: line", x.line(agent, 0, 0), CallAgents.BAD);
            Check.due("new: invite without media", x.invite(agent), false);
            Check.due("new: accept", x.accept(agent), false);
            Check.due("new: refuse", x.refuse(agent), false);
            Check.due("new: hang", x.hang(agent), false);
        }
        Check.due("new: flying", x.flying(), 0);
        Check.due("new: bring", x.bring(0), CallAgents.BAD);
        Check.due("new: sign", x.sign(0, 0), CallAgents.BAD);
        Check.due("new: nothing is collected", x.inject(0), -10);
        Check.due("new: time", x.pass(1), 1);
        Check.due("BAD", CallAgents.BAD, -1);
        Check.due("NONE", CallAgents.NONE, -2);
        apart();
        Check.finish("NewObjectTest");
    }

    /** What one object does is nothing to another. */
    private static void apart() {
        CallAgents x = Check.talking();
        x.pass(1000);
        CallAgents y = new CallAgents();
        Check.told("beside another", y, 0, 0, 0, 0, 0, 0, 0, 0, 0, 0);
        Check.due("beside another: time", y.pass(7), 7);
        Check.due("beside another: media", y.media(0, 1, 1), 1);
        Check.told("the other", x, 0, 3, 1, 1, 2, 1, 2, 2, 2, 0);
    }
}
