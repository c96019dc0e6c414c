/** Promise 2: media. */
final class MediaTest {
    public static void main(String[] args) {
        counts();
        wrongOnes();
        offered();
        lateLineIsInTheAnswer();
        Check.finish("MediaTest");
    }

    private static void counts() {
        CallAgents x = new CallAgents();
        Check.due("media(0, 1, 1)", x.media(0, 1, 1), 1);
        Check.due("media(0, 65535, 255)", x.media(0, 65535, 255), 2);
        Check.due("media(1, 9, 128): each its own", x.media(1, 9, 128), 1);
        Check.due("media(0, 1, 1): the same again", x.media(0, 1, 1), 3);
        Check.due("media: a fourth", x.media(0, 1, 1), CallAgents.BAD);
        Check.due("media(1, 9, 128)", x.media(1, 9, 128), 2);
    }

    private static void wrongOnes() {
        CallAgents x = new CallAgents();
        int[][] wrong = {{-1, 1, 1}, {2, 1, 1}, {0, 0, 1}, {0, -1, 1}, {0, 65536, 1}, {0, 1, 0}, {0, 1, 256},
            {0, 1, -1}, {Integer.MIN_VALUE, 1, 1}, {0, Integer.MAX_VALUE, 1}, {0, 1, Integer.MIN_VALUE}};
        for (int[] w : wrong) {
            Check.due("media(" + w[0] + ", " + w[1] + ", " + w[2] + ")", x.media(w[0], w[1], w[2]), CallAgents.BAD);
        }
        Check.due("media: none of the wrong ones counts", x.media(0, 1, 1), 1);
    }

    private static void offered() {
        CallAgents x = new CallAgents();
        x.media(0, 65535, 255);
        x.media(0, 1, 128 + 8 + 1);
        x.media(0, 20, 2);
        x.media(0, 30, 4);
        x.invite(0);
        String text = Check.text(x, 0);
        Check.due("the offer", text.substring(text.indexOf("Content-Length")),
                "Content-Length: 41\n\nm=65535 0 1 2 3 4 5 6 7\nm=1 0 3 7\nm=20 1\n");
    }

    private static void lateLineIsInTheAnswer() {
        CallAgents x = Check.ringing();
        Check.due("media while it rings", x.media(1, 6000, 128), 2);
        x.accept(1);
        Check.agreed("a late line", x, 1, 1, 6000, 7);
    }
}
