/** Counts and prints answers that are not as due, and the steps that many tests share. */
final class Check {
    private static int wrong = 0;
    private static String sentence = "";

    private Check() {
    }

    /** The words of the document that the next answers are due by; they are printed with a wrong one. */
    static void sentence(String words) {
        sentence = words;
    }

    static void due(String call, long got, long want) {
        if (got != want) {
            tell(call, String.valueOf(got), String.valueOf(want));
        }
    }

    static void due(String call, boolean got, boolean want) {
        if (got != want) {
            tell(call, String.valueOf(got), String.valueOf(want));
        }
    }

    static void due(String call, String got, String want) {
        if (!got.equals(want)) {
            tell(call, "\n" + got + "\n", "\n" + want + "\n");
        }
    }

    private static void tell(String call, String got, String want) {
        wrong++;
        System.out.println(call + " answered " + got + ", due is " + want
                + (sentence.isEmpty() ? "" : " (the document: " + sentence + ")"));
    }

    static void finish(String name) {
        System.out.println(name + ": " + (wrong == 0 ? "all answers are as due" : wrong + " answers are not as due"));
        if (wrong != 0) {
            System.exit(1);
        }
    }

    /** The text of message i in flight, sign by sign. */
    static String text(CallAgents x, int i) {
        StringBuilder text = new StringBuilder();
        for (int sign = x.sign(i, 0); sign >= 0; sign = x.sign(i, text.length())) {
            text.append((char) sign);
        }
        return text.toString();
    }

    static String lastText(CallAgents x) {
        return text(x, x.flying() - 1);
    }

    static int inject(CallAgents x, int agent, String text) {
        for (int i = 0; i < text.length(); i++) {
            due("unit(" + (int) text.charAt(i) + ")", x.unit(text.charAt(i)), true);
        }
        return x.inject(agent);
    }

    /** Injects a message that is right and tells how many of the agent's came and were dropped by it. */
    static void comes(String what, CallAgents x, int agent, Letter letter, boolean dropped) {
        int before = x.told(agent, 8);
        due(what + ": inject(" + agent + ")", inject(x, agent, letter.text()), 0);
        due(what + ": told(" + agent + ", 8), as to the one before", x.told(agent, 8) - before, dropped ? 1 : 0);
    }

    /** Told 0 to 8 of an agent, in one row. */
    static void told(String when, CallAgents x, int agent, int... want) {
        for (int what = 0; what < want.length; what++) {
            due(when + ": told(" + agent + ", " + what + ")", x.told(agent, what), want[what]);
        }
    }

    /** An agreed line: its port and formats. */
    static void agreed(String when, CallAgents x, int agent, int i, int port, int... formats) {
        due(when + ": line(" + agent + ", " + i + ", 0)", x.line(agent, i, 0), port);
        due(when + ": line(" + agent + ", " + i + ", 1)", x.line(agent, i, 1), formats.length);
        for (int f = 0; f < formats.length; f++) {
            due(when + ": line(" + agent + ", " + i + ", " + (2 + f) + ")", x.line(agent, i, 2 + f), formats[f]);
        }
        due(when + ": a format behind the last", x.line(agent, i, 2 + formats.length), CallAgents.BAD);
    }

    /** Brings all that flies, the oldest first, until nothing flies. */
    static void bringAll(CallAgents x) {
        for (int n = 0; n < 200 && x.flying() > 0; n++) {
            x.bring(0);
        }
    }

    /** Loses all that flies. */
    static void loseAll(CallAgents x) {
        for (int n = 0; n < 200 && x.flying() > 0; n++) {
            x.lose(0);
        }
    }

    /** Agent 0 has ports 4000 (formats 0 1 2) and 4002 (1 7), agent 1 has 5000 (1 2). */
    static CallAgents withMedia() {
        CallAgents x = new CallAgents();
        x.media(0, 4000, 7);
        x.media(0, 4002, 130);
        x.media(1, 5000, 6);
        return x;
    }

    /** Agent 0 has called, it rings at agent 1, nothing flies: states 2 and 5. */
    static CallAgents ringing() {
        CallAgents x = withMedia();
        x.invite(0);
        bringAll(x);
        return x;
    }

    /** Agent 0 has called agent 1 and both talk; nothing flies. */
    static CallAgents talking() {
        CallAgents x = ringing();
        x.accept(1);
        bringAll(x);
        return x;
    }
}
