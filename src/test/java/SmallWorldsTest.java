/** Small worlds, every one of them: what promises 45 to 55 answer in each is what the Model answers. */
public final class SmallWorldsTest {
    private static final Checks CHECK = new Checks();

    public static void main(String[] args) {
        allFollows(1);
        allFollows(2);
        allFollows(3);
        followsOfFour();
        allEars(4);
        allEars(5);
        allTexts("house", new String[] {"turn", "topic", "monk", "hears", "a", "b", "cost", "breath", "5", "0", ";", "!"}, 4);
        allTexts("days", new String[] {"minute", "loop", "when", "silent", "paused", "end", "a", "b", "=", "60", ";", "!"}, 4);
        CHECK.end();
    }

    private static void allFollows(int topics) {
        for (int graph = 0; graph < 1 << topics * topics; graph++) {
            follows(topics, graph);
        }
    }

    // Every 7th of the 65,536: with and without each pair, and rings of four, are among them.
    private static void followsOfFour() {
        for (int graph = 0; graph < 1 << 16; graph += 7) {
            follows(4, graph);
        }
    }

    private static void follows(int topics, int graph) {
        StringBuilder text = new StringBuilder();
        for (int t = 0; t < topics; t++) {
            text.append("topic ").append((char) ('a' + t)).append(" cost 1;");
        }
        for (int i = 0; i < topics * topics; i++) {
            if ((graph >> i & 1) == 1) {
                text.append("follows ").append((char) ('a' + i / topics)).append(' ').append((char) ('a' + i % topics));
                text.append(';');
            }
        }
        Both both = new Both(text.toString());
        both.same("ring");
        for (int t = 0; t < topics; t++) {
            both.same("ringAt", t);
            both.same("talk", t);
            both.same("reach", t);
            both.same("wins", t);
            both.same("best", t);
            for (int k = 0; k <= topics; k++) {
                both.same("talkAt", t, k);
            }
        }
    }

    private static void allEars(int monks) {
        int pairs = monks * (monks - 1) / 2;
        for (int graph = 0; graph < 1 << pairs; graph++) {
            StringBuilder text = new StringBuilder();
            for (int m = 0; m < monks; m++) {
                text.append("monk ").append((char) ('a' + m)).append(" breath 1;");
            }
            int bit = 0;
            for (int m = 0; m < monks; m++) {
                for (int other = m + 1; other < monks; other++) {
                    if ((graph >> bit++ & 1) == 1) {
                        text.append("hears ").append((char) ('a' + m)).append(' ').append((char) ('a' + other)).append(';');
                    }
                }
            }
            Both both = new Both(text.toString());
            for (int set = 0; set < 1 << monks; set++) {
                both.same("couples", set);
                both.same("allRead", set);
            }
        }
    }

    // Every row of so many TOKENS behind a beginning that is in order: whether it is taken, its FAULT and place.
    private static void allTexts(String call, String[] tokens, int many) {
        int all = 1;
        for (int i = 0; i < many; i++) {
            all *= tokens.length;
        }
        for (int code = 0; code < all; code++) {
            StringBuilder text = new StringBuilder();
            for (int rest = code, i = 0; i < many; i++, rest /= tokens.length) {
                text.append(tokens[rest % tokens.length]).append(i % 2 == 0 ? " " : "\n");
            }
            Both both = new Both("topic b cost 1;monk a breath 5;");
            both.take(call, call.equals("house") ? "monk a breath 5;" + text : text.toString());
        }
    }

    /** The class and the Model, side by side. */
    private static final class Both {
        private final SilentTurn x = new SilentTurn();
        private final Model model = new Model();
        private final String text;

        Both(String text) {
            this.text = text;
            take("house", text);
        }

        void take(String call, String what) {
            model.tape.append(what);
            Checks.feed(x, what);
            same(call, what.length());
            CHECK.due(what + ": fault(0)", x.fault(0), model.fault[0]);
            CHECK.due(what + ": fault(1)", x.fault(1), model.fault[1]);
        }

        void same(String call, long... a) {
            CHECK.due(call + java.util.Arrays.toString(a) + " in " + text, Caller.call(x, call, a), model.call(call, a));
            CHECK.due(call + ": STATUS", x.status(), model.status);
        }
    }
}
