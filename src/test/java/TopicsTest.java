/** Promises 45 to 51: TALK, RING, where talk can come to, GAMES of TOPICS. */
public final class TopicsTest {
    private static final Checks CHECK = new Checks();

    public static void main(String[] args) {
        small();
        rows();
        rings();
        reaching();
        games();
        wrongNumbers();
        CHECK.end();
    }

    // Topics 0 to 5; each pair of digits is a topic and one that may follow it.
    private static SilentTurn graph(String... pairs) {
        StringBuilder text = new StringBuilder();
        for (char c = 'a'; c <= 'f'; c++) {
            text.append("topic ").append(c).append(" cost 20;");
        }
        SilentTurn x = Checks.made(text.toString());
        for (String pair : pairs) {
            x.follow(pair.charAt(0) - '0', pair.charAt(1) - '0', true);
        }
        return x;
    }

    private static void small() {
        SilentTurn x = Checks.made(Checks.SMALL);
        talkIs("a b c", x, 0, 1, 2);
        talkIs("b c a", x, 1, 2, 0);
        talkIs("c a b", x, 2, 0, 1);
        ringIs("a b", x, 0, 1);
    }

    private static void talkIs(String what, SilentTurn x, int... row) {
        CHECK.gives("talk " + what, x, x.talk(row[0]), row.length);
        for (int k = 0; k < row.length; k++) {
            CHECK.gives("talkAt " + what + " " + k, x, x.talkAt(row[0], k), row[k]);
        }
        CHECK.none("talkAt behind it", x, x.talkAt(row[0], row.length), 6);
        CHECK.none("talkAt far behind it", x, x.talkAt(row[0], Integer.MAX_VALUE), 6);
    }

    private static void ringIs(String what, SilentTurn x, int... row) {
        CHECK.gives("ring " + what, x, x.ring(), row.length);
        for (int k = 0; k < row.length; k++) {
            CHECK.gives("ringAt " + what + " " + k, x, x.ringAt(k), row[k]);
        }
        CHECK.none("ringAt behind it", x, x.ringAt(row.length), 6);
    }

    private static void rows() {
        talkIs("alone", graph("11"), 1);
        talkIs("itself is none more", graph("00", "01"), 0, 1);
        talkIs("the first of two", graph("02", "01"), 0, 1);
        talkIs("the longer one", graph("01", "05", "53"), 0, 5, 3);
        talkIs("the first of two long ones", graph("01", "05", "53", "52", "12", "14"), 0, 1, 2);
        talkIs("all", graph("05", "54", "43", "32", "21", "10"), 0, 5, 4, 3, 2, 1);
        talkIs("all, from the midst", graph("34", "45", "50", "01", "12", "35", "30"), 3, 4, 5, 0, 1, 2);
        SilentTurn x = graph("01", "12", "20");
        talkIs("round", x, 1, 2, 0);
        x.follow(1, 2, false);
        talkIs("not any more", x, 1);
    }

    private static void rings() {
        SilentTurn x = graph("01", "12", "23", "34", "45");
        CHECK.none("none", x, x.ring(), 6);
        CHECK.none("none", x, x.ringAt(0), 6);
        CHECK.none("below 0", x, x.ringAt(-1), 1);
        x.follow(5, 0, true);
        ringIs("all", x, 0, 1, 2, 3, 4, 5);
        x.follow(5, 3, true);
        ringIs("three", x, 3, 4, 5);
        x.follow(3, 1, true);
        ringIs("the least first of two", x, 1, 2, 3);
        x.follow(5, 4, true);
        ringIs("two", x, 4, 5);
        x.follow(5, 5, true);
        ringIs("itself", x, 5);
        x.follow(2, 2, true);
        ringIs("the least of them", x, 2);
        ringIs("the least second one", graph("04", "45", "50", "02", "23", "30"), 0, 2, 3);
        ringIs("the least third one", graph("02", "25", "50", "23", "30"), 0, 2, 3);
        SilentTurn y = new SilentTurn();
        CHECK.none("no topics", y, y.ring(), 6);
    }

    private static void reaching() {
        SilentTurn x = graph("01", "12", "23", "32", "55");
        int[] want = {14, 12, 12, 12, 0, 32};
        for (int i = 0; i < want.length; i++) {
            CHECK.gives("reach " + i, x, x.reach(i), want[i]);
        }
        x = graph("54", "43", "32", "21", "10");
        CHECK.gives("all but itself", x, x.reach(5), 31);
        CHECK.gives("none", x, x.reach(0), 0);
        x.follow(0, 5, true);
        CHECK.gives("all", x, x.reach(3), 63);
    }

    private static void gameIs(String what, SilentTurn x, int topic, int best) {
        CHECK.gives(what + ": wins " + topic, x, x.wins(topic), best < 0 ? 0 : 1);
        if (best < 0) {
            CHECK.none(what + ": best " + topic, x, x.best(topic), 6);
        } else {
            CHECK.gives(what + ": best " + topic, x, x.best(topic), best);
        }
    }

    private static void games() {
        SilentTurn row = graph("01", "12", "23");
        int[] bests = {1, -1, 3, -1};
        for (int i = 0; i < bests.length; i++) {
            gameIs("a row", row, i, bests[i]);
        }
        gameIs("none", row, 4, -1);
        gameIs("itself was said", graph("00"), 0, -1);
        gameIs("the least that wins", graph("01", "12", "04", "03"), 0, 3);
        gameIs("a ring of three", graph("01", "12", "20"), 0, -1);
        gameIs("a ring of four", graph("01", "12", "23", "30"), 0, 1);
        gameIs("the small one", Checks.made(Checks.SMALL), 1, 0);
    }

    private static void wrongNumbers() {
        SilentTurn x = graph("01");
        for (int wrong : new int[] {-1, 6, Integer.MIN_VALUE}) {
            CHECK.none("talk", x, x.talk(wrong), 1);
            CHECK.none("talkAt", x, x.talkAt(wrong, 0), 1);
            CHECK.none("reach", x, x.reach(wrong), 1);
            CHECK.none("wins", x, x.wins(wrong), 1);
            CHECK.none("best", x, x.best(wrong), 1);
        }
        CHECK.none("talkAt below 0", x, x.talkAt(0, -1), 1);
        SilentTurn y = new SilentTurn();
        CHECK.none("no topics", y, y.talk(0), 1);
        CHECK.none("no topics", y, y.wins(0), 1);
    }
}
