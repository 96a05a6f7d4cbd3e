/** Promises 29 to 44: what is so now, and what will be. */
public final class AheadTest {
    private static final Checks CHECK = new Checks();

    public static void main(String[] args) {
        whoCan();
        whoSpeaks();
        whoWillSpeak();
        firstPause();
        turns();
        unfairness();
        enough();
        fewest();
        shift();
        shiftWithTurns();
        wrongNumbers();
        CHECK.end();
    }

    private static void whoCan() {
        SilentTurn x = Checks.made(Checks.SMALL);
        int[][] can = {{0, 0, 0}, {1, 0, 1}, {0, 0, 0}};
        cansAre("at first", x, can);
        x.wake(2, true);
        cansAre("r wakes", x, new int[][] {{0, 0, 0}, {1, 0, 1}, {1, 1, 1}});
        x.change(1);
        cansAre("q is silent", x, new int[][] {{1, 1, 1}, {0, 0, 0}, {1, 1, 1}});
        x.breathe(0, 1);
        x.breathe(2, 2);
        cansAre("just enough", x, new int[][] {{0, 0, 1}, {0, 0, 0}, {1, 0, 1}});
        x.breathe(0, 10);
        x.minute(1);
        CHECK.gives("p helped with a", x, x.last(), 0);
        cansAre("b alone behind a", x, new int[][] {{0, 1, 0}, {0, 0, 0}, {0, 0, 0}});
        x.follow(0, 1, false);
        cansAre("none behind a", x, new int[3][3]);
        SilentTurn y = new SilentTurn();
        CHECK.none("no such", y, y.can(0, 0), 1);
        CHECK.none("no such", y, y.topics(0), 1);
        CHECK.none("no such", y, y.speakers(0), 1);
        int[][] wrong = {{3, 0}, {-1, 0}, {0, 3}, {0, -1}};
        for (int[] w : wrong) {
            CHECK.none("can", x, x.can(w[0], w[1]), 1);
        }
        CHECK.none("topics", x, x.topics(3), 1);
        CHECK.none("topics", x, x.topics(-1), 1);
        CHECK.none("speakers", x, x.speakers(3), 1);
        CHECK.none("speakers", x, x.speakers(-1), 1);
    }

    private static void cansAre(String what, SilentTurn x, int[][] want) {
        for (int monk = 0; monk < want.length; monk++) {
            int topics = 0;
            for (int topic = 0; topic < want[monk].length; topic++) {
                CHECK.gives(what + ": can " + monk + " " + topic, x, x.can(monk, topic), want[monk][topic]);
                topics |= want[monk][topic] << topic;
            }
            CHECK.gives(what + ": topics " + monk, x, x.topics(monk), topics);
        }
        for (int topic = 0; topic < want[0].length; topic++) {
            int speakers = 0;
            for (int monk = 0; monk < want.length; monk++) {
                speakers |= want[monk][topic] << monk;
            }
            CHECK.gives(what + ": speakers " + topic, x, x.speakers(topic), speakers);
        }
    }

    private static void whoSpeaks() {
        SilentTurn x = Checks.made(Checks.SMALL);
        int[] speakers = {1, -1, 1, 0, 0, -1, 1, 0, 1};
        int[] topics = {0, -1, 0, 1, 0, -1, 0, 1, 0};
        for (int m = 0; m < speakers.length; m++) {
            CHECK.due("speaker " + m, x.speaker(), speakers[m]);
            CHECK.due("status " + m, x.status(), speakers[m] < 0 ? 6 : 0);
            CHECK.due("spoken " + m, x.spoken(), topics[m]);
            CHECK.due("status " + m, x.status(), speakers[m] < 0 ? 6 : 0);
            x.minute(1);
        }
    }

    private static void whoWillSpeak() {
        SilentTurn x = Checks.made(Checks.SMALL);
        int[] speakers = {1, -1, 1, 0, 0, -1, 1, 0, 1};
        int[] pauses = {0, 0, 1, 1, 1, 1, 2, 2, 2};
        int[][] breaths = {{10, 4, 8}, {10, 2, 8}, {10, 3, 8}, {10, 1, 8}, {5, 2, 8}, {3, 3, 8}, {5, 4, 8}, {7, 2, 8},
            {2, 3, 8}};
        for (int m = 0; m < speakers.length; m++) {
            CHECK.due("speakerIn " + m, x.speakerIn(m), speakers[m]);
            CHECK.due("status " + m, x.status(), speakers[m] < 0 ? 6 : 0);
            CHECK.gives("pausesIn " + m, x, x.pausesIn(m), pauses[m]);
            for (int monk = 0; monk < 3; monk++) {
                CHECK.gives("breathIn " + m, x, x.breathIn(monk, m), breaths[m][monk]);
            }
        }
        CHECK.gives("nothing goes by", x, x.told(5), 0);
        CHECK.gives("nothing goes by", x, x.told(6), 0);
        CHECK.gives("pauseIn", x, x.pauseIn(), 1);
        x.minute(2);
        CHECK.gives("pauseIn", x, x.pauseIn(), 3);
        CHECK.gives("pausesIn, from now on", x, x.pausesIn(3), 0);
        CHECK.gives("pausesIn, from now on", x, x.pausesIn(4), 1);
        int far = x.breathIn(0, 300);
        int pausesFar = x.pausesIn(300);
        int speakerFar = x.speakerIn(300);
        int pausesNow = x.told(6);
        for (int i = 0; i < 100; i++) {
            x.minute(3);
        }
        CHECK.gives("300 ahead", x, x.monk(0, 0), far);
        CHECK.gives("300 ahead", x, x.told(6), pausesNow + pausesFar);
        CHECK.due("300 ahead", x.speaker(), speakerFar);
    }

    // b speaks until 98, a until 197, d until 296, then c as long as he has breath.
    private static SilentTurn untilOutOfBreath(int breathOfC) {
        return Checks.made("turn 99;topic t cost 1;follows t t;monk a breath 99 rest 0;monk b breath 99 rest 0;"
                + "monk c breath " + breathOfC + " rest 0;monk d breath 99 rest 0;");
    }

    private static void firstPause() {
        SilentTurn x = untilOutOfBreath(0);
        CHECK.gives("297", x, x.pauseIn(), 297);
        CHECK.gives("in 297", x, x.pausesIn(297), 0);
        CHECK.gives("in 300", x, x.pausesIn(300), 3);
        x = untilOutOfBreath(3);
        CHECK.gives("300", x, x.pauseIn(), 300);
        CHECK.gives("in 300", x, x.pausesIn(300), 0);
        CHECK.none("in 300", x, x.speakerIn(300), 6);
        x = untilOutOfBreath(4);
        CHECK.none("301", x, x.pauseIn(), 6);
        CHECK.gives("in 300", x, x.speakerIn(300), 2);
        x.minute(1);
        CHECK.gives("a minute later", x, x.pauseIn(), 300);
        x = Checks.made("topic t cost 0;follows t t;monk s breath 0;monk m breath 0;");
        CHECK.none("never", x, x.pauseIn(), 6);
    }

    private static void turns() {
        SilentTurn x = Checks.made(Checks.SMALL);
        int[][] want = {{0, 3, 6}, {0, 2, 5}, {0, 1, 4}, {6, 0, 3}, {5, 0, 2}, {4, 0, 1}, {3, 6, 0}};
        for (int m = 0; m < want.length; m++) {
            for (int monk = 0; monk < 3; monk++) {
                CHECK.gives("turnIn " + monk + " in " + m, x, x.turnIn(monk), want[m][monk]);
            }
            x.minute(1);
        }
        x.change(0);
        CHECK.gives("in 7, changed", x, x.turnIn(0), 0);
        CHECK.gives("in 7, changed", x, x.turnIn(1), 2);
        CHECK.gives("in 7, changed", x, x.turnIn(2), 5);
        CHECK.none("no such", x, x.turnIn(3), 1);
        CHECK.none("no such", x, x.turnIn(-1), 1);
        SilentTurn y = Checks.made("turn 99;monk a breath 1;monk b breath 1;monk c breath 1;monk d breath 1;"
                + "monk e breath 1;monk f breath 1;monk g breath 1;");
        CHECK.gives("the longest", y, y.turnIn(6), 594);
    }

    private static void unfairness() {
        SilentTurn x = Checks.made(Checks.SMALL);
        int[] want = {0, 1, 2, 3, 3, 3, 3, 2, 1, 0, 1};
        for (int m = 0; m < want.length; m++) {
            CHECK.gives("unfair in " + m, x, x.unfair(), want[m]);
            x.minute(1);
        }
        SilentTurn y = Checks.made("monk a breath 1;");
        y.minute(9);
        CHECK.gives("alone", y, y.unfair(), 0);
    }

    private static void enough() {
        SilentTurn x = Checks.made(Checks.SMALL);
        CHECK.gives("none for none", x, x.enough(0, 0), 1);
        CHECK.gives("none for one", x, x.enough(0, 1), 0);
        CHECK.gives("the silent one", x, x.enough(1, 1), 0);
        CHECK.gives("r alone, though asleep", x, x.enough(4, 2), 1);
        CHECK.gives("p and q", x, x.enough(3, 2), 0);
        CHECK.gives("nobody woke", x, x.told(8), 3);
        CHECK.none("no such set", x, x.enough(8, 1), 1);
        CHECK.none("no such set", x, x.enough(-1, 1), 1);
        CHECK.none("61", x, x.enough(1, 61), 1);
        CHECK.none("-1", x, x.enough(1, -1), 1);
        SilentTurn y = Checks.made("turn 60;topic t cost 0;follows t t;monk s breath 1;monk m breath 1;");
        CHECK.gives("60", y, y.enough(2, 60), 1);
        y.minute(1);
        CHECK.gives("he is silent in the 60th", y, y.enough(2, 60), 0);
        CHECK.gives("but not in 59", y, y.enough(2, 59), 1);
        CHECK.gives("both", y, y.enough(3, 60), 1);
    }

    // a, b have breath for two minutes each, c for four; a is silent from minute 5 on.
    private static void fewest() {
        SilentTurn x = Checks.made("turn 5;topic t cost 2;follows t t;monk s breath 0 rest 0;monk a breath 4 rest 0;"
                + "monk b breath 4 rest 0;monk c breath 8 rest 0;");
        int[] sets = {0, 2, 2, 8, 8, 10, 10, 14, 14};
        for (int n = 0; n < sets.length; n++) {
            CHECK.gives("fewestSet " + n, x, x.fewestSet(n), sets[n]);
            CHECK.gives("fewest " + n, x, x.fewest(n), Integer.bitCount(sets[n]));
        }
        CHECK.none("none", x, x.fewest(9), 6);
        CHECK.none("none", x, x.fewestSet(9), 6);
        for (int wrong : new int[] {-1, 61}) {
            CHECK.none("fewest", x, x.fewest(wrong), 1);
            CHECK.none("fewestSet", x, x.fewestSet(wrong), 1);
        }
        CHECK.gives("nobody woke or slept", x, x.told(8), 15);
    }

    private static void shift() {
        SilentTurn x = Checks.made("topic a cost 3;topic b cost 1;follows b a;monk s breath 99;"
                + "monk p breath 10 rest 0;monk q breath 10 rest 0;monk r breath 50 asleep;");
        shiftIs("one", x, 1, 9, 1, 1);
        shiftIs("two", x, 2, 7, 1, 1, 2, 0);
        CHECK.none("three", x, x.shift(3), 6);
        CHECK.none("three", x, x.shiftAt(3, 0, 0), 6);
        x.follow(0, 1, true);
        shiftIs("three", x, 3, 7, 1, 1, 2, 0, 1, 1);
        x.breathe(3, 2);
        shiftIs("he who is asleep counts, and rests", x, 3, 5, 1, 0, 1, 1, 2, 0);
        CHECK.gives("nothing goes by", x, x.told(5), 0);
    }

    private static void shiftIs(String what, SilentTurn x, int n, int least, int... way) {
        CHECK.gives(what + ": shift", x, x.shift(n), least);
        for (int k = 0; k < n; k++) {
            for (int i = 0; i < 2; i++) {
                CHECK.gives(what + ": shiftAt " + k + " " + i, x, x.shiftAt(n, k, i), way[2 * k + i]);
            }
        }
    }

    // In the second minute b is the silent one, in the third a again.
    private static void shiftWithTurns() {
        SilentTurn x = Checks.made("turn 1;topic t cost 2;follows t t;monk a breath 5;monk b breath 5;");
        shiftIs("by turns", x, 3, 2, 1, 0, 0, 0, 1, 0);
        SilentTurn y = Checks.made("turn 2;topic t cost 2;follows t t;monk a breath 3;monk b breath 3;");
        CHECK.none("b has one breath in the second minute", y, y.shift(2), 6);
        CHECK.gives("one", y, y.shift(1), 1);
        SilentTurn none = new SilentTurn();
        CHECK.none("nobody", none, none.shift(1), 6);
    }

    private static void wrongNumbers() {
        SilentTurn x = Checks.made(Checks.SMALL);
        for (int wrong : new int[] {-1, 301, Integer.MAX_VALUE, Integer.MIN_VALUE}) {
            CHECK.none("speakerIn", x, x.speakerIn(wrong), 1);
            CHECK.none("breathIn", x, x.breathIn(0, wrong), 1);
            CHECK.none("pausesIn", x, x.pausesIn(wrong), 1);
        }
        CHECK.none("breathIn", x, x.breathIn(3, 0), 1);
        CHECK.none("breathIn", x, x.breathIn(-1, 0), 1);
        int[][] shifts = {{0, 0, 0}, {4, 0, 0}, {1, 1, 0}, {2, -1, 0}, {1, 0, 2}, {1, 0, -1}, {3, 3, 0}};
        for (int[] s : shifts) {
            CHECK.none("shiftAt", x, x.shiftAt(s[0], s[1], s[2]), 1);
        }
        CHECK.none("shift", x, x.shift(0), 1);
        CHECK.none("shift", x, x.shift(4), 1);
    }
}
