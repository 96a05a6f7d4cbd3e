/** Promises 19 to 28: what is done in a HOUSE. */
public final class DoneTest {
    private static final Checks CHECK = new Checks();

    public static void main(String[] args) {
        minutesGoBy();
        minutesEnd();
        pausesAndRest();
        turning();
        changing();
        waking();
        following();
        hearing();
        entering();
        breathing();
        ruling();
        CHECK.end();
    }

    private static void breathsAre(String what, SilentTurn x, int... want) {
        for (int i = 0; i < want.length; i++) {
            CHECK.gives(what + ": breath of " + i, x, x.monk(i, 0), want[i]);
        }
    }

    // Worked out by hand: q a; pause; q a; p b; p helps with a; pause; q a; p b; q a.
    private static void minutesGoBy() {
        SilentTurn x = Checks.made(Checks.SMALL);
        int[] pauses = {0, 1, 0, 0, 0, 1, 0, 0, 0};
        int[] lasts = {0, -1, 0, 1, 0, -1, 0, 1, 0};
        int[] silents = {0, 0, 1, 1, 1, 2, 2, 2, 0};
        int[][] breaths = {{10, 2, 8}, {10, 3, 8}, {10, 1, 8}, {5, 2, 8}, {3, 3, 8}, {5, 4, 8}, {7, 2, 8}, {2, 3, 8},
            {4, 1, 8}};
        for (int m = 0; m < pauses.length; m++) {
            CHECK.gives("minute " + m, x, x.minute(1), pauses[m]);
            CHECK.due("last behind " + m, x.last(), lasts[m]);
            CHECK.gives("silent behind " + m, x, x.silent(), silents[m]);
            breathsAre("behind " + m, x, breaths[m]);
        }
        CHECK.gives("the minute", x, x.told(5), 9);
        CHECK.gives("pauses", x, x.told(6), 2);
        CHECK.gives("helped", x, x.told(7), 1);
        int[] spoke = {3, 4, 0};
        for (int i = 0; i < 3; i++) {
            CHECK.gives("spoke " + i, x, x.monk(i, 4), spoke[i]);
            CHECK.gives("was silent " + i, x, x.monk(i, 5), 3);
        }
        SilentTurn y = Checks.made(Checks.SMALL);
        CHECK.gives("nine at once", y, y.minute(9), 2);
        breathsAre("nine at once", y, 4, 1, 8);
        CHECK.none("minute(0)", y, y.minute(0), 1);
        CHECK.none("minute(-1)", y, y.minute(-1), 1);
        CHECK.none("minute(100)", y, y.minute(100), 1);
        CHECK.gives("nothing changed", y, y.told(5), 9);
    }

    private static void minutesEnd() {
        SilentTurn x = Checks.made(Checks.SMALL);
        for (int i = 0; i < 100; i++) {
            x.minute(99);
        }
        CHECK.none("9,900 and 100", x, x.minute(100), 1);
        x.minute(98);
        CHECK.none("9,998 and 2", x, x.minute(2), 4);
        CHECK.gives("the minute", x, x.told(5), 9998);
        int before = x.told(6);
        int now = x.minute(1);
        CHECK.gives("pauses", x, x.told(6), before + now);
        CHECK.gives("the minute", x, x.told(5), 9999);
        CHECK.none("one more", x, x.minute(1), 4);
        int next = x.speaker();
        CHECK.due("ahead it does not matter", x.speakerIn(0), next);
        x.breathIn(0, 300);
        CHECK.due("ahead it does not matter", x.status(), 0);
        CHECK.gives("the minute", x, x.told(5), 9999);
    }

    // Asleep and silent ones rest, too, and nobody has more than the most.
    private static void pausesAndRest() {
        SilentTurn x = Checks.made("topic t cost 9;monk s breath 9 rest 4;monk m breath 10 rest 3;"
                + "monk z breath 9 rest 2 asleep;");
        x.breathe(0, 1);
        x.breathe(2, 0);
        CHECK.gives("m helps", x, x.minute(1), 0);
        breathsAre("m helped", x, 5, 1, 2);
        CHECK.gives("helped without a roster", x, x.told(7), 1);
        CHECK.gives("a pause", x, x.minute(1), 1);
        breathsAre("a pause", x, 9, 4, 4);
        CHECK.gives("two pauses", x, x.minute(2), 2);
        breathsAre("two pauses", x, 9, 10, 8);
        CHECK.gives("as there is no last, t may be said again", x, x.speaker(), 1);
        SilentTurn y = Checks.made("topic t cost 0;topic u cost 0;monk s breath 0;monk m breath 0;follows t u;");
        CHECK.gives("the first topic", y, y.spoken(), 0);
        y.minute(1);
        CHECK.gives("the one that follows", y, y.spoken(), 1);
        y.minute(1);
        CHECK.gives("none follows", y, y.minute(1), 1);
        CHECK.gives("spoke", y, y.monk(1, 4), 2);
        CHECK.gives("asleep, silent", y, y.monk(0, 5), 3);
    }

    private static void turning() {
        SilentTurn x = Checks.made("turn 2;monk a breath 1;monk b breath 1 asleep;monk c breath 1;");
        int[] silents = {0, 0, 1, 1, 2, 2, 0};
        for (int m = 0; m < silents.length; m++) {
            CHECK.gives("silent in " + m, x, x.silent(), silents[m]);
            x.minute(1);
        }
        SilentTurn y = Checks.made("turn 1;monk a breath 1;");
        y.minute(3);
        CHECK.gives("alone", y, y.silent(), 0);
        CHECK.gives("alone", y, y.monk(0, 5), 3);
    }

    private static void changing() {
        SilentTurn x = Checks.made(Checks.SMALL);
        CHECK.none("he is it", x, x.change(0), 7);
        CHECK.none("no such", x, x.change(3), 1);
        CHECK.none("no such", x, x.change(-1), 1);
        CHECK.gives("who was it", x, x.change(2), 0);
        CHECK.gives("silent", x, x.silent(), 2);
        CHECK.none("he is it now", x, x.change(2), 7);
        x.minute(3);
        CHECK.gives("the next one is by numbers", x, x.silent(), 0);
        CHECK.gives("was silent", x, x.monk(2, 5), 3);
        SilentTurn none = new SilentTurn();
        CHECK.none("without monks", none, none.change(0), 1);
    }

    private static void waking() {
        SilentTurn x = Checks.made(Checks.SMALL);
        CHECK.no("he is awake", x, x.wake(0, true), 7);
        CHECK.no("he is asleep", x, x.wake(2, false), 7);
        CHECK.no("no such", x, x.wake(3, true), 1);
        CHECK.no("no such", x, x.wake(-1, true), 1);
        CHECK.yes("wake", x, x.wake(2, true));
        CHECK.gives("awake", x, x.told(8), 7);
        CHECK.gives("awake", x, x.monk(2, 3), 1);
        CHECK.yes("sleep", x, x.wake(0, false));
        CHECK.gives("awake", x, x.told(8), 6);
        CHECK.gives("asleep", x, x.monk(0, 3), 0);
    }

    private static void following() {
        SilentTurn x = Checks.made(Checks.SMALL);
        CHECK.no("b may follow a", x, x.follow(0, 1, true), 7);
        CHECK.no("a may not follow itself", x, x.follow(0, 0, false), 7);
        CHECK.no("no such", x, x.follow(3, 0, true), 1);
        CHECK.no("no such", x, x.follow(0, -1, true), 1);
        CHECK.yes("a itself", x, x.follow(0, 0, true));
        CHECK.gives("behind a", x, x.topic(0, 1), 3);
        CHECK.yes("c behind a", x, x.follow(0, 2, true));
        CHECK.gives("c behind", x, x.topic(2, 2), 3);
        CHECK.yes("b not behind a", x, x.follow(0, 1, false));
        CHECK.gives("behind a", x, x.topic(0, 1), 5);
        CHECK.gives("a behind b stays", x, x.topic(1, 1), 5);
    }

    private static void hearing() {
        SilentTurn x = Checks.made(Checks.SMALL);
        CHECK.no("himself", x, x.hear(1, 1, true), 1);
        CHECK.no("himself", x, x.hear(1, 1, false), 1);
        CHECK.no("no such", x, x.hear(1, 3, true), 1);
        CHECK.no("no such", x, x.hear(-1, 1, true), 1);
        CHECK.no("they can", x, x.hear(1, 0, true), 7);
        CHECK.no("they can't", x, x.hear(2, 0, false), 7);
        CHECK.yes("they can", x, x.hear(2, 0, true));
        CHECK.gives("p", x, x.monk(0, 6), 6);
        CHECK.gives("r", x, x.monk(2, 6), 3);
        CHECK.yes("they can't", x, x.hear(1, 0, false));
        CHECK.gives("p", x, x.monk(0, 6), 4);
        CHECK.gives("q", x, x.monk(1, 6), 4);
    }

    private static void entering() {
        SilentTurn x = Checks.made(Checks.SMALL);
        CHECK.none("no such", x, x.enter(3, 0), 1);
        CHECK.none("no such", x, x.enter(0, 3), 1);
        CHECK.none("no such", x, x.enter(-1, 0), 1);
        CHECK.none("no such", x, x.strike(2), 1);
        CHECK.none("no such", x, x.strike(-1), 1);
        for (int i = 3; i <= 12; i++) {
            CHECK.gives("enter", x, x.enter(i % 3, 2), i);
        }
        CHECK.none("a 13th", x, x.enter(0, 0), 4);
        CHECK.none("no such, and a 13th", x, x.enter(3, 0), 1);
        CHECK.gives("strike", x, x.strike(0), 11);
        CHECK.gives("a place ahead", x, x.entry(0, 0), 0);
        CHECK.gives("a place ahead", x, x.entry(0, 1), 1);
        CHECK.gives("a place ahead", x, x.entry(10, 0), 0);
        CHECK.none("no 11 any more", x, x.entry(11, 0), 1);
        CHECK.gives("strike the last", x, x.strike(10), 10);
        CHECK.gives("those ahead stay", x, x.entry(9, 0), 2);
        SilentTurn y = Checks.made(Checks.SMALL);
        y.minute(1);
        y.strike(0);
        y.strike(0);
        CHECK.gives("without a roster", y, y.told(2), 0);
        y.enter(1, 0);
        y.enter(0, 0);
        y.enter(1, 2);
        y.follow(0, 2, true);
        CHECK.gives("the place is by the minute: p is silent, so q helps", y, y.spoken(), 2);
        y.strike(0);
        CHECK.gives("q by the roster", y, y.spoken(), 2);
        CHECK.gives("q by the roster", y, y.minute(1), 0);
        CHECK.gives("nobody helped", y, y.told(7), 0);
    }

    private static void breathing() {
        SilentTurn x = Checks.made(Checks.SMALL);
        CHECK.yes("none", x, x.breathe(0, 0));
        CHECK.gives("none", x, x.monk(0, 0), 0);
        CHECK.gives("the most stays", x, x.monk(0, 1), 10);
        CHECK.yes("the most", x, x.breathe(0, 10));
        CHECK.no("more", x, x.breathe(0, 11), 1);
        CHECK.no("less", x, x.breathe(0, -1), 1);
        CHECK.no("no such", x, x.breathe(3, 1), 1);
        CHECK.no("no such", x, x.breathe(-1, 1), 1);
        CHECK.gives("stays", x, x.monk(0, 0), 10);
        CHECK.yes("price", x, x.price(0, 20));
        CHECK.gives("price", x, x.topic(0, 0), 20);
        CHECK.yes("price", x, x.price(0, 0));
        CHECK.no("more", x, x.price(0, 21), 1);
        CHECK.no("less", x, x.price(0, -1), 1);
        CHECK.no("no such", x, x.price(3, 1), 1);
        CHECK.no("no such", x, x.price(-1, 1), 1);
        CHECK.gives("stays", x, x.topic(0, 0), 0);
    }

    private static void ruling() {
        SilentTurn x = Checks.made(Checks.SMALL);
        int[][] wrong = {{2, 5}, {5, 5}, {-1, 5}, {0, 1}, {3, 0}, {3, 100}, {3, -1}, {4, -1}, {4, 17}};
        for (int[] w : wrong) {
            CHECK.no("rule " + w[0] + " " + w[1], x, x.rule(w[0], w[1]), 1);
        }
        CHECK.gives("turn stays", x, x.told(3), 3);
        CHECK.gives("odds stay", x, x.told(4), 8);
        int[][] right = {{3, 1}, {3, 99}, {4, 0}, {4, 16}};
        for (int[] r : right) {
            CHECK.yes("rule " + r[0] + " " + r[1], x, x.rule(r[0], r[1]));
            CHECK.gives("rule " + r[0] + " " + r[1], x, x.told(r[0]), r[1]);
        }
        x.minute(4);
        x.rule(3, 5);
        x.minute(1);
        CHECK.gives("5 divides 5", x, x.silent(), 1);
    }
}
