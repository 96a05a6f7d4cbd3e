/** Promises 11, 12, 58 to 60: DAYS as a text, their FAULTS, how they are LIVED. */
public final class DaysTest {
    private static final Checks CHECK = new Checks();
    private static final String SMALL = Checks.SMALL;

    public static void main(String[] args) {
        taking();
        faults();
        tooMuch();
        steps();
        tests();
        loops();
        stepsEnd();
        draws();
        missed();
        stops();
        means();
        wrongInputs();
        CHECK.end();
    }

    private static void taking() {
        SilentTurn x = Checks.made(SMALL);
        CHECK.gives("nothing", x, x.days(0), 0);
        CHECK.gives("nothing is lived", x, x.live(0), 0);
        int n = Checks.feed(x, "minute 1; change q; wake r; sleep r; any; when silent p; stop; end; loop 2; end;");
        CHECK.none("more than the tape", x, x.days(n + 20), 1);
        CHECK.none("below 0", x, x.days(-1), 1);
        CHECK.gives("days", x, x.days(n), 8);
        CHECK.faultIs("days", x, 0, -1);
        CHECK.due("the tape is empty", x.feed(0, 0, 0, 0, 0), 20);
        CHECK.none("a zero", x, x.days(1), 9);
        CHECK.faultIs("a zero", x, 1, 0);
        CHECK.due("the tape is empty", x.feed(0, 0, 0, 0, 0), 20);
        CHECK.gives("the old ones stay", x, x.live(0), 7);
        x = Checks.made(SMALL);
        Checks.feed(x, " ".repeat(320));
        CHECK.none("above 300", x, x.days(301), 1);
        CHECK.gives("300", x, x.days(300), 0);
    }

    private static void bad(String text, int kind, int place) {
        CHECK.badDays(SMALL, text, kind, place);
    }

    private static void faults() {
        bad("minute 1!", 1, 8);
        bad("minute 00001;", 1, 7);
        bad("paused", 2, 0);
        bad("turn 5;", 2, 0);
        bad("p", 2, 0);
        bad("7", 2, 0);
        bad("minute;", 2, 6);
        bad("minute 1", 2, 8);
        bad("minute 1 ", 2, 9);
        bad("minute p;", 2, 7);
        bad("change;", 2, 6);
        bad("change 1;", 2, 7);
        bad("change abcdefghi;", 2, 7);
        bad("wake end;", 2, 5);
        bad("any 1;", 2, 4);
        bad("stop", 2, 4);
        bad("end;", 2, 0);
        bad("minute 1; end;", 2, 10);
        bad("loop 2; end; end;", 2, 13);
        bad("loop 2; end", 2, 11);
        bad("loop 2; minute 1;", 2, 17);
        bad("loop 2; when silent p; end;", 2, 27);
        bad("loop; end;", 2, 4);
        bad("when; end;", 2, 4);
        bad("when p; end;", 2, 5);
        bad("when silent; end;", 2, 11);
        bad("when last 5; end;", 2, 10);
        bad("when breath p; end;", 2, 13);
        bad("when breath p 5; end;", 2, 14);
        bad("when breath p < ; end;", 2, 16);
        bad("when breath p < = 5; end;", 2, 16);
        bad("when breath < 5; end;", 2, 12);
        bad("when paused p; end;", 2, 12);
        bad("when paused ; end;", 2, 12);
        bad("when paused > 5 end;", 2, 16);
        bad("change a;", 3, 7);
        bad("change x;", 3, 7);
        bad("wake b;", 3, 5);
        bad("sleep c;", 3, 6);
        bad("when silent a; end;", 3, 12);
        bad("when last p; end;", 3, 10);
        bad("when breath a < 1; end;", 3, 12);
        bad("minute 0;", 4, 7);
        bad("minute 61;", 4, 7);
        bad("loop 0; end;", 4, 5);
        bad("loop 100; end;", 4, 5);
        bad("when breath p < 100; end;", 4, 16);
        bad("minute 0 !", 4, 7);
        SilentTurn x = Checks.made(SMALL, "minute 60;loop 99;end;when breath p<0;end;when breath p>99;end;"
                + "when paused=0;end;when paused>9999;end;when last c;end;");
        CHECK.due("the edges", x.live(0), 7);
        CHECK.badDays("", "change p;", 3, 7);
    }

    private static void tooMuch() {
        String thirty = "any;".repeat(30);
        CHECK.gives("thirty", Checks.made(SMALL, thirty), 0, 0);
        bad(thirty + "any;", 6, 120);
        bad(thirty + "minute 0;", 6, 120);
        bad(thirty + "loop", 6, 120);
        bad(thirty + "x", 2, 120);
        bad(thirty + "end;", 2, 120);
        String three = "loop 1;when silent p;loop 1;";
        SilentTurn x = Checks.made(SMALL, three + "end;loop 2;end;end;end;loop 1;end;");
        CHECK.gives("three deep", x, x.live(0), 5);
        bad(three + "loop 1;", 7, three.length());
        bad(three + "when silent p;", 7, three.length());
        bad(three + "minute 1;end;loop 1;when 5", 7, three.length() + 20);
        bad("any;".repeat(27) + three + "loop", 6, 108 + three.length());
        bad("any;".repeat(27) + three + "end;end;end;any", 6, 108 + three.length() + 12);
        CHECK.gives("ends are none", Checks.made(SMALL, "any;".repeat(27) + three + "end;end;end;"), 0, 0);
    }

    private static void steps() {
        SilentTurn x = Checks.made(SMALL, "minute 2;change q;wake r;sleep p;minute 1;");
        CHECK.none("none was lived", x, x.lived(0), 6);
        CHECK.gives("live", x, x.live(5), 5);
        livedIs("steps", x, 0, 3, 1, 1, 0);
        // q a; pause; then r, who woke, helps with a, as q is silent and p asleep.
        CHECK.gives("minute", x, x.told(5), 3);
        CHECK.gives("silent: the turn came", x, x.silent(), 2);
        CHECK.gives("awake", x, x.told(8), 6);
        CHECK.gives("r", x, x.monk(2, 0), 6);
        CHECK.gives("last", x, x.last(), 0);
        CHECK.gives("live again", x, x.live(5), 5);
        // A pause; q a; then r helps with b. He is awake already, p asleep.
        livedIs("again: wake, sleep are missed", x, 2, 3, 1, 1, 0);
        CHECK.gives("pauses in all", x, x.told(6), 2);
        CHECK.gives("r", x, x.monk(2, 0), 3);
    }

    private static void livedIs(String what, SilentTurn x, int... want) {
        for (int i = 0; i < want.length; i++) {
            CHECK.gives(what + ": lived " + i, x, x.lived(i), want[i]);
        }
    }

    // Each test's step is a wake of r, who is asleep: it tells whether it was come to.
    private static void holds(String test, boolean want) {
        SilentTurn x = Checks.made(SMALL, "minute 2;when " + test + ";wake r;end;");
        CHECK.gives(test, x, x.live(0), want ? 3 : 2);
        CHECK.gives(test, x, x.told(8), want ? 7 : 3);
    }

    // Behind two minutes p has 10, q 3; there was one pause, so there is no last one.
    private static void tests() {
        holds("silent p", true);
        holds("silent q", false);
        holds("last a", false);
        holds("breath p = 10", true);
        holds("breath p > 9", true);
        holds("breath p > 10", false);
        holds("breath q < 4", true);
        holds("breath q < 3", false);
        holds("breath q = 4", false);
        holds("paused = 1", true);
        holds("paused > 0", true);
        holds("paused > 1", false);
        holds("paused < 1", false);
        holds("paused < 2", true);
        SilentTurn x = Checks.made(SMALL, "minute 1;when last a;wake r;end;when last b;minute 9;end;");
        CHECK.gives("last a", x, x.live(0), 4);
        CHECK.gives("last a", x, x.told(8), 7);
        CHECK.gives("last a", x, x.told(5), 1);
    }

    private static void loops() {
        SilentTurn x = Checks.made(SMALL, "loop 3;minute 2;end;minute 1;");
        CHECK.gives("a loop counts once", x, x.live(0), 5);
        CHECK.gives("minutes", x, x.told(5), 7);
        x = Checks.made(SMALL, "loop 3;minute 1;loop 2;minute 5;end;end;");
        CHECK.gives("a loop within", x, x.live(0), 1 + 3 * (1 + 1 + 2));
        CHECK.gives("minutes", x, x.told(5), 33);
        x = Checks.made(SMALL, "loop 99;end;minute 1;");
        CHECK.gives("a loop of nothing", x, x.live(0), 2);
        x = Checks.made(SMALL, "loop 4;when paused > 0;stop;end;minute 1;end;");
        CHECK.gives("until a pause", x, x.live(0), 1 + 2 + 2 + 2);
        CHECK.gives("until a pause", x, x.told(5), 2);
        livedIs("stopped", x, 0, 2, 1, 0, 0);
    }

    private static void stepsEnd() {
        SilentTurn x = Checks.made("", "loop 99;minute 1;minute 1;minute 1;end;");
        CHECK.gives("298", x, x.live(0), 298);
        livedIs("none left", x, 0, 297, 297, 0, 0);
        x = Checks.made("", "loop 99;minute 1;minute 1;minute 1;end;minute 1;loop 9;end;");
        CHECK.gives("300", x, x.live(0), 300);
        livedIs("none left", x, 0, 298, 298, 0, 0);
        x = Checks.made("", "loop 99;minute 1;minute 1;minute 1;end;minute 1;loop 9;end;stop;");
        CHECK.gives("300", x, x.live(0), 300);
        livedIs("one left", x, 0, 298, 298, 0, 1);
        x = Checks.made("", "loop 99;minute 1;minute 1;minute 1;end;minute 1;loop 9;any;end;");
        CHECK.gives("300", x, x.live(0), 300);
        livedIs("within left", x, 0, 298, 298, 0, 1);
        x = Checks.made("", "loop 99;minute 1;minute 1;minute 1;end;minute 1;when paused=0;any;end;");
        CHECK.gives("300", x, x.live(0), 300);
        livedIs("within not come to", x, 0, 298, 298, 0, 0);
        x = Checks.made("", "loop 99;loop 99;loop 99;end;end;end;");
        CHECK.gives("loops of loops", x, x.live(0), 300);
        livedIs("left", x, 0, 0, 0, 0, 1);
        Checks.days(x, "stop;");
        x.live(0);
        livedIs("not left any more", x, 0, 0, 0, 0, 0);
        x = Checks.made("", "loop 1;end;".repeat(25) + "loop 3;any;end;");
        CHECK.gives("a loop behind many", x, x.live(0), 25 + 1 + 3);
        x = Checks.made("", "loop 99;minute 1;minute 1;minute 1;end;minute 1;stop;any;");
        CHECK.gives("300", x, x.live(0), 300);
        livedIs("stop is the 300th", x, 0, 298, 298, 0, 0);
    }

    // Seed 0: 11,329, 22,576, 40,209, 52,832: by 8 1,416, 2,822, 5,026, 6,604.
    private static void draws() {
        SilentTurn x = Checks.made("monk a breath 99;monk b breath 99;monk c breath 99;", "any;");
        CHECK.gives("live", x, x.live(0), 1);
        CHECK.gives("1,416 by 3", x, x.monk(0, 0), 99 - 2822 % 8);
        x = Checks.made("monk a breath 99;monk b breath 5 asleep;monk c breath 99;", "any;any;");
        CHECK.gives("live", x, x.live(0), 2);
        CHECK.gives("a", x, x.monk(0, 0), 93);
        CHECK.gives("5,026 by 3 is 1", x, x.monk(1, 0), 5 - 6604 % 8);
        CHECK.gives("c", x, x.monk(2, 0), 99);
        // Seed 9,999: 9,999 times 3,119 and 11,329 is 31,198,210: by 65,536 left 3,074; by 8 384.
        x = Checks.made("monk a breath 1;", "any;any;any;any;any;");
        x.live(9999);
        CHECK.gives("0 at least", x, x.monk(0, 0), 0);
        x = Checks.made("monk a breath 99;", "any;");
        x.live(9999);
        long second = (3074L * 3119 + 11329) % 65536;
        CHECK.gives("9,999", x, x.monk(0, 0), 99 - second / 8 % 8);
    }

    private static void missed() {
        SilentTurn last = Checks.made("", "minute 60;minute 40;minute 39;minute 1;");
        for (int i = 0; i < 100; i++) {
            last.minute(99);
        }
        CHECK.gives("to the last minute", last, last.live(0), 4);
        CHECK.gives("to the last minute", last, last.told(5), 9999);
        livedIs("to the last minute", last, 2, 99, 99, 0, 0);
        SilentTurn x = Checks.made("", "any;minute 1;any;");
        CHECK.gives("without monks", x, x.live(0), 3);
        livedIs("without monks", x, 2, 1, 1, 0, 0);
        x = Checks.made(SMALL, "change p;wake p;sleep r;change q;change q;");
        CHECK.gives("live", x, x.live(0), 5);
        livedIs("missed", x, 4, 0, 0, 0, 0);
        CHECK.gives("q", x, x.silent(), 1);
        x = Checks.made(SMALL, "minute 60;minute 1;minute 50;minute 48;minute 1;");
        for (int i = 0; i < 100; i++) {
            x.minute(99);
        }
        CHECK.gives("live", x, x.live(0), 5);
        CHECK.gives("as a whole", x, x.told(5), 9962);
        livedIs("as a whole", x, 2, 62, x.lived(2), x.lived(3), 0);
        x = Checks.made("topic t cost 1;", "loop 99;minute 60;minute 60;end;");
        CHECK.gives("live", x, x.live(0), 199);
        livedIs("9,960 of them", x, 198 - 166, 9960, 9960, 0, 0);
        CHECK.gives("minute", x, x.told(5), 9960);
    }

    private static void stops() {
        SilentTurn x = Checks.made(SMALL, "minute 1;stop;minute 1;");
        CHECK.gives("stop", x, x.live(0), 2);
        livedIs("stop", x, 0, 1, 0, 0, 0);
        x = Checks.made(SMALL, "minute 5;");
        x.live(1);
        livedIs("helped", x, 0, 5, 1, 1, 0);
        CHECK.none("refused", x, x.live(-1), 1);
        livedIs("the latest with 0", x, 0, 5, 1, 1, 0);
        Checks.house(x, "");
        CHECK.none("no days", x, x.live(1), 6);
        livedIs("the latest with 0", x, 0, 5, 1, 1, 0);
    }

    private static void means() {
        SilentTurn x = Checks.made(SMALL, "minute 6;");
        CHECK.yes("mean", x, x.mean(0, 20));
        CHECK.fraction("two pauses always", x, 2, 1);
        CHECK.gives("all stays", x, x.told(5), 0);
        CHECK.none("all stays", x, x.lived(0), 6);
        x.minute(2);
        CHECK.yes("mean", x, x.mean(7, 3));
        x.minute(6);
        CHECK.fraction("pauses ahead, too", x, x.told(6), 1);
        x = Checks.made(SMALL, "any;any;minute 3;any;any;minute 3;");
        x.mark();
        long sum = 0;
        for (int seed = 100; seed < 112; seed++) {
            x.live(seed);
            sum += x.told(6);
            x.undo();
            x.mark();
        }
        int steps = x.lived(1);
        CHECK.yes("mean", x, x.mean(100, 12));
        CHECK.due("as by single seeds", x.top() * 12, sum * x.bottom());
        CHECK.gives("lived stays", x, x.lived(1), steps);
        CHECK.gives("all stays", x, x.monk(0, 0), 10);
        CHECK.yes("the last seed", x, x.mean(9999, 1));
        CHECK.yes("to the last seed", x, x.mean(9980, 20));
    }

    private static void wrongInputs() {
        SilentTurn x = Checks.made(SMALL);
        CHECK.none("no days", x, x.live(0), 6);
        CHECK.no("no days", x, x.mean(0, 1), 6);
        CHECK.none("a seed ahead of no days", x, x.live(10000), 1);
        CHECK.no("many ahead of no days", x, x.mean(0, 0), 1);
        Checks.days(x, "minute 1;");
        x.coughs(0);
        int[][] wrong = {{-1, 1}, {10000, 1}, {0, 0}, {0, 21}, {0, -1}, {9999, 2}, {9981, 20},
            {Integer.MAX_VALUE, 20}};
        for (int[] w : wrong) {
            CHECK.no("mean " + w[0] + " " + w[1], x, x.mean(w[0], w[1]), 1);
        }
        CHECK.fraction("stays", x, 1, 1);
        for (int seed : new int[] {-1, 10000, Integer.MIN_VALUE}) {
            CHECK.none("live " + seed, x, x.live(seed), 1);
        }
        CHECK.none("lived(5)", x, x.lived(5), 1);
        CHECK.none("lived(-1)", x, x.lived(-1), 1);
        CHECK.gives("nothing was lived", x, x.told(5), 0);
    }
}
