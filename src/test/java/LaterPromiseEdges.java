/** Promises 34 to 62: what each names as its edges. */
final class LaterPromiseEdges {
    private final Sentences doc;
    private final Refusals refusals;

    LaterPromiseEdges(Sentences doc, Refusals refusals) {
        this.doc = doc;
        this.refusals = refusals;
    }

    void all() {
        speakersAhead();
        pausesAhead();
        silences();
        sets();
        shifts();
        rows();
        games();
        heard();
        nights();
        days();
        means();
        marks();
    }

    private void promise(int n, String sentence) {
        doc.inPromise(n);
        doc.of(sentence);
    }

    // a is silent until 98, b until 197, c until 296, then d: b speaks, then a, then a as well while he can.
    private static SilentTurn talking(int breathOfC) {
        return Checks.made("turn 99;topic t cost 1;follows t t;monk a breath 99 rest 0;monk b breath 99 rest 0;"
                + "monk c breath " + breathOfC + " rest 0;monk d breath 99 rest 0;");
    }

    private static SilentTurn neverPaused() {
        return Checks.made("topic t cost 0;follows t t;monk s breath 0;monk m breath 0;");
    }

    private void speakersAhead() {
        promise(34, "The SPEAKER of the MINUTE in so many MINUTES (0 to 300) (1; 6: a PAUSE).");
        SilentTurn x = talking(4);
        doc.gives("0", x, x.speakerIn(0), 1);
        doc.gives("98", x, x.speakerIn(98), 1);
        doc.gives("99", x, x.speakerIn(99), 0);
        doc.gives("300", x, x.speakerIn(300), 2);
        x = talking(3);
        doc.gives("299", x, x.speakerIn(299), 2);
        doc.none("300", x, x.speakerIn(300), 6);
        refusals.refused(1, "speakerIn(-1)", "speakerIn(301)");
        refusals.refused(StatusEdges::paused, "speakerIn(0)", 6);
        promise(35, "BREATH of a MONK in so many MINUTES (0 to 300) (1).");
        doc.gives("0", x, x.breathIn(1, 0), 99);
        doc.gives("1", x, x.breathIn(1, 1), 98);
        doc.gives("99", x, x.breathIn(1, 99), 0);
        doc.gives("299", x, x.breathIn(2, 299), 1);
        doc.gives("300", x, x.breathIn(2, 300), 0);
        refusals.refused(1, "breathIn(-1, 0)", "breathIn(3, 0)", "breathIn(0, -1)", "breathIn(0, 301)");
    }

    private void pausesAhead() {
        promise(36, "In how many MINUTES (0 to 300) the first PAUSE is (6: in none of these).");
        SilentTurn x = StatusEdges.paused();
        doc.gives("0", x, x.pauseIn(), 0);
        x = talking(0);
        doc.gives("297", x, x.pauseIn(), 297);
        x = talking(3);
        doc.gives("300", x, x.pauseIn(), 300);
        x = talking(4);
        doc.none("301", x, x.pauseIn(), 6);
        x.minute(1);
        doc.gives("300 now", x, x.pauseIn(), 300);
        refusals.refused(() -> talking(4), "pauseIn()", 6);
        refusals.refused(LaterPromiseEdges::neverPaused, "pauseIn()", 6);
        promise(37, "How many PAUSES there are in so many MINUTES (0 to 300) (1).");
        x = new SilentTurn();
        x.minute(5);
        doc.gives("0", x, x.pausesIn(0), 0);
        doc.gives("1", x, x.pausesIn(1), 1);
        doc.gives("300", x, x.pausesIn(300), 300);
        doc.gives("none went by", x, x.told(6), 5);
        x = talking(3);
        doc.gives("300", x, x.pausesIn(300), 0);
        x.minute(1);
        doc.gives("300 then", x, x.pausesIn(300), 1);
        refusals.refused(1, "pausesIn(-1)", "pausesIn(301)");
    }

    private void silences() {
        promise(38, "In how many MINUTES (0 to 999) a MONK is the SILENT one first, if nobody changes it (1).");
        SilentTurn x = Checks.made("turn 99;monk a breath 1;monk b breath 1;monk c breath 1;monk d breath 1;monk e breath 1;"
                + "monk f breath 1;monk g breath 1;");
        for (int i = 0; i < 7; i++) {
            doc.gives("of " + i, x, x.turnIn(i), 99 * i);
        }
        x.minute(98);
        doc.gives("1 more", x, x.turnIn(1), 1);
        doc.gives("he is it", x, x.turnIn(0), 0);
        x.minute(1);
        doc.gives("he is it", x, x.turnIn(1), 0);
        doc.gives("all round", x, x.turnIn(0), 594);
        x.change(6);
        doc.gives("MONK 0 behind the last", x, x.turnIn(0), 99);
        doc.gives("the one ahead", x, x.turnIn(5), 594);
        x.rule(3, 1);
        doc.gives("each minute", x, x.turnIn(5), 6);
        x.rule(3, 50);
        doc.gives("100 is the next that 50 divides", x, x.turnIn(0), 1);
        refusals.refused(1, "turnIn(-1)", "turnIn(3)");
        refusals.refused(SilentTurn::new, "turnIn(0)", 1);
        promise(39, "How many more MINUTES who was the SILENT one the most was it than who was it the least (0 without MONKS).");
        x = Checks.made("turn 2;monk a breath 1;monk b breath 1;monk c breath 1;");
        int[] unfair = {0, 1, 2, 2, 2, 1, 0, 1};
        for (int m = 0; m < unfair.length; m++) {
            doc.gives("in " + m, x, x.unfair(), unfair[m]);
            x.minute(1);
        }
        x = Checks.made("turn 99;monk a breath 1;monk b breath 1;monk c breath 1;");
        int[] monks = {1, 0, 2};
        int[] minutes = {5, 1, 7};
        int[] apart = {5, 5, 6};
        for (int i = 0; i < 3; i++) {
            x.change(monks[i]);
            x.minute(minutes[i]);
            doc.gives("0, then 1, and 7", x, x.unfair(), apart[i]);
        }
        x = new SilentTurn();
        x.minute(9);
        doc.gives("without monks", x, x.unfair(), 0);
        x = Checks.made("monk a breath 1;");
        x.minute(9);
        doc.gives("alone", x, x.unfair(), 0);
    }

    private void sets() {
        promise(40, "1 if a set is ENOUGH for so many MINUTES, else 0 (1).");
        SilentTurn x = Checks.made(Checks.SMALL);
        doc.gives("for 0", x, x.enough(0, 0), 1);
        doc.gives("for 1", x, x.enough(2, 1), 1);
        doc.gives("for 2", x, x.enough(2, 2), 0);
        x = neverPaused();
        doc.gives("for 60, until the turn", x, x.enough(3, 60), 1);
        refusals.refused(1, "enough(-1, 0)", "enough(8, 0)", "enough(7, -1)", "enough(7, 61)");
        refusals.refused(SilentTurn::new, "enough(1, 0)", 1);
        promise(41, "FEWEST: how many (1; 6: no set is ENOUGH).");
        doc.gives("for 0", x, x.fewest(0), 0);
        doc.gives("for 10", x, x.fewest(10), 1);
        doc.gives("for 11", x, x.fewest(11), 2);
        doc.gives("for 60", x, x.fewest(60), 2);
        refusals.refused(1, "fewest(-1)", "fewest(61)");
        refusals.refused(SilentTurn::new, "fewest(1)", 6);
        refusals.refused("fewest(60)", 6);
        promise(42, "FEWEST: the set (1; 6).");
        doc.gives("for 0", x, x.fewestSet(0), 0);
        doc.gives("for 10", x, x.fewestSet(10), 2);
        doc.gives("for 60", x, x.fewestSet(60), 3);
        refusals.refused(1, "fewestSet(-1)", "fewestSet(61)");
        refusals.refused(SilentTurn::new, "fewestSet(1)", 6);
        refusals.refused("fewestSet(60)", 6);
    }

    private void shifts() {
        promise(43, "SHIFT: the least BREATH in the end (1; 6: it can't go on so long).");
        SilentTurn x = Checks.made("topic t cost 5;topic u cost 5;follows t u;monk s breath 20;monk m breath 10 rest 0;");
        doc.gives("one", x, x.shift(1), 5);
        doc.gives("two", x, x.shift(2), 0);
        doc.none("three", x, x.shift(3), 6);
        refusals.refused(1, "shift(0)", "shift(4)", "shift(-1)");
        refusals.refused(SilentTurn::new, "shift(1)", 6);
        promise(44, "SHIFT: what 0: the MONK, 1: the TOPIC of the k-th MINUTE, from 0 on (1; 6).");
        int[][] way = {{1, 0}, {1, 1}};
        for (int k = 0; k < 2; k++) {
            for (int what = 0; what < 2; what++) {
                doc.gives("shift " + k + " " + what, x, x.shiftAt(2, k, what), way[k][what]);
            }
        }
        doc.none("three", x, x.shiftAt(3, 0, 0), 6);
        refusals.refused(1, "shiftAt(0, 0, 0)", "shiftAt(4, 0, 0)", "shiftAt(1, -1, 0)", "shiftAt(1, 1, 0)",
                "shiftAt(2, 2, 0)", "shiftAt(3, 3, 0)", "shiftAt(1, 0, -1)", "shiftAt(1, 0, 2)");
        refusals.refused(SilentTurn::new, "shiftAt(1, 0, 0)", 6);
        refusals.refused(SilentTurn::new, "shiftAt(3, 2, 1)", 6);
    }

    private void rows() {
        promise(45, "TALK: how many TOPICS (1).");
        SilentTurn x = Checks.made("topic a cost 1;topic b cost 1;topic c cost 1;follows a b;follows b c;");
        int[] talks = {3, 2, 1};
        for (int i = 0; i < 3; i++) {
            doc.gives("talk " + i, x, x.talk(i), talks[i]);
        }
        refusals.refused(1, "talk(-1)", "talk(3)");
        promise(46, "TALK: the k-th TOPIC, from 0 on (1: k below 0, too; 6: no such).");
        for (int k = 0; k < 3; k++) {
            doc.gives("a: " + k, x, x.talkAt(0, k), k);
        }
        doc.gives("c", x, x.talkAt(2, 0), 2);
        doc.none("no more behind c", x, x.talkAt(2, 1), 6);
        refusals.refused(1, "talkAt(-1, 0)", "talkAt(3, 0)", "talkAt(0, -1)");
        refusals.refused(6, "talkAt(0, 3)", "talkAt(0, 6)");
        promise(47, "RING: how many TOPICS, the last not counted again (6: none).");
        doc.none("none", x, x.ring(), 6);
        x.follow(2, 0, true);
        doc.gives("three", x, x.ring(), 3);
        x.follow(1, 0, true);
        doc.gives("two", x, x.ring(), 2);
        x.follow(2, 2, true);
        doc.gives("one", x, x.ring(), 1);
        refusals.refused(SilentTurn::new, "ring()", 6);
        promise(48, "RING: the k-th TOPIC, from 0 on (1: below 0; 6: no such).");
        doc.gives("c", x, x.ringAt(0), 2);
        doc.none("one alone", x, x.ringAt(1), 6);
        refusals.refused("ringAt(-1)", 1);
        refusals.refused(6, "ringAt(2)", "ringAt(9)");
        refusals.refused(SilentTurn::new, "ringAt(0)", 6);
        refusals.refused(SilentTurn::new, "ringAt(-1)", 1);
        promise(49, "The set of TOPICS to which talk can come from one, one or more behind it (1).");
        x = Checks.made("topic a cost 1;topic b cost 1;topic c cost 1;topic d cost 1;follows a b;follows b c;follows c b;follows d d;");
        int[] reach = {6, 6, 6, 8};
        for (int i = 0; i < 4; i++) {
            doc.gives("reach " + i, x, x.reach(i), reach[i]);
        }
        x.follow(3, 3, false);
        doc.gives("none", x, x.reach(3), 0);
        x.follow(3, 0, true);
        doc.gives("by a", x, x.reach(3), 7);
        refusals.refused(1, "reach(-1)", "reach(3)");
    }

    private void games() {
        promise(50, "1 if who is to say a TOPIC behind one wins the GAME, else 0 (1).");
        SilentTurn x = Checks.made("topic a cost 1;topic b cost 1;topic c cost 1;follows a b;follows b c;follows c c;");
        int[] wins = {0, 1, 0};
        for (int i = 0; i < 3; i++) {
            doc.gives("wins " + i, x, x.wins(i), wins[i]);
        }
        refusals.refused(1, "wins(-1)", "wins(3)");
        promise(51, "BEST (1; 6: he loses).");
        doc.gives("best", x, x.best(1), 2);
        doc.none("a loses", x, x.best(0), 6);
        doc.none("c loses", x, x.best(2), 6);
        refusals.refused(1, "best(-1)", "best(3)");
        refusals.refused("best(0)", 6);
    }

    private void heard() {
        promise(52, "HEARD: in how many ways (1; 2; 3; 5: no TOPIC).");
        SilentTurn x = Checks.made("topic t cost 1;topic u cost 1;follows t u;monk s breath 9;monk a breath 9;monk b breath 1;");
        x.tray(3, 3, 2);
        x.write(3, 1, 1);
        doc.gives("none", x, x.heard(3, 0), 1);
        doc.gives("t", x, x.heard(3, 1), 2);
        doc.gives("t u: a a, a b, b a", x, x.heard(3, 2), 3);
        for (long wrong : new long[] {2, -1, 256, 1L << 32, Long.MIN_VALUE}) {
            x.write(3, 1, wrong);
            doc.none("no topic " + wrong, x, x.heard(3, 2), 5);
            doc.gives("not looked at", x, x.heard(3, 1), 2);
        }
        refusals.refused(1, "heard(-1, 1)", "heard(4, 1)", "heard(0, -1)", "heard(0, 5)");
        refusals.refused(2, "heard(3, 0)", "heard(3, 1)");
        refusals.refused(3, "heard(0, 4)", "heard(2, 1)", "heard(1, 3)");
        refusals.refused(5, "heard(0, 2)", "heard(0, 3)", "heard(1, 1)");
        refusals.refused(LaterPromiseEdges::trayOfNoTopics, "heard(0, 1)", 5);
        promise(53, "SURE of the k-th, from 0 on (1: k, too; 2; 3; 5; 6: not the same one in all, or no way).");
        x = Checks.made("turn 1;topic t cost 0;follows t t;monk a breath 0;monk b breath 0;");
        x.tray(0, 0, 4);
        for (int n = 1; n <= 4; n++) {
            for (int k = 0; k < n; k++) {
                doc.gives("the " + k + " of " + n, x, x.sure(0, n, k), (k + 1) % 2);
            }
            doc.none("no such k", x, x.sure(0, n, n), 1);
        }
        x = Checks.made(Checks.FULL);
        x.tray(0, 0, 1);
        x.write(0, 0, 5);
        doc.gives("the last monk", x, x.sure(0, 1, 0), 6);
        x = Checks.made("topic t cost 0;monk a breath 0;monk b breath 0;monk c breath 0;");
        x.tray(0, 0, 4);
        doc.none("b or c", x, x.sure(0, 1, 0), 6);
        doc.none("no way", x, x.sure(0, 2, 0), 6);
        refusals.refused(1, "sure(-1, 1, 0)", "sure(4, 1, 0)", "sure(0, -1, 0)", "sure(0, 5, 0)", "sure(0, 1, -1)",
                "sure(0, 1, 1)", "sure(0, 0, 0)", "sure(0, 3, 3)");
        refusals.refused(2, "sure(3, 1, 0)");
        refusals.refused(3, "sure(0, 4, 0)", "sure(2, 1, 0)");
        refusals.refused(5, "sure(0, 2, 0)", "sure(0, 3, 2)");
        refusals.refused(LaterPromiseEdges::trayOfTwoWays, "sure(0, 1, 0)", 6);
    }

    private static SilentTurn trayOfNoTopics() {
        SilentTurn x = new SilentTurn();
        x.tray(0, 0, 1);
        return x;
    }

    private static SilentTurn trayOfTwoWays() {
        SilentTurn x = Checks.made("topic t cost 0;monk a breath 0;monk b breath 0;monk c breath 0;");
        x.tray(0, 0, 1);
        return x;
    }

    private void nights() {
        promise(54, "COUPLES: how many (1).");
        SilentTurn x = Checks.made(Checks.SMALL);
        int[] couples = {0, 0, 0, 1, 0, 0, 1, 1};
        for (int set = 0; set < 8; set++) {
            doc.gives("couples of " + set, x, x.couples(set), couples[set]);
        }
        refusals.refused(1, "couples(-1)", "couples(8)");
        refusals.refused(SilentTurn::new, "couples(1)", 1);
        promise(55, "1 if all of a set can read by couples, else 0 (1).");
        int[] all = {1, 0, 0, 1, 0, 0, 1, 0};
        for (int set = 0; set < 8; set++) {
            doc.gives("all of " + set, x, x.allRead(set), all[set]);
        }
        refusals.refused(1, "allRead(-1)", "allRead(8)");
        refusals.refused(SilentTurn::new, "allRead(1)", 1);
        promise(56, "The FRACTION is COUGHS of k (0 to 7) (1).");
        doc.yes("0", x, x.coughs(0));
        doc.fraction("0", x, 1, 1);
        doc.yes("7", x, x.coughs(7));
        doc.fraction("7", x, 0, 1);
        x.coughs(1);
        doc.fraction("1", x, 1, 2);
        refusals.refused(1, "coughs(-1)", "coughs(8)");
        promise(57, "BREATH of all MONKS comes to a TRAY, one by one: how many (1; 2; 3).");
        x.tray(0, 0, 3);
        doc.gives("just enough", x, x.copyBreath(0), 3);
        x.tray(1, 3, 60);
        x.write(1, 3, 77);
        doc.gives("more than enough", x, x.copyBreath(1), 3);
        int[] row = {10, 4, 8, 77};
        for (int i = 0; i < row.length; i++) {
            doc.gives("place " + i, x, x.read(1, i), row[i]);
        }
        doc.gives("the last", x, x.read(0, 2), 8);
        SilentTurn nobody = new SilentTurn();
        nobody.tray(0, 0, 0);
        doc.gives("nobody's", nobody, nobody.copyBreath(0), 0);
        refusals.refused(1, "copyBreath(-1)", "copyBreath(4)");
        refusals.refused(2, "copyBreath(3)");
        refusals.refused(3, "copyBreath(1)", "copyBreath(2)");
        refusals.refused(SilentTurn::new, "copyBreath(0)", 2);
    }

    private static SilentTurn withoutDays() {
        return Checks.made(Checks.SMALL);
    }

    private void days() {
        promise(58, "LIVED: how many STEPS were done (1; 6: no DAYS).");
        SilentTurn x = Checks.made(Checks.SMALL, "minute 1;wake p;when last b;any;end;stop;any;");
        doc.gives("the missed one, when and stop are done, too", x, x.live(0), 4);
        doc.gives("by the last seed", x, x.live(9999), 4);
        refusals.refused(1, "live(-1)", "live(10000)");
        refusals.refused(LaterPromiseEdges::withoutDays, "live(0)", 6);
        refusals.refused(SilentTurn::new, "live(9999)", 6);
        promise(59, "Of live() latest with STATUS 0, what 0: MISSED, 1: MINUTES, 2: PAUSES, 3: how often somebody HELPED, "
                + "4: 1 if a STEP was left to be done, else 0 (1; 6: there was none).");
        x = Checks.made(Checks.SMALL, "minute 5;wake p;");
        x.minute(1);
        x.live(0);
        // q said a ahead of it; then a pause, q a, p b, p helps with a, a pause.
        livedIs(x, 1, 5, 2, 1, 0);
        x.minute(9);
        doc.none("refused", x, x.live(-1), 1);
        livedIs(x, 1, 5, 2, 1, 0);
        Checks.house(x, "");
        doc.none("refused", x, x.live(0), 6);
        livedIs(x, 1, 5, 2, 1, 0);
        Checks.days(x, "loop 99;any;any;any;any;end;");
        x.live(0);
        livedIs(x, 299, 0, 0, 0, 1);
        x.days(0);
        x.live(0);
        livedIs(x, 0, 0, 0, 0, 0);
        refusals.refused(1, "lived(-1)", "lived(5)");
        refusals.refused(LaterPromiseEdges::withoutDays, "lived(0)", 6);
        refusals.refused(LaterPromiseEdges::withoutDays, "lived(4)", 6);
    }

    private void livedIs(SilentTurn x, int... want) {
        for (int what = 0; what < want.length; what++) {
            doc.gives("lived " + what, x, x.lived(what), want[what]);
        }
    }

    // m has not breath enough if it is he who coughs: by seeds 2 and 3, not by 0 and 1.
    private static SilentTurn coughing() {
        return Checks.made("topic t cost 7;monk s breath 7 rest 0;monk m breath 7 rest 0;", "any;minute 1;");
    }

    private void means() {
        promise(60, "The FRACTION is the mean of how many PAUSES there were (ahead, too) behind the DAYS, by so many seeds "
                + "(1 to 20) from one on");
        SilentTurn x = coughing();
        doc.yes("one", x, x.mean(2, 1));
        doc.fraction("one", x, 1, 1);
        doc.yes("four", x, x.mean(0, 4));
        doc.fraction("four", x, 1, 2);
        x = Checks.made("", "minute 2;");
        doc.yes("20", x, x.mean(0, 20));
        doc.fraction("20", x, 2, 1);
        x.minute(3);
        doc.yes("ahead, too", x, x.mean(0, 20));
        doc.fraction("ahead, too", x, 5, 1);
        doc.of("(1: the last above 9,999, too; 6: no DAYS);");
        doc.yes("the last is 9,999", x, x.mean(9980, 20));
        doc.yes("the last is 9,999", x, x.mean(9999, 1));
        refusals.refused(1, "mean(-1, 1)", "mean(10000, 1)", "mean(0, 0)", "mean(0, -1)", "mean(0, 21)", "mean(9999, 2)",
                "mean(9981, 20)");
        refusals.refused(LaterPromiseEdges::withoutDays, "mean(0, 1)", 6);
        doc.of("all stays as it is.");
        x = coughing();
        x.mean(0, 20);
        doc.due("the house", Portrait.ofHouse(x).compareTo(Portrait.ofHouse(coughing())), 0);
        doc.none("nothing was lived", x, x.lived(0), 6);
        x.live(2);
        doc.gives("lived", x, x.lived(2), 1);
        x.mean(0, 1);
        doc.gives("lived stays", x, x.lived(2), 1);
        doc.gives("the pause stays", x, x.told(6), 1);
    }

    private void marks() {
        promise(61, "A MARK more: how many there are (4).");
        SilentTurn x = Checks.made(Checks.SMALL);
        for (int i = 1; i <= 3; i++) {
            doc.gives("mark", x, x.mark(), i);
        }
        refusals.refused(StatusEdges::threeMarks, "mark()", 4);
        promise(62, "All is taken back to the latest MARK: how many there are left (6).");
        x.minute(4);
        doc.gives("two left", x, x.undo(), 2);
        doc.gives("taken back", x, x.told(5), 0);
        doc.gives("one left", x, x.undo(), 1);
        doc.gives("none left", x, x.undo(), 0);
        doc.none("no more", x, x.undo(), 6);
        refusals.refused(SilentTurn::new, "undo()", 6);
        refusals.refused(LaterPromiseEdges::withoutDays, "undo()", 6);
    }
}
