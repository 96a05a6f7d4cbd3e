/** The edges that the Terms name for what will be, rows of TOPICS, what was heard and nights. */
final class AheadEdges {
    private static final String ALL_TALK = "topic t cost 0;follows t t;";
    private final Sentences doc;

    AheadEdges(Sentences doc) {
        this.doc = doc;
    }

    void all() {
        doc.inTerms();
        ahead();
        enough();
        fewest();
        shift();
        easiestShift();
        firstShift();
        talk();
        ring();
        game();
        heard();
        waysHeard();
        sure();
        couples();
        coughs();
    }

    // At MINUTE 9,999 by TURN 10 it is MONK 1 who is silent, and MONK 0 from MINUTE 10,000 on.
    private void ahead() {
        doc.of("All ahead is as only MINUTES go by (MINUTE 9,999 does not matter).");
        SilentTurn x = Checks.made(ALL_TALK + "monk a breath 9;monk b breath 9;roster b t;roster a t;");
        for (int i = 0; i < 101; i++) {
            x.minute(99);
        }
        doc.gives("the last minute", x, x.told(5), 9999);
        doc.gives("silent", x, x.silent(), 1);
        doc.gives("in 0", x, x.speakerIn(0), 0);
        doc.gives("in 1", x, x.speakerIn(1), 1);
        doc.gives("in 11", x, x.speakerIn(11), 0);
        doc.gives("in 300", x, x.speakerIn(300), 0);
        doc.gives("breath in 300", x, x.breathIn(0, 300), 9);
        doc.gives("pauses in 300", x, x.pausesIn(300), 0);
        doc.none("no pause", x, x.pauseIn(), 6);
        doc.gives("turn", x, x.turnIn(0), 1);
        doc.gives("enough", x, x.enough(3, 60), 1);
        doc.gives("a alone", x, x.enough(1, 1), 1);
        doc.gives("a alone", x, x.enough(1, 2), 0);
        doc.gives("shift", x, x.shift(3), 9);
        doc.gives("shift: a, then b", x, x.shiftAt(3, 1, 0), 1);
        doc.gives("nothing went by", x, x.told(5), 9999);
    }

    private void enough() {
        doc.of("ENOUGH are a set of MONKS for n MINUTES (0 to 60), if there is no PAUSE in these, with just them awake.");
        SilentTurn x = Checks.made("turn 60;" + ALL_TALK + "monk s breath 0;monk a breath 0 asleep;monk b breath 0;");
        doc.gives("none, for none", x, x.enough(0, 0), 1);
        doc.gives("none, for one", x, x.enough(0, 1), 0);
        doc.gives("who is asleep", x, x.enough(2, 60), 1);
        doc.gives("the silent one", x, x.enough(1, 1), 0);
        doc.gives("all", x, x.enough(7, 60), 1);
        doc.none("no such set", x, x.enough(8, 0), 1);
        doc.none("61", x, x.enough(7, 61), 1);
        doc.none("-1", x, x.enough(7, -1), 1);
        x.minute(1);
        doc.gives("until his silence", x, x.enough(2, 59), 1);
        doc.gives("and in it", x, x.enough(2, 60), 0);
        doc.gives("s then", x, x.enough(3, 60), 1);
        doc.gives("nobody woke", x, x.told(8), 5);
    }

    private void fewest() {
        doc.of("FEWEST: of those sets that are ENOUGH the one with the fewest MONKS,");
        // a and b have breath for one minute each, c for two.
        SilentTurn x = Checks.made("topic t cost 2;follows t t;monk s breath 0 rest 0;monk a breath 2 rest 0;"
                + "monk b breath 2 rest 0;monk c breath 4 rest 0 asleep;");
        int[] sets = {0, 2, 8, 10, 14};
        for (int n = 0; n < sets.length; n++) {
            doc.gives("set for " + n, x, x.fewestSet(n), sets[n]);
            doc.gives("for " + n, x, x.fewest(n), Integer.bitCount(sets[n]));
        }
        doc.none("five are too many", x, x.fewest(5), 6);
        doc.none("five are too many", x, x.fewestSet(5), 6);
        doc.of("then the least as a number (1 for MONK 0 ..).");
        x = Checks.made("turn 99;" + ALL_TALK + "monk s breath 0;monk a breath 0;monk b breath 0;");
        doc.gives("a, not b", x, x.fewestSet(60), 2);
        x.change(1);
        doc.gives("s", x, x.fewestSet(60), 1);
        doc.gives("one", x, x.fewest(60), 1);
        doc.none("61", x, x.fewestSet(61), 1);
        // Each of the three has one breath: of the pairs s and b is less than a and b, as a is silent.
        x = Checks.made("topic t cost 1;follows t t;monk s breath 1 rest 0;monk a breath 1 rest 0;"
                + "monk b breath 1 rest 0;monk c breath 1 rest 0;");
        x.change(1);
        doc.gives("s and b", x, x.fewestSet(2), 5);
        doc.gives("s, b and c", x, x.fewestSet(3), 13);
    }

    private void shift() {
        doc.of("SHIFT of n MINUTES (1 to 3):");
        SilentTurn x = Checks.made("turn 99;topic t cost 1;follows t t;monk s breath 9;monk a breath 9 rest 0;");
        for (int n = 1; n <= 3; n++) {
            doc.gives("of " + n, x, x.shift(n), 9 - n);
        }
        doc.none("of none", x, x.shift(0), 1);
        doc.none("of 4", x, x.shift(4), 1);
        doc.of("in each one MONK who CAN says a TOPIC (ROSTER, HELP not asked; TURNS as ever),");
        x = Checks.made("topic t cost 5;topic u cost 1;monk s breath 50;monk a breath 6;monk b breath 20 rest 0;roster a t;");
        doc.gives("not a, of the roster, who would help, too", x, x.shift(1), 6);
        shiftIs(x, 1, 2, 0);
        x = Checks.made("turn 1;topic t cost 1;follows t t;monk a breath 5;monk b breath 5;");
        doc.gives("by turns", x, x.shift(3), 4);
        shiftIs(x, 3, 1, 0, 0, 0, 1, 0);
        x = Checks.made("turn 2;topic t cost 3;follows t t;monk a breath 5;monk b breath 5;");
        doc.none("b can't twice", x, x.shift(2), 6);
        x.rule(3, 1);
        doc.gives("a can, as b is silent then", x, x.shift(2), 2);
        x = Checks.made("topic t cost 0;monk a breath 5;monk b breath 5;");
        doc.none("t may not follow itself", x, x.shift(2), 6);
    }

    private void easiestShift() {
        doc.of("so that in the end the least BREATH of all MONKS is the greatest;");
        SilentTurn x = Checks.made("topic t cost 4;topic u cost 3;monk s breath 3 rest 0;monk a breath 9;monk b breath 6;"
                + "monk c breath 2 rest 0 asleep;");
        doc.gives("the least is who is asleep", x, x.shift(1), 2);
        x = Checks.made("topic t cost 4;topic u cost 3;monk s breath 9;monk a breath 6;monk b breath 9 rest 0;");
        doc.gives("b's 6 is more than a's 3", x, x.shift(1), 6);
        shiftIs(x, 1, 2, 1);
        x = Checks.made("topic t cost 1;monk s breath 1 rest 0;monk a breath 9;");
        doc.gives("the silent one counts", x, x.shift(1), 1);
        x = Checks.made("topic t cost 1;monk s breath 5 rest 2;monk a breath 9;");
        x.breathe(0, 1);
        doc.gives("and rests", x, x.shift(1), 3);
        x.breathe(0, 4);
        doc.gives("to the most he ever has", x, x.shift(1), 5);
        x = Checks.made("topic t cost 0;follows t t;monk s breath 99;monk a breath 99;");
        doc.gives("nobody has less than 99", x, x.shift(3), 99);
    }

    private void shiftIs(SilentTurn x, int n, int... way) {
        for (int i = 0; i < way.length; i++) {
            doc.gives("shift of " + n + " at " + i, x, x.shiftAt(n, i / 2, i % 2), way[i]);
        }
    }

    private void firstShift() {
        doc.of("of several ways the first, by the first MINUTE's MONK, TOPIC, then the second one's ..");
        // d's 1 is the least whatever is done: all ways are alike.
        String least = "monk d breath 1 rest 0 asleep;";
        SilentTurn x = Checks.made("topic t cost 1;topic u cost 1;follows t u;follows u t;follows t t;monk s breath 9;"
                + "monk a breath 9;monk b breath 9;" + least);
        shiftIs(x, 1, 1, 0);
        shiftIs(x, 2, 1, 0, 1, 0);
        shiftIs(x, 3, 1, 0, 1, 0, 1, 0);
        x.follow(0, 0, false);
        shiftIs(x, 3, 1, 0, 1, 1, 1, 0);
        x.breathe(1, 1);
        shiftIs(x, 1, 2, 0);
        // a has none behind the first minute, but rests in the others.
        shiftIs(x, 3, 1, 0, 2, 1, 2, 0);
        x.breathe(1, 2);
        x.breathe(2, 2);
        shiftIs(x, 1, 1, 0);
        shiftIs(x, 2, 1, 0, 2, 1);
        x.follow(0, 1, false);
        x.breathe(1, 9);
        shiftIs(x, 2, 1, 1, 1, 0);
        shiftIs(Checks.made(Checks.FULL), 2, 6, 5, 6, 5);
    }

    // Topics a to f; each pair of letters is one and one that may follow it.
    private static SilentTurn graph(String... pairs) {
        StringBuilder text = new StringBuilder();
        for (char c = 'a'; c <= 'f'; c++) {
            text.append("topic ").append(c).append(" cost 20;");
        }
        for (String pair : pairs) {
            text.append("follows ").append(pair.charAt(0)).append(' ').append(pair.charAt(1)).append(';');
        }
        return Checks.made(text.toString());
    }

    private void talkIs(String row, String... pairs) {
        SilentTurn x = graph(pairs);
        int first = row.charAt(0) - 'a';
        doc.gives("talk " + row, x, x.talk(first), row.length());
        for (int k = 0; k < row.length(); k++) {
            doc.gives("talk " + row + " at " + k, x, x.talkAt(first, k), row.charAt(k) - 'a');
        }
        doc.none("talk " + row + ": no more", x, x.talkAt(first, row.length()), 6);
    }

    private void talk() {
        doc.of("TALK from a TOPIC (COSTS not asked): the longest row of TOPICS, it first, each of which may follow that ahead, "
                + "none twice;");
        talkIs("a");
        talkIs("a", "aa");
        talkIs("ab", "aa", "ab", "ba", "bb");
        talkIs("afedcb", "af", "fe", "ed", "dc", "cb", "ba");
        talkIs("acd", "ab", "ac", "cd");
        talkIs("f", "ab", "bc");
        talkIs("bcd", "ab", "bc", "cd", "cb");
        talkIs("fab", "fa", "ab", "bf");
        doc.of("of several the first by TOPICS.");
        talkIs("ab", "af", "ab", "ac");
        talkIs("abc", "af", "fe", "ab", "bd", "bc");
        talkIs("abe", "af", "fc", "ab", "be", "ad");
        talkIs("acbdef", "ac", "cb", "bd", "de", "ef", "ab", "be", "ce", "ad");
    }

    private void ringIs(String row, String... pairs) {
        SilentTurn x = graph(pairs);
        doc.gives("ring " + row, x, x.ring(), row.length());
        for (int k = 0; k < row.length(); k++) {
            doc.gives("ring " + row + " at " + k, x, x.ringAt(k), row.charAt(k) - 'a');
        }
        doc.none("ring " + row + ": the first is not told again", x, x.ringAt(row.length()), 6);
    }

    private void ring() {
        doc.of("RING: the fewest TOPICS one behind the other, each of which may follow that ahead, the first the last");
        SilentTurn x = graph("ab", "bc", "cd", "de", "ef", "ac", "bf");
        doc.none("none", x, x.ring(), 6);
        x = new SilentTurn();
        doc.none("no topics", x, x.ring(), 6);
        ringIs("abcdef", "ab", "bc", "cd", "de", "ef", "fa");
        ringIs("def", "ab", "bc", "cd", "de", "ef", "fa", "fd");
        ringIs("ef", "ab", "bc", "ca", "ef", "fe");
        doc.of("(a TOPIC that may follow itself: 1);");
        ringIs("f", "ab", "ba", "ff");
        ringIs("a", "aa");
        doc.of("of several that which begins with the least TOPIC, then the least second one ..");
        ringIs("c", "ff", "cc", "ab", "ba");
        ringIs("be", "ef", "fe", "be", "eb");
        ringIs("ad", "af", "fa", "ad", "da");
        ringIs("abd", "ab", "be", "bd", "da", "ea", "ac", "cf", "fa");
        ringIs("abcf", "ab", "bc", "cf", "fa", "ad", "de", "ef", "be");
    }

    private void game() {
        doc.of("GAME from a TOPIC: two by turns say a TOPIC that may follow that ahead and was not said yet (the first one was);");
        SilentTurn x = graph("aa", "bc", "cb", "de", "ef", "fd");
        gameIs(x, 0, -1);
        gameIs(x, 1, 2);
        gameIs(x, 3, -1);
        doc.of("who can't, loses.");
        x = graph("ab", "bc", "cd", "de", "ef");
        for (int topic = 0; topic < 6; topic++) {
            gameIs(x, topic, topic % 2 == 0 ? topic + 1 : -1);
        }
        doc.of("BEST: the least TOPIC by which who is to say one wins.");
        gameIs(graph("ab", "bc", "ad", "ae"), 0, 3);
        gameIs(graph("af", "ae"), 0, 4);
        gameIs(graph("ab", "bc", "cd", "ae"), 0, 1);
        gameIs(graph("ab", "bc", "cd", "af", "bf"), 0, 5);
        gameIs(graph("ab", "bc", "bd"), 0, -1);
        gameIs(graph("ba", "bc"), 1, 0);
    }

    private void gameIs(SilentTurn x, int topic, int best) {
        doc.gives("wins " + topic, x, x.wins(topic), best < 0 ? 0 : 1);
        doc.due("best " + topic, x.best(topic), best);
        doc.due("best " + topic + ": STATUS", x.status(), best < 0 ? 6 : 0);
    }

    private static void hears(SilentTurn x, int... topics) {
        x.tray(0, 0, topics.length);
        for (int i = 0; i < topics.length; i++) {
            x.write(0, i, topics[i]);
        }
    }

    private void heard() {
        doc.of("HEARD: a TRAY tells the TOPICS (n, 0 to 4) said from now on, MINUTE by MINUTE,");
        SilentTurn x = Checks.made("turn 99;" + ALL_TALK + "monk s breath 0;monk a breath 0;monk b breath 0;");
        hears(x, 0, 0, 0, 0, 0);
        for (int n = 0; n <= 4; n++) {
            doc.gives("of " + n, x, x.heard(0, n), 1 << n);
        }
        doc.none("of 5", x, x.heard(0, 5), 1);
        doc.none("of -1", x, x.heard(0, -1), 1);
        hears(x);
        doc.gives("none of none", x, x.heard(0, 0), 1);
        doc.none("one of none", x, x.heard(0, 1), 3);
        doc.of("each of which may follow that ahead (the LAST one at first):");
        x = Checks.made("topic a cost 0;topic b cost 0;follows a b;monk s breath 0;monk m breath 0;");
        hears(x, 0, 1);
        doc.gives("b may follow a", x, x.heard(0, 2), 1);
        hears(x, 1, 0);
        doc.gives("not a b", x, x.heard(0, 2), 0);
        hears(x, 0, 0);
        doc.gives("nor a itself", x, x.heard(0, 2), 0);
        x.minute(1);
        doc.gives("a was the last", x, x.last(), 0);
        doc.gives("not a then", x, x.heard(0, 1), 0);
        hears(x, 1);
        doc.gives("but b", x, x.heard(0, 1), 1);
        doc.gives("nothing", x, x.heard(0, 0), 1);
    }

    private void waysHeard() {
        doc.of("in how many ways MONKS can have said them (who CAN, then; ROSTER, HELP not asked; TURNS as ever);");
        SilentTurn x = Checks.made("turn 1;topic t cost 2;follows t t;monk a breath 2;monk b breath 2;monk c breath 2 asleep;roster b t;");
        hears(x, 0, 0, 0);
        doc.gives("b", x, x.heard(0, 1), 1);
        x.wake(2, true);
        doc.gives("b or c, not the roster alone", x, x.heard(0, 1), 2);
        // b is silent then; a can, and c if he did not say the first.
        doc.gives("then a or c", x, x.heard(0, 2), 3);
        // c is silent then; who spoke has 1 at most: b c a and c a b are the ways, nobody can behind b a.
        doc.gives("then who did not speak", x, x.heard(0, 3), 2);
    }

    private void sure() {
        doc.of("SURE: who said the k-th in all of these.");
        SilentTurn x = Checks.made("turn 1;topic t cost 2;follows t t;monk a breath 2;monk b breath 2;monk c breath 2;");
        hears(x, 0, 0, 0);
        doc.gives("b c a and c a b", x, x.heard(0, 3), 2);
        doc.none("the first is b or c", x, x.sure(0, 3, 0), 6);
        x = Checks.made("turn 2;" + ALL_TALK + "monk a breath 0;monk b breath 0;");
        hears(x, 0, 0, 0, 0);
        int[] sure = {1, 1, 0, 0};
        for (int k = 0; k < 4; k++) {
            doc.gives("sure of " + k, x, x.sure(0, 4, k), sure[k]);
        }
        x.follow(0, 0, false);
        doc.none("no way", x, x.sure(0, 2, 0), 6);
        x = Checks.made("topic t cost 1;topic u cost 5;follows t u;monk s breath 9;monk a breath 3;monk b breath 9;");
        hears(x, 0, 1);
        doc.gives("a b and b b", x, x.heard(0, 2), 2);
        doc.none("t by either", x, x.sure(0, 2, 0), 6);
        doc.gives("u by b", x, x.sure(0, 2, 1), 2);
    }

    private void couplesAre(String pairs, int set, int want) {
        StringBuilder text = new StringBuilder();
        for (char c = 'a'; c <= 'g'; c++) {
            text.append("monk ").append(c).append(c == 'c' ? " breath 1 asleep;" : " breath 1;");
        }
        for (String pair : pairs.split(" ")) {
            if (!pair.isEmpty()) {
                text.append("hears ").append(pair.charAt(0)).append(' ').append(pair.charAt(1)).append(';');
            }
        }
        SilentTurn x = Checks.made(text.toString());
        doc.gives("couples of " + set + " by " + pairs, x, x.couples(set), want);
        doc.gives("all read", x, x.allRead(set), 2 * want == Integer.bitCount(set) ? 1 : 0);
    }

    private void couples() {
        doc.of("COUPLES of a set of MONKS: as many as can be of two who can hear each other, each MONK in one at most.");
        couplesAre("", 127, 0);
        couplesAre("ab", 0, 0);
        couplesAre("ab", 1, 0);
        couplesAre("ab", 3, 1);
        couplesAre("gf", 96, 1);
        couplesAre("ab bc", 7, 1);
        couplesAre("ab bc", 5, 0);
        couplesAre("bc ba cd", 15, 2);
        couplesAre("ab ac ad ae af ag", 127, 1);
        couplesAre("ab bc cd de ef fg ga", 127, 3);
        couplesAre("ab bc cd de ef fg ga", 126, 3);
        couplesAre("ab bc ca de ef fd", 63, 2);
        couplesAre("ab bc ca de ef fd cd", 63, 3);
    }

    private void coughs() {
        doc.of("COUGHS: each awake MONK who is not SILENT coughs by ODDS sixteenths:");
        SilentTurn x = Checks.made("odds 4;monk s breath 0;monk a breath 0;monk b breath 0 asleep;");
        coughsAre(x, 1, 1, 4);
        x.wake(2, true);
        coughsAre(x, 1, 7, 16);
        x.change(2);
        coughsAre(x, 2, 1, 16);
        x.wake(2, false);
        coughsAre(x, 2, 1, 16);
        x.rule(4, 0);
        coughsAre(x, 1, 0, 1);
        x.rule(4, 16);
        coughsAre(x, 2, 1, 1);
        coughsAre(x, 3, 0, 1);
        doc.of("the odds that k or more do.");
        x = Checks.made("odds 8;monk a breath 0;monk b breath 0;monk c breath 0;monk d breath 0;monk e breath 0;"
                + "monk f breath 0;monk g breath 0;");
        long[] of64 = {64, 63, 57, 42, 22, 7, 1, 0};
        for (int k = 0; k < of64.length; k++) {
            doc.yes("coughs " + k, x, x.coughs(k));
            doc.due("coughs " + k, x.top() * 64, of64[k] * x.bottom());
        }
        doc.no("8", x, x.coughs(8), 1);
        doc.no("-1", x, x.coughs(-1), 1);
        SilentTurn nobody = new SilentTurn();
        coughsAre(nobody, 0, 1, 1);
        coughsAre(nobody, 1, 0, 1);
    }

    private void coughsAre(SilentTurn x, int k, long top, long bottom) {
        doc.yes("coughs " + k, x, x.coughs(k));
        doc.fraction("coughs " + k, x, top, bottom);
    }
}
