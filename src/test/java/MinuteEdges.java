/** The edges that the Terms name for CAN and for what a MINUTE does. */
final class MinuteEdges {
    private final Sentences doc;

    MinuteEdges(Sentences doc) {
        this.doc = doc;
    }

    void all() {
        doc.inTerms();
        whoCan();
        theMinute();
        theRoster();
        helping();
        pausing();
        breath();
        turns();
    }

    // MONK 0 of SMALL is silent, 2 asleep; a costs 2, b 5, c 1; b follows a, a and c follow b, a follows c.
    private void whoCan() {
        doc.of("CAN: a MONK can say a TOPIC, if he is awake,");
        SilentTurn x = Checks.made(Checks.SMALL);
        doc.gives("asleep", x, x.can(2, 0), 0);
        x.wake(2, true);
        doc.gives("awake", x, x.can(2, 0), 1);
        x.wake(2, false);
        doc.gives("asleep again", x, x.can(2, 0), 0);
        doc.of("not the SILENT one,");
        doc.gives("silent", x, x.can(0, 0), 0);
        doc.gives("not silent", x, x.can(1, 0), 1);
        x.change(1);
        doc.gives("not silent any more", x, x.can(0, 0), 1);
        doc.gives("silent now", x, x.can(1, 0), 0);
        doc.of("has as much BREATH as it COSTS,");
        x = Checks.made(Checks.SMALL);
        x.breathe(1, 2);
        doc.gives("as much", x, x.can(1, 0), 1);
        x.breathe(1, 1);
        doc.gives("one less", x, x.can(1, 0), 0);
        doc.gives("as much as c", x, x.can(1, 2), 1);
        x.breathe(1, 0);
        doc.gives("none", x, x.can(1, 2), 0);
        x.price(2, 0);
        doc.gives("none, for nothing", x, x.can(1, 2), 1);
        doc.of("and it may follow the LAST one");
        x = Checks.made(Checks.SMALL);
        x.minute(1);
        doc.gives("a was the last", x, x.last(), 0);
        x.breathe(1, 4);
        x.price(1, 1);
        doc.gives("b may follow", x, x.topics(1), 2);
        x.follow(0, 0, true);
        doc.gives("and a itself", x, x.topics(1), 3);
        x.follow(0, 1, false);
        x.follow(0, 0, false);
        doc.gives("none may", x, x.topics(1), 0);
        doc.of("(any may, if there is none).");
        x = Checks.made("topic a cost 1;topic b cost 1;monk s breath 9;monk m breath 9;");
        doc.gives("at first", x, x.topics(1), 3);
        x.minute(1);
        doc.gives("none behind a", x, x.topics(1), 0);
        x.minute(1);
        doc.gives("behind a pause", x, x.topics(1), 3);
    }

    private void theMinute() {
        doc.of("A MINUTE m (0 on, to 9,999) goes by:");
        SilentTurn x = new SilentTurn();
        doc.gives("0 at first", x, x.told(5), 0);
        for (int i = 1; i <= 100; i++) {
            x.minute(99);
        }
        doc.gives("9,900", x, x.told(5), 9900);
        doc.gives("99 more", x, x.minute(99), 99);
        doc.gives("9,999", x, x.told(5), 9999);
        doc.none("no more", x, x.minute(1), 4);
        doc.gives("9,999 still", x, x.told(5), 9999);
    }

    private static final String ALL_TALK = "turn 99;topic t cost 0;follows t t;monk s breath 0;monk a breath 0;"
            + "monk b breath 0;monk c breath 0;";

    private void theRoster() {
        doc.of("1. the SPEAKER is the MONK of the ENTRY in place m of the ROSTER, round and round, if he CAN say its TOPIC;");
        SilentTurn x = Checks.made(ALL_TALK + "roster c t;roster a t;roster b t;");
        int[] speakers = {3, 1, 2, 3, 1, 2, 3, 1};
        for (int m = 0; m < speakers.length; m++) {
            doc.gives("speaker of " + m, x, x.speaker(), speakers[m]);
            x.minute(1);
        }
        doc.gives("nobody helped", x, x.told(7), 0);
        x = Checks.made(ALL_TALK + "roster c t;");
        x.minute(5);
        doc.gives("a roster of one", x, x.monk(3, 4), 5);
        x = Checks.made(ALL_TALK + "roster c t;roster s t;");
        doc.gives("c can", x, x.speaker(), 3);
        x.minute(1);
        doc.gives("s can't, he is silent", x, x.speaker(), 1);
    }

    private void helping() {
        doc.of("else, or without a ROSTER, the first MONK who CAN say a TOPIC HELPS, with the first such;");
        SilentTurn x = Checks.made(ALL_TALK);
        doc.gives("the first who can", x, x.speaker(), 1);
        x.minute(2);
        doc.gives("without a roster", x, x.told(7), 2);
        x.wake(1, false);
        doc.gives("the next who can", x, x.speaker(), 2);
        String dear = "topic u cost 9;topic v cost 4;topic w cost 3;monk s breath 50;monk a breath 2;monk b breath 5;"
                + "monk c breath 50;";
        x = Checks.made(dear);
        doc.gives("the first monk, not the first topic", x, x.speaker(), 2);
        doc.gives("his first such", x, x.spoken(), 1);
        x = Checks.made(dear + "roster b u;roster c u;");
        doc.gives("he of the roster helps himself", x, x.speaker(), 2);
        doc.gives("with another topic", x, x.spoken(), 1);
        x.minute(1);
        doc.gives("that is help", x, x.told(7), 1);
        x = Checks.made(dear + "roster c u;");
        x.minute(1);
        doc.gives("by the roster it is none", x, x.told(7), 0);
        doc.gives("by the roster", x, x.monk(3, 4), 1);
        x = Checks.made(Checks.FULL);
        doc.gives("the last monk", x, x.speaker(), 6);
        doc.gives("with the last topic", x, x.spoken(), 5);
        doc.gives("and then none has breath enough", x, x.minute(2), 0);
        doc.gives("he spoke twice", x, x.monk(6, 4), 2);
        doc.gives("a pause", x, x.minute(1), 1);
    }

    private void pausing() {
        doc.of("if there is none, it is a PAUSE.");
        SilentTurn x = new SilentTurn();
        doc.gives("without monks", x, x.minute(1), 1);
        x = Checks.made("monk s breath 9;monk a breath 9;");
        doc.gives("without topics", x, x.minute(1), 1);
        x = Checks.made("topic t cost 9;monk s breath 9;monk a breath 8;");
        doc.gives("without breath", x, x.minute(1), 1);
        doc.gives("a pause", x, x.told(6), 1);
        doc.gives("is no help", x, x.told(7), 0);
        x = Checks.made("topic t cost 9;monk s breath 9;monk a breath 9 asleep;roster a t;");
        doc.gives("asleep", x, x.minute(1), 1);
        x = Checks.made("topic t cost 0;monk s breath 9;roster s t;");
        doc.gives("but the silent one", x, x.minute(1), 1);
        doc.gives("nobody spoke", x, x.monk(0, 4), 0);
    }

    private void breath() {
        doc.of("2. the SPEAKER has that much BREATH less, and his TOPIC is the LAST;");
        SilentTurn x = Checks.made("topic t cost 9;topic u cost 3;monk s breath 9;monk a breath 9 rest 5;roster a u;");
        x.minute(1);
        doc.gives("3 less, and no rest", x, x.monk(1, 0), 6);
        doc.gives("last", x, x.last(), 1);
        x = Checks.made("topic t cost 9;monk s breath 9;monk a breath 9 rest 5;");
        x.minute(1);
        doc.gives("all he had", x, x.monk(1, 0), 0);
        doc.of("by a PAUSE there is no LAST one.");
        doc.gives("ahead of it", x, x.last(), 0);
        doc.gives("a pause", x, x.minute(1), 1);
        doc.none("behind it", x, x.last(), 6);
        doc.of("All others have their REST more, as much as they ever have at most.");
        x = Checks.made("topic t cost 1;monk s breath 9 rest 3;monk a breath 9 rest 3;monk b breath 9 rest 3;"
                + "monk c breath 9 rest 3 asleep;monk d breath 9 rest 0;");
        int[] before = {5, 9, 6, 7, 4};
        for (int i = 0; i < before.length; i++) {
            x.breathe(i, before[i]);
        }
        x.minute(1);
        int[] spoken = {8, 8, 9, 9, 4};
        for (int i = 0; i < spoken.length; i++) {
            doc.gives("breath of " + i, x, x.monk(i, 0), spoken[i]);
        }
        doc.gives("a pause", x, x.minute(1), 1);
        int[] paused = {9, 9, 9, 9, 4};
        for (int i = 0; i < paused.length; i++) {
            doc.gives("all rest in a pause: " + i, x, x.monk(i, 0), paused[i]);
        }
    }

    private void turns() {
        doc.of("3. it is MINUTE m and 1; if TURN divides it, the next MONK by numbers is the SILENT one");
        SilentTurn x = Checks.made("turn 99;monk a breath 1;monk b breath 1;");
        x.minute(98);
        doc.gives("98", x, x.silent(), 0);
        x.minute(1);
        doc.gives("99", x, x.told(5), 99);
        doc.gives("99", x, x.silent(), 1);
        x.minute(98);
        doc.gives("197", x, x.silent(), 1);
        x.minute(1);
        doc.gives("198", x, x.silent(), 0);
        x = Checks.made("turn 1;monk a breath 1;monk b breath 1;monk c breath 1;");
        for (int m = 0; m < 7; m++) {
            doc.gives("each minute: " + m, x, x.silent(), m % 3);
            x.minute(1);
        }
        x = Checks.made("turn 4;monk a breath 1;monk b breath 1;monk c breath 1;");
        x.minute(3);
        x.rule(3, 2);
        x.minute(1);
        doc.gives("the new turn divides 4", x, x.silent(), 1);
        x.rule(3, 3);
        x.minute(1);
        doc.gives("not 5", x, x.silent(), 1);
        x.change(0);
        x.minute(1);
        doc.gives("6: the next of who is it now", x, x.silent(), 1);
        doc.of("(MONK 0 behind the last one; asleep or not).");
        x = Checks.made("turn 1;monk a breath 1 asleep;monk b breath 1;monk c breath 1 asleep;");
        int[] silents = {0, 1, 2, 0, 1};
        for (int m = 0; m < silents.length; m++) {
            doc.gives("in " + m, x, x.silent(), silents[m]);
            x.minute(1);
        }
        x = Checks.made("turn 1;monk a breath 1;");
        x.minute(2);
        doc.gives("alone", x, x.silent(), 0);
    }
}
