/** Promises 1 to 33: what each names as its edges. */
final class PromiseEdges {
    private final Sentences doc;
    private final Refusals refusals;

    PromiseEdges(Sentences doc, Refusals refusals) {
        this.doc = doc;
        this.refusals = refusals;
    }

    void all() {
        newObject();
        trays();
        pour();
        tape();
        texts();
        fault();
        told();
        ofOneThing();
        silentAndLast();
        minute();
        changeAndWake();
        followAndHear();
        roster();
        numbers();
        now();
    }

    private void promise(int n, String sentence) {
        doc.inPromise(n);
        doc.of(sentence);
    }

    private void newObject() {
        promise(1, "A HOUSE of no TOPICS, MONKS; TURN 10, ODDS 1; MINUTE 0; no DAYS, MARKS; TRAYS are MISSING; an empty tape; "
                + "the FRACTION 0 by 1; STATUS 0.");
        SilentTurn x = new SilentTurn();
        doc.due("STATUS", x.status(), 0);
        doc.fraction("the FRACTION", x, 0, 1);
        int[] told = {0, 0, 0, 10, 1, 0, 0, 0, 0};
        for (int what = 0; what < told.length; what++) {
            doc.gives("told " + what, x, x.told(what), told[what]);
        }
        doc.none("no days", x, x.live(0), 6);
        doc.none("no marks", x, x.undo(), 6);
        for (int tray = 0; tray < 4; tray++) {
            doc.none("missing", x, x.read(tray, 0), 2);
        }
        doc.none("an empty tape", x, x.house(1), 1);
        doc.due("an empty tape", x.feed(0, 0, 0, 0, 0), 20);
        promise(2, "STATUS of the latest call that has one.");
        x = new SilentTurn();
        x.told(9);
        doc.due("told(9)", x.status(), 1);
        x.feed(0, 0, 0, 0, 0);
        doc.due("feed() has none", x.status(), 1);
        x.told(8);
        doc.due("told(8)", x.status(), 0);
        promise(3, "The top of the FRACTION told latest.");
        x = Checks.made("odds 2;monk s breath 1;monk a breath 1;");
        x.coughs(1);
        doc.due("1 by 8", x.top(), 1);
        x.coughs(2);
        doc.due("0 by 1", x.top(), 0);
        x.coughs(8);
        x.coughs(-1);
        doc.due("refused calls tell none", x.top(), 0);
        promise(4, "Its bottom, above 0.");
        doc.due("0 by 1", x.bottom(), 1);
        x.coughs(1);
        doc.due("1 by 8", x.bottom(), 8);
        x.mean(0, 1);
        doc.due("refused: no DAYS", x.bottom(), 8);
        x.undo();
        x.house(0);
        doc.due("a HOUSE tells none", x.bottom(), 8);
    }

    private void trays() {
        promise(5, "A TRAY is a row of so many 0s (1).");
        SilentTurn x = new SilentTurn();
        doc.yes("60", x, x.tray(2, 3, 60));
        for (int i = 0; i < 60; i++) {
            x.write(2, i, i + 1);
        }
        doc.yes("60 again", x, x.tray(2, 3, 60));
        for (int i = 0; i < 60; i++) {
            doc.gives("0 at " + i, x, x.read(2, i), 0);
        }
        doc.none("no more", x, x.read(2, 60), 3);
        doc.yes("none", x, x.tray(2, 3, 0));
        doc.none("none", x, x.read(2, 0), 3);
        x.tray(2, 3, 2);
        x.write(2, 1, 9);
        x.tray(2, 3, 1);
        x.tray(2, 3, 2);
        doc.gives("0 where a longer row had another", x, x.read(2, 1), 0);
        refusals.refused(1, "tray(-1, 0, 1)", "tray(4, 0, 1)", "tray(0, -1, 1)", "tray(0, 4, 1)", "tray(0, 0, -1)",
                "tray(0, 0, 61)");
        promise(6, "A number comes to a place of a TRAY, cut to its sort (1, 2, 3).");
        x = Refusals.rich();
        doc.yes("the first", x, x.write(0, 0, 255));
        doc.gives("the first", x, x.read(0, 0), -1);
        doc.yes("the last", x, x.write(0, 2, 256));
        doc.gives("the last", x, x.read(0, 2), 0);
        doc.gives("between", x, x.read(0, 1), 7);
        refusals.refused(1, "write(-1, 0, 5)", "write(4, 0, 5)");
        refusals.refused(2, "write(3, 0, 5)");
        refusals.refused(3, "write(0, 3, 5)", "write(0, -1, 5)", "write(2, 0, 5)");
        promise(7, "The number in a place of a TRAY; STATUS tells NONE from -1 (1, 2, 3).");
        x = Refusals.rich();
        doc.gives("the first", x, x.read(1, 0), 5);
        doc.gives("the last", x, x.read(1, 1), -5);
        x.write(1, 1, -1);
        doc.gives("-1", x, x.read(1, 1), -1);
        doc.none("NONE", x, x.read(1, 2), 3);
        doc.none("NONE", x, x.read(1, -1), 3);
        refusals.refused(1, "read(-1, 0)", "read(4, 0)");
        refusals.refused(2, "read(3, 0)");
        refusals.refused(3, "read(0, 3)", "read(0, -1)", "read(2, 0)");
    }

    private void rowIs(String what, SilentTurn x, int tray, long... want) {
        for (int i = 0; i < want.length; i++) {
            doc.gives(what + " at " + i, x, x.read(tray, i), want[i]);
        }
    }

    private static SilentTurn poured(int from, int place, int to, int at, int many) {
        SilentTurn x = new SilentTurn();
        x.tray(0, 2, 6);
        x.tray(1, 2, 4);
        for (int i = 0; i < 6; i++) {
            x.write(0, i, i + 1);
        }
        x.pour(from, place, to, at, many);
        return x;
    }

    private void pour() {
        promise(8, "So many numbers of a TRAY, from a place on, come to another one's (or its own) place on, as they were");
        rowIs("to another", poured(0, 2, 1, 0, 4), 1, 3, 4, 5, 6);
        rowIs("from another", poured(1, 0, 0, 1, 4), 0, 1, 0, 0, 0, 0, 6);
        rowIs("forward", poured(0, 0, 0, 2, 4), 0, 1, 2, 1, 2, 3, 4);
        rowIs("backward", poured(0, 2, 0, 0, 4), 0, 3, 4, 5, 6, 5, 6);
        rowIs("by one", poured(0, 0, 0, 1, 5), 0, 1, 1, 2, 3, 4, 5);
        rowIs("all to itself", poured(0, 0, 0, 0, 6), 0, 1, 2, 3, 4, 5, 6);
        SilentTurn x = poured(0, 0, 1, 0, 0);
        doc.yes("none", x, x.pour(0, 0, 1, 0, 0));
        doc.yes("none at the ends", x, x.pour(0, 6, 1, 4, 0));
        rowIs("none", x, 1, 0, 0, 0, 0);
        doc.of("(1: below 0, too; 2; 8; 3; asked in this order).");
        refusals.refused(1, "pour(-1, 0, 0, 0, 1)", "pour(4, 0, 0, 0, 1)", "pour(0, 0, -1, 0, 1)", "pour(0, 0, 4, 0, 1)",
                "pour(0, -1, 0, 0, 1)", "pour(0, 0, 0, -1, 1)", "pour(0, 0, 0, 0, -1)", "pour(3, -1, 3, 0, 1)",
                "pour(0, 0, 1, -1, 1)", "pour(0, 3, 1, 2, -1)");
        refusals.refused(2, "pour(3, 0, 0, 0, 1)", "pour(0, 0, 3, 0, 1)", "pour(3, 0, 3, 0, 0)", "pour(0, 9, 3, 9, 9)");
        refusals.refused(8, "pour(0, 0, 1, 0, 1)", "pour(1, 0, 2, 0, 0)", "pour(0, 9, 1, 9, 9)");
        refusals.refused(3, "pour(0, 0, 0, 1, 3)", "pour(0, 1, 0, 0, 3)", "pour(0, 3, 0, 0, 1)", "pour(0, 0, 0, 3, 1)",
                "pour(0, 4, 0, 0, 0)", "pour(0, 0, 0, 4, 0)", "pour(0, 0, 2, 0, 1)", "pour(2, 0, 0, 0, 1)");
    }

    private void tape() {
        promise(9, "Twenty bytes come behind those on the tape, the highest of each int first: how many it has;");
        SilentTurn x = new SilentTurn();
        doc.due("20", x.feed(0x7475726e, 0x20373b6f, 0x64647320, 0x393b2020, 0x20202020), 20);
        doc.due("40", x.feed(0x6d6f6e6b, 0x207a2062, 0x72656174, 0x6820393b, 0xff800001), 40);
        doc.gives("turn 7;odds 9; monk z breath 9;", x, x.house(36), 1);
        doc.gives("turn", x, x.told(3), 7);
        doc.gives("odds", x, x.told(4), 9);
        doc.due("an empty tape", x.feed(0xff800001, 0, 0, 0, 0), 20);
        doc.none("a byte above 127", x, x.house(1), 9);
        doc.faultIs("a byte above 127", x, 1, 0);
        doc.of("NONE if there would be more than 900.");
        x = new SilentTurn();
        for (int i = 1; i <= 45; i++) {
            doc.due("feed " + i, x.feed(0x20202020, 0x20202020, 0x20202020, 0x20202020, 0x20202020), 20 * i);
        }
        doc.due("a 46th", x.feed(0x21212121, 0, 0, 0, 0), -1);
        doc.due("and again", x.feed(0x21212121, 0, 0, 0, 0), -1);
        doc.gives("the 900 stay", x, x.house(900), 0);
        doc.due("an empty tape", x.feed(0, 0, 0, 0, 0), 20);
    }

    private void texts() {
        promise(10, "The first n bytes of the tape (which is empty then) are the HOUSE: how many MONKS");
        SilentTurn x = new SilentTurn();
        Checks.feed(x, "monk a breath 1;monk b breath 1;!");
        doc.gives("one", x, x.house(16), 1);
        doc.none("the rest is gone", x, x.house(1), 1);
        doc.due("empty", x.feed(0, 0, 0, 0, 0), 20);
        doc.gives("nothing of 20", x, x.house(0), 0);
        doc.due("empty", x.feed(0, 0, 0, 0, 0), 20);
        cut("turnx 5;", 4, 2, 4);
        cut("turn 555;", 6, 2, 6);
        cut("turn 555;", 7, 2, 7);
        cut("turn 12345;", 9, 4, 5);
        cut("topic abcdefghi", 14, 2, 14);
        cut("turn 5;;", 7, 0, -1);
        doc.of("(1: n below 0, or more than the tape has, too; 9: the old one stays).");
        refusals.refused(1, "house(-1)", "house(21)", "house(901)");
        refusals.faulty("house", "monk a breath 1;monk b breath 1;!", 1, 32);
        promise(11, "Likewise the DAYS: how many STEPS");
        x = Checks.made(Checks.SMALL);
        Checks.feed(x, "any;loop 2;any;end;stop;!");
        doc.gives("steps", x, x.days(24), 4);
        doc.due("empty", x.feed(0, 0, 0, 0, 0), 20);
        doc.gives("nothing of 20", x, x.days(0), 0);
        doc.due("empty", x.feed(0, 0, 0, 0, 0), 20);
        daysAgain(Checks.made(Checks.SMALL));
        doc.of("(1: above 300, too; 9).");
        refusals.refused(1, "days(-1)", "days(21)");
        refusals.refused(PromiseEdges::longTape, "days(301)", 1);
        refusals.refused(PromiseEdges::longTape, "days(320)", 1);
        refusals.refused(PromiseEdges::longTape, "days(321)", 1);
        doc.due("300", longTape().days(300), 0);
        refusals.faulty("days", "any;any;end;", 2, 8);
    }

    // What was read ahead, whole or not, leaves nothing in what is read now.
    private void daysAgain(SilentTurn x) {
        for (int i = 0; i < 3; i++) {
            doc.gives("two", x, Checks.days(x, "any;any;"), 2);
            doc.none("without an end", x, Checks.days(x, "loop 2;when silent p;loop 2;any;any;any;"), 9);
            doc.gives("as they were", x, x.live(0), 2);
            doc.gives("three", x, Checks.days(x, "loop 2;loop 2;loop 2;end;end;end;"), 3);
            doc.gives("1 and 2 and 4", x, x.live(0), 7);
        }
    }

    // What is behind the first n bytes is not read, not even to the end of a TOKEN.
    private void cut(String tape, int n, int kind, int place) {
        SilentTurn x = new SilentTurn();
        Checks.feed(x, tape);
        doc.due(n + " of '" + tape + "'", x.house(n), kind == 0 ? 0 : -1);
        doc.faultIs(n + " of '" + tape + "'", x, kind, place);
    }

    private static SilentTurn longTape() {
        SilentTurn x = Checks.made(Checks.SMALL, "minute 1;");
        Checks.feed(x, " ".repeat(320));
        return x;
    }

    private void fault() {
        promise(12, "Of the latest house() or days() with STATUS 0 or 9, what 0: the FAULT (0 without one), 1: its place "
                + "(NONE without).");
        SilentTurn x = new SilentTurn();
        Checks.house(x, "turn 0;");
        doc.faultIs("house with 9", x, 4, 5);
        x.house(99);
        x.days(-1);
        doc.faultIs("with 1 they do not count", x, 4, 5);
        x.told(0);
        doc.faultIs("nor do others", x, 4, 5);
        Checks.house(x, "turn 1;");
        doc.faultIs("house with 0", x, 0, -1);
        Checks.days(x, "end;");
        doc.faultIs("days with 9", x, 2, 0);
        Checks.days(x, "any;");
        doc.faultIs("days with 0", x, 0, -1);
        doc.of("NONE for others, and ahead of any.");
        for (int what : new int[] {-1, 2, 9, Integer.MIN_VALUE, Integer.MAX_VALUE}) {
            doc.due("fault " + what, x.fault(what), -1);
        }
        x = new SilentTurn();
        doc.faultIs("ahead of any", x, -1, -1);
        x.house(1);
        doc.faultIs("house with 1", x, -1, -1);
    }

    private void told() {
        promise(13, "How many TOPICS (what 0), MONKS (1), ENTRIES (2); TURN (3), ODDS (4); the MINUTE (5); how many PAUSES there "
                + "were (6), how often somebody HELPED (7); the set of MONKS who are awake (1 for MONK 0 ..) (8) (1).");
        SilentTurn x = Checks.made(Checks.SMALL);
        x.minute(6);
        // q a; pause; q a; p b; p helps with a; pause.
        int[] told = {3, 3, 2, 3, 8, 6, 2, 1, 3};
        for (int what = 0; what < told.length; what++) {
            doc.gives("told " + what, x, x.told(what), told[what]);
        }
        x.wake(2, true);
        x.wake(0, false);
        doc.gives("q and r", x, x.told(8), 6);
        refusals.refused(1, "told(-1)", "told(9)");
    }

    private void ofOneThing() {
        promise(14, "Of a TOPIC, what 0: COST, 1: the set of TOPICS that may follow it (1 for TOPIC 0 ..), "
                + "2: of those that it may follow (1).");
        SilentTurn x = Checks.made("topic a cost 0;topic b cost 20;topic c cost 7;topic d cost 1;topic e cost 2;topic f cost 3;"
                + "follows a f;follows a a;follows f a;follows c a;follows b f;");
        int[][] topics = {{0, 33, 37}, {20, 32, 0}, {7, 1, 0}, {1, 0, 0}, {2, 0, 0}, {3, 1, 3}};
        for (int i = 0; i < topics.length; i++) {
            for (int what = 0; what < 3; what++) {
                doc.gives("topic " + i + " " + what, x, x.topic(i, what), topics[i][what]);
            }
        }
        refusals.refused(1, "topic(-1, 0)", "topic(3, 0)", "topic(0, -1)", "topic(0, 3)");
        promise(15, "Of a MONK, what 0: BREATH, 1: the most he ever has, 2: REST, 3: 1 if he is awake, else 0, "
                + "4: in how many MINUTES he spoke, 5: was the SILENT one, 6: the set of MONKS whom he can hear (1).");
        x = Checks.made("turn 4;topic t cost 5;follows t t;monk a breath 20 rest 3;monk b breath 9 rest 0;monk c breath 50 asleep;"
                + "monk d breath 99;monk e breath 0;monk f breath 1;monk g breath 2;hears a g;hears c a;");
        x.minute(5);
        // b speaks once, d from minute 1 on; in minute 4 it is b's silence, and a speaks.
        int[][] monks = {{15, 20, 3, 1, 1, 4, 68}, {4, 9, 0, 1, 1, 1, 0}, {50, 50, 1, 0, 0, 0, 1}, {85, 99, 1, 1, 3, 0, 0},
            {0, 0, 1, 1, 0, 0, 0}, {1, 1, 1, 1, 0, 0, 0}, {2, 2, 1, 1, 0, 0, 1}};
        for (int i = 0; i < monks.length; i++) {
            for (int what = 0; what < 7; what++) {
                doc.gives("monk " + i + " " + what, x, x.monk(i, what), monks[i][what]);
            }
        }
        x = Checks.made("monk a breath 1;");
        x.minute(9);
        doc.gives("alone he is always silent", x, x.monk(0, 5), 9);
        refusals.refused(1, "monk(-1, 0)", "monk(3, 0)", "monk(0, -1)", "monk(0, 7)");
        promise(16, "Of an ENTRY of the ROSTER, what 0: the MONK, 1: the TOPIC (1).");
        x = Checks.made(Checks.SMALL);
        doc.gives("monk of 0", x, x.entry(0, 0), 1);
        doc.gives("topic of 0", x, x.entry(0, 1), 0);
        doc.gives("monk of 1", x, x.entry(1, 0), 0);
        doc.gives("topic of 1", x, x.entry(1, 1), 1);
        refusals.refused(1, "entry(-1, 0)", "entry(2, 0)", "entry(0, -1)", "entry(0, 2)");
        refusals.refused(SilentTurn::new, "entry(0, 0)", 1);
    }

    private void silentAndLast() {
        promise(17, "The SILENT one (6: no MONKS).");
        SilentTurn x = Checks.made("monk a breath 0 asleep;");
        doc.gives("one", x, x.silent(), 0);
        refusals.refused(SilentTurn::new, "silent()", 6);
        promise(18, "The LAST TOPIC (6: none).");
        x = Checks.made(Checks.SMALL);
        doc.none("at first", x, x.last(), 6);
        x.minute(1);
        doc.gives("a", x, x.last(), 0);
        refusals.refused(SilentTurn::new, "last()", 6);
        refusals.refused(StatusEdges::paused, "last()", 6);
    }

    private static SilentTurn at(int minute) {
        SilentTurn x = Checks.made(Checks.SMALL);
        for (int left = minute; left > 0; left -= Math.min(99, left)) {
            x.minute(Math.min(99, left));
        }
        return x;
    }

    private void minute() {
        promise(19, "So many MINUTES (1 to 99): how many PAUSES there were in them");
        SilentTurn x = Checks.made(Checks.SMALL);
        doc.gives("one", x, x.minute(1), 0);
        doc.gives("one", x, x.minute(1), 1);
        doc.gives("four", x, x.minute(4), 1);
        doc.gives("minute", x, x.told(5), 6);
        x = new SilentTurn();
        doc.gives("99", x, x.minute(99), 99);
        doc.gives("99 again", x, x.minute(99), 99);
        doc.of("(1; 4: above 9,999).");
        refusals.refused(1, "minute(0)", "minute(-1)", "minute(100)");
        refusals.refused(() -> at(9999), "minute(1)", 4);
        refusals.refused(() -> at(9998), "minute(2)", 4);
        refusals.refused(() -> at(9901), "minute(99)", 4);
        x = at(9900);
        doc.due("99 more", x.minute(99) >= 0 ? 1 : 0, 1);
        doc.gives("to the last", x, x.told(5), 9999);
    }

    private void changeAndWake() {
        promise(20, "A MONK is the SILENT one from now on: who was it (1; 7: he is it).");
        SilentTurn x = Checks.made(Checks.SMALL);
        doc.gives("the last one", x, x.change(2), 0);
        doc.gives("who was it", x, x.change(0), 2);
        doc.gives("silent", x, x.silent(), 0);
        refusals.refused(1, "change(-1)", "change(3)");
        refusals.refused("change(2)", 7);
        refusals.refused(SilentTurn::new, "change(0)", 1);
        promise(21, "A MONK is awake, or asleep (1; 7: it is so).");
        doc.yes("awake", x, x.wake(2, true));
        doc.gives("awake", x, x.monk(2, 3), 1);
        doc.yes("asleep", x, x.wake(2, false));
        doc.gives("asleep", x, x.monk(2, 3), 0);
        refusals.refused(1, "wake(-1, 1)", "wake(3, 0)");
        refusals.refused(7, "wake(0, 1)", "wake(1, 0)");
    }

    private void followAndHear() {
        promise(22, "A TOPIC may follow another one, or may not (1; 7: it is so).");
        SilentTurn x = Checks.made(Checks.SMALL);
        doc.yes("may", x, x.follow(2, 2, true));
        doc.gives("behind c", x, x.topic(2, 1), 5);
        doc.yes("may not", x, x.follow(2, 0, false));
        doc.gives("behind c", x, x.topic(2, 1), 4);
        doc.gives("ahead of a", x, x.topic(0, 2), 2);
        refusals.refused(1, "follow(-1, 0, 1)", "follow(3, 0, 1)", "follow(0, -1, 0)", "follow(0, 3, 0)");
        refusals.refused(7, "follow(0, 1, 1)", "follow(0, 0, 0)", "follow(2, 1, 0)");
        promise(23, "Two MONKS can hear each other, or can't (1: one and himself, too; 7: it is so).");
        doc.yes("can", x, x.hear(2, 0, true));
        doc.gives("p", x, x.monk(0, 6), 6);
        doc.gives("r", x, x.monk(2, 6), 3);
        doc.yes("can't", x, x.hear(0, 2, false));
        doc.gives("p", x, x.monk(0, 6), 2);
        doc.gives("r", x, x.monk(2, 6), 2);
        refusals.refused(1, "hear(-1, 0, 1)", "hear(3, 0, 1)", "hear(0, -1, 0)", "hear(0, 3, 0)", "hear(0, 0, 1)",
                "hear(2, 2, 0)");
        refusals.refused(7, "hear(0, 1, 1)", "hear(1, 0, 1)", "hear(0, 2, 0)", "hear(2, 0, 0)");
    }

    private void roster() {
        promise(24, "An ENTRY more, the last of the ROSTER: how many there are (1; 4: a 13th).");
        SilentTurn x = Checks.made("topic t cost 1;topic u cost 1;monk a breath 1;monk b breath 1 asleep;");
        for (int i = 1; i <= 12; i++) {
            doc.gives("enter", x, x.enter(i % 2, i % 3 == 0 ? 1 : 0), i);
            doc.gives("the last: monk", x, x.entry(i - 1, 0), i % 2);
            doc.gives("the last: topic", x, x.entry(i - 1, 1), i % 3 == 0 ? 1 : 0);
        }
        doc.none("a 13th", x, x.enter(0, 0), 4);
        refusals.refused(1, "enter(-1, 0)", "enter(3, 0)", "enter(0, -1)", "enter(0, 3)");
        refusals.refused(StatusEdges::fullRoster, "enter(0, 0)", 4);
        promise(25, "An ENTRY is struck; those behind it are a place ahead: how many there are (1).");
        x = Checks.made("topic t cost 1;topic u cost 1;monk a breath 1;monk b breath 1;roster a t;roster b t;roster b u;roster a u;");
        doc.gives("the second", x, x.strike(1), 3);
        entriesAre(x, 0, 11, 1);
        doc.gives("the last", x, x.strike(2), 2);
        entriesAre(x, 0, 11);
        doc.gives("the first", x, x.strike(0), 1);
        entriesAre(x, 11);
        doc.gives("the only one", x, x.strike(0), 0);
        doc.none("none is left", x, x.strike(0), 1);
        refusals.refused(1, "strike(-1)", "strike(2)");
    }

    // An entry is written as ten times its monk and its topic.
    private void entriesAre(SilentTurn x, int... want) {
        doc.gives("entries", x, x.told(2), want.length);
        for (int i = 0; i < want.length; i++) {
            doc.gives("entry " + i, x, 10 * x.entry(i, 0) + x.entry(i, 1), want[i]);
        }
    }

    private void numbers() {
        promise(26, "BREATH of a MONK is so much (0 to the most he ever has) (1).");
        SilentTurn x = Checks.made(Checks.SMALL);
        doc.yes("0", x, x.breathe(0, 0));
        doc.gives("0", x, x.monk(0, 0), 0);
        doc.yes("the most", x, x.breathe(0, 10));
        doc.gives("the most", x, x.monk(0, 0), 10);
        refusals.refused(1, "breathe(-1, 0)", "breathe(3, 0)", "breathe(0, -1)", "breathe(0, 11)", "breathe(1, 5)");
        promise(27, "COST of a TOPIC from now on (0 to 20) (1).");
        doc.yes("0", x, x.price(2, 0));
        doc.gives("0", x, x.topic(2, 0), 0);
        doc.yes("20", x, x.price(2, 20));
        doc.gives("20", x, x.topic(2, 0), 20);
        x.breathe(1, 4);
        doc.gives("from now on", x, x.can(1, 2), 0);
        refusals.refused(1, "price(-1, 0)", "price(3, 0)", "price(0, -1)", "price(0, 21)");
        promise(28, "TURN (what 3: 1 to 99), ODDS (4: 0 to 16) from now on (1).");
        int[][] rules = {{3, 1}, {3, 99}, {4, 0}, {4, 16}};
        for (int[] rule : rules) {
            doc.yes("rule", x, x.rule(rule[0], rule[1]));
            doc.gives("rule", x, x.told(rule[0]), rule[1]);
        }
        refusals.refused(1, "rule(3, 0)", "rule(3, 100)", "rule(4, -1)", "rule(4, 17)", "rule(2, 5)", "rule(5, 5)",
                "rule(0, 5)", "rule(-1, 5)");
    }

    private void now() {
        promise(29, "1 if a MONK CAN say a TOPIC, else 0 (1).");
        SilentTurn x = Checks.made(Checks.SMALL);
        doc.gives("q a", x, x.can(1, 0), 1);
        doc.gives("q b", x, x.can(1, 1), 0);
        refusals.refused(1, "can(-1, 0)", "can(3, 0)", "can(0, -1)", "can(0, 3)");
        promise(30, "The set of TOPICS that a MONK CAN say (1).");
        int[] topics = {0, 5, 0};
        for (int i = 0; i < 3; i++) {
            doc.gives("topics " + i, x, x.topics(i), topics[i]);
        }
        refusals.refused(1, "topics(-1)", "topics(3)");
        promise(31, "The set of MONKS who CAN say a TOPIC (1).");
        x.wake(2, true);
        int[] speakers = {6, 4, 6};
        for (int i = 0; i < 3; i++) {
            doc.gives("speakers " + i, x, x.speakers(i), speakers[i]);
        }
        x.change(2);
        int[] others = {3, 1, 3};
        for (int i = 0; i < 3; i++) {
            doc.gives("speakers " + i + ", r being silent", x, x.speakers(i), others[i]);
        }
        refusals.refused(1, "speakers(-1)", "speakers(3)");
        promise(32, "The SPEAKER of the MINUTE that begins (6: a PAUSE).");
        x = Checks.made(Checks.SMALL);
        doc.gives("q", x, x.speaker(), 1);
        refusals.refused(StatusEdges::paused, "speaker()", 6);
        refusals.refused(SilentTurn::new, "speaker()", 6);
        promise(33, "His TOPIC (6: a PAUSE).");
        doc.gives("a", x, x.spoken(), 0);
        refusals.refused(StatusEdges::paused, "spoken()", 6);
        refusals.refused(SilentTurn::new, "spoken()", 6);
    }
}
