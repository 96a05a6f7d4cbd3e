import java.util.function.Supplier;

/** The edges that the Terms name for STATUS, and the refusals of all promises. */
final class StatusEdges {
    private final Sentences doc;
    private final Refusals refusals;

    StatusEdges(Sentences doc, Refusals refusals) {
        this.doc = doc;
        this.refusals = refusals;
    }

    void all() {
        doc.inTerms();
        theFirstThatHolds();
        oneByOne();
        nothingElse();
        without();
        extremes();
        manyCalls();
    }

    private void is(SilentTurn x, String call, int status) {
        Caller.call(x, call);
        doc.due(call + ": STATUS", x.status(), status);
    }

    private void theFirstThatHolds() {
        doc.of("STATUS of a call is the first of these that holds:");
        SilentTurn x = Refusals.rich();
        String[] one = {"write(4, -1, 0)", "read(-1, 99)", "pour(3, -1, 3, 0, 1)", "pour(0, -1, 1, 9, 9)", "heard(3, 5)",
            "heard(0, 5)", "heard(4, 9)", "sure(3, 1, 1)", "sure(0, 4, 4)", "sure(0, 2, -1)", "sure(0, 5, 0)",
            "hear(1, 1, 1)", "hear(1, 1, 0)", "speakerIn(301)", "fewest(61)", "shiftAt(3, 3, 0)", "talkAt(3, 9)",
            "ringAt(-1)", "best(3)", "copyBreath(4)"};
        for (String call : one) {
            is(x, call, 1);
        }
        is(x, "write(3, -1, 0)", 2);
        is(x, "read(3, 60)", 2);
        is(x, "pour(3, 99, 0, 0, 1)", 2);
        is(x, "pour(1, 99, 3, 0, 1)", 2);
        is(x, "heard(3, 4)", 2);
        is(x, "sure(3, 4, 0)", 2);
        is(x, "copyBreath(3)", 2);
        x.write(0, 0, 9);
        is(x, "heard(0, 4)", 3);
        is(x, "sure(0, 4, 0)", 3);
        is(x, "sure(0, 2, 0)", 5);
        SilentTurn full = fullRoster();
        is(full, "enter(3, 0)", 1);
        is(full, "enter(0, 0)", 4);
        SilentTurn late = lastMinute();
        is(late, "minute(100)", 1);
        is(late, "minute(0)", 1);
        is(late, "minute(99)", 4);
        SilentTurn none = new SilentTurn();
        is(none, "live(10000)", 1);
        is(none, "mean(0, 0)", 1);
        is(none, "mean(9999, 2)", 1);
        is(none, "lived(5)", 1);
        is(none, "shiftAt(1, 1, 0)", 1);
        is(none, "shift(4)", 1);
        is(none, "house(1)", 1);
        Checks.feed(none, "!");
        is(none, "house(21)", 1);
        is(none, "house(1)", 9);
        // Only pour() asks for the sorts ahead of the places.
        is(x, "pour(0, 99, 1, 99, 99)", 8);
    }

    static SilentTurn fullRoster() {
        SilentTurn x = Checks.made(Checks.SMALL);
        for (int i = 2; i < 12; i++) {
            x.enter(i % 3, 1);
        }
        return x;
    }

    static SilentTurn lastMinute() {
        SilentTurn x = Checks.made(Checks.SMALL);
        for (int i = 0; i < 101; i++) {
            x.minute(99);
        }
        return x;
    }

    static SilentTurn paused() {
        SilentTurn x = Checks.made(Checks.SMALL);
        x.minute(2);
        x.wake(1, false);
        return x;
    }

    private void oneByOne() {
        doc.of("1 a number that can't be; no such TRAY, TOPIC, MONK, ENTRY; a set with what there is none of.");
        refusals.refused(1, "minute(0)", "tray(4, 0, 0)", "topic(3, 0)", "monk(3, 0)", "entry(2, 0)", "couples(8)");
        doc.of("2 the TRAY is MISSING.");
        refusals.refused(2, "write(3, 0, 1)", "read(3, 0)", "pour(3, 0, 0, 0, 0)", "heard(3, 0)", "copyBreath(3)");
        doc.of("3 a place that the TRAY has not, or too few numbers.");
        refusals.refused(3, "write(0, 3, 1)", "read(2, 0)", "heard(0, 4)", "copyBreath(1)");
        doc.of("4 one too many.");
        refusals.refused(StatusEdges::fullRoster, "enter(0, 0)", 4);
        refusals.refused(StatusEdges::lastMinute, "minute(1)", 4);
        refusals.refused(StatusEdges::threeMarks, "mark()", 4);
        doc.of("5 a number in a TRAY that can't be.");
        refusals.refused(5, "heard(0, 2)", "sure(0, 2, 0)");
        doc.of("6 there is none such.");
        refusals.refused(StatusEdges::paused, "last()", 6);
        refusals.refused(SilentTurn::new, "undo()", 6);
        doc.of("7 it can't be.");
        refusals.refused(7, "change(2)", "wake(0, 1)", "wake(1, 0)", "follow(0, 1, 1)", "hear(0, 1, 1)");
        doc.of("8 TRAYS are of unlike sorts.");
        refusals.refused(8, "pour(0, 0, 1, 0, 1)", "pour(1, 0, 0, 0, 0)");
        doc.of("9 a FAULT.");
        refusals.faulty("house", "turn 5", 2, 6);
        refusals.faulty("days", "minute 0;", 4, 7);
        doc.of("0 else.");
        SilentTurn x = Refusals.rich();
        is(x, "undo()", 0);
        for (String call : new String[] {"read(1, 1)", "told(0)", "minute(1)", "pausesIn(0)", "tray(0, 0, 0)"}) {
            x.monk(9, 9);
            is(x, call, 0);
        }
    }

    static SilentTurn threeMarks() {
        SilentTurn x = Checks.made(Checks.SMALL);
        for (int i = 0; i < 3; i++) {
            x.mark();
            x.minute(1);
        }
        return x;
    }

    private void nothingElse() {
        doc.of("With another STATUS than 0 a call gives NONE, or false, and changes nothing else");
        refusals.refused("live(-1)", 1);
        refusals.refused("mean(9999, 2)", 1);
        refusals.refused("coughs(8)", 1);
        refusals.refused("house(21)", 1);
        refusals.refused("days(21)", 1);
        refusals.refused("pour(0, 1, 0, 0, 3)", 3);
        refusals.refused("copyBreath(1)", 3);
        refusals.refused("strike(2)", 1);
        asking();
        doc.of("(but house(), days() with 9 the tape, and what fault() tells).");
        refusals.faulty("house", Checks.SMALL + "!", 1, Checks.SMALL.length());
        refusals.faulty("house", "turn 7;odds 7;monk z breath 1;topic z cost 1;", 3, 36);
        refusals.faulty("days", "minute 5;change x;", 3, 16);
        refusals.faulty("days", "loop 2;any;", 2, 11);
    }

    // What only asks changes nothing, with STATUS 0, too; but coughs() and mean() tell a FRACTION.
    private void asking() {
        String[] calls = {"read(0, 1)", "told(8)", "topic(0, 1)", "monk(0, 6)", "entry(1, 0)", "silent()", "last()",
            "can(1, 0)", "topics(1)", "speakers(0)", "speaker()", "spoken()", "speakerIn(300)", "breathIn(0, 300)",
            "pauseIn()", "pausesIn(300)", "turnIn(0)", "unfair()", "enough(7, 60)", "fewest(2)", "fewestSet(2)",
            "shift(2)", "shiftAt(2, 1, 0)", "talk(0)", "talkAt(0, 1)", "ring()", "ringAt(1)", "reach(0)", "wins(1)",
            "best(1)", "heard(0, 1)", "sure(0, 1, 0)", "couples(7)", "allRead(3)", "lived(0)"};
        String untouched = Portrait.of(Refusals.rich());
        for (String call : calls) {
            SilentTurn x = Refusals.rich();
            Caller.call(x, call);
            doc.due(call + " only asks", Portrait.of(x).compareTo(untouched), 0);
        }
        for (String call : new String[] {"coughs(3)", "mean(1, 20)"}) {
            SilentTurn x = Refusals.rich();
            Caller.call(x, call);
            long top = x.top();
            long bottom = x.bottom();
            doc.due(call + ": STATUS", x.status(), 0);
            String told = "top " + top + "\nbottom " + bottom + "\n";
            String rest = untouched.substring(untouched.indexOf("told 0"));
            doc.due(call + " tells a FRACTION alone", Portrait.of(x).compareTo(told + rest), 0);
        }
    }

    private void without() {
        doc.of("status(), top(), bottom(), feed(), fault() have none.");
        SilentTurn x = new SilentTurn();
        for (int status : new int[] {1, 6, 0}) {
            Caller.call(x, status == 1 ? "told(9)" : status == 6 ? "last()" : "told(0)");
            x.status();
            x.top();
            x.bottom();
            x.feed(1, 2, 3, 4, 5);
            x.fault(0);
            x.fault(9);
            doc.due("STATUS of the call ahead", x.status(), status);
        }
        for (int i = 4; i <= 45; i++) {
            x.feed(0, 0, 0, 0, 0);
        }
        doc.due("no 46th", x.feed(0, 0, 0, 0, 0), -1);
        doc.due("STATUS of the call ahead", x.status(), 0);
        doc.of("The constants: `NONE = -1`: None.");
        doc.due("NONE", SilentTurn.NONE, -1);
    }

    // The least and the greatest int in each place of each call, the others being fine.
    private void extremes() {
        String[] calls = {"tray(0, 0, 1)", "told(0)", "topic(0, 0)", "monk(0, 0)", "entry(0, 0)", "minute(1)", "change(0)",
            "wake(1, 1)", "follow(0, 0, 1)", "hear(0, 2, 1)", "enter(0, 0)", "strike(0)", "breathe(0, 0)", "price(0, 0)",
            "rule(3, 5)", "can(0, 0)", "topics(0)", "speakers(0)", "speakerIn(0)", "breathIn(0, 0)", "pausesIn(0)",
            "turnIn(0)", "enough(0, 0)", "fewest(0)", "fewestSet(0)", "shift(1)", "shiftAt(1, 0, 0)", "talk(0)",
            "reach(0)", "wins(0)", "best(0)", "heard(0, 1)", "sure(0, 1, 0)", "couples(0)", "allRead(0)", "coughs(0)",
            "copyBreath(0)", "live(0)", "lived(0)", "mean(0, 1)", "house(0)", "days(0)"};
        for (String call : calls) {
            String[] a = call.substring(call.indexOf('(') + 1, call.length() - 1).split(", ");
            boolean flag = call.startsWith("wake") || call.startsWith("follow") || call.startsWith("hear(");
            for (int i = 0; i < a.length - (flag ? 1 : 0); i++) {
                for (int extreme : new int[] {Integer.MIN_VALUE, Integer.MAX_VALUE}) {
                    String[] b = a.clone();
                    b[i] = String.valueOf(extreme);
                    refusals.refused(call.substring(0, call.indexOf('(') + 1) + String.join(", ", b) + ")", 1);
                }
            }
        }
        int least = Integer.MIN_VALUE;
        int most = Integer.MAX_VALUE;
        refusals.refused(3, "read(0, " + least + ")", "read(0, " + most + ")", "write(0, " + least + ", 1)",
                "write(0, " + most + ", 1)", "pour(0, " + most + ", 0, 0, 1)", "pour(0, 0, 0, " + most + ", 1)",
                "pour(0, 1, 0, 1, " + most + ")", "pour(0, " + most + ", 0, 0, " + most + ")");
        refusals.refused(1, "pour(0, " + least + ", 0, 0, 1)", "pour(0, 0, 0, " + least + ", 1)",
                "pour(0, 0, 0, 0, " + least + ")", "pour(" + most + ", 0, 0, 0, 0)", "pour(0, 0, " + least + ", 0, 0)",
                "talkAt(0, " + least + ")", "ringAt(" + least + ")", "talkAt(" + most + ", 0)");
        refusals.refused(6, "talkAt(0, " + most + ")", "ringAt(" + most + ")");
    }

    // The 512th call is answered as the first; what is behind it is free.
    private void manyCalls() {
        doc.inIntroduction();
        doc.of("An object is used for at most 512 calls after it has been made;");
        Supplier<SilentTurn> made = () -> Checks.made("turn 3;monk a breath 1;monk b breath 1;");
        SilentTurn x = made.get();
        int calls = 3;
        while (calls < 510) {
            x.minute(1);
            calls++;
        }
        doc.due("minute", x.told(5), 507);
        doc.due("silent", x.silent(), 507 / 3 % 2);
    }
}
