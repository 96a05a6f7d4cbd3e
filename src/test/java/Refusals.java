import java.util.Map;
import java.util.TreeMap;
import java.util.TreeSet;
import java.util.function.Supplier;

/** Calls that are refused: what they give, their STATUS, and that nothing else changes by them. */
final class Refusals {
    // Which STATUS the document names for each call.
    private static final String NAMED = "tray 1 write 123 read 123 pour 1238 house 19 days 19 told 1 topic 1 monk 1 entry 1 "
            + "silent 6 last 6 minute 14 change 17 wake 17 follow 17 hear 17 enter 14 strike 1 breathe 1 price 1 rule 1 "
            + "can 1 topics 1 speakers 1 speaker 6 spoken 6 speakerIn 16 breathIn 1 pauseIn 6 pausesIn 1 turnIn 1 "
            + "enough 1 fewest 16 fewestSet 16 shift 16 shiftAt 16 talk 1 talkAt 16 ring 6 ringAt 16 reach 1 wins 1 "
            + "best 16 heard 1235 sure 12356 couples 1 allRead 1 coughs 1 copyBreath 123 live 16 lived 16 mean 16 "
            + "mark 4 undo 6";

    private final Sentences doc;
    private final Map<String, TreeSet<Character>> seen = new TreeMap<>();

    Refusals(Sentences doc) {
        this.doc = doc;
    }

    /**
     * SMALL at MINUTE 6 with r silent, q asleep, DAYS, a MARK, a FRACTION, a FAULT and 20 bytes on the tape;
     * TRAY 0 has 2, 7, 0 (sort 0), TRAY 1 5, -5 (sort 1), TRAY 2 nothing (sort 0), TRAY 3 is MISSING.
     */
    static SilentTurn rich() {
        SilentTurn x = withEmptyTape();
        Checks.feed(x, "any;any;any;any;any;");
        return x;
    }

    private static SilentTurn withEmptyTape() {
        SilentTurn x = Checks.made(Checks.SMALL, "minute 1;any;");
        x.minute(4);
        x.mark();
        Checks.days(x, "any;minute 2;when paused > 1;wake r;end;");
        x.live(5);
        x.coughs(1);
        x.wake(1, false);
        x.tray(0, 0, 3);
        x.write(0, 0, 2);
        x.write(0, 1, 7);
        x.tray(1, 1, 2);
        x.write(1, 0, 5);
        x.write(1, 1, -5);
        x.tray(2, 0, 0);
        Checks.house(x, "turn 0;");
        return x;
    }

    /** The call, as it is written, is refused with this STATUS by an object that is made so. */
    void refused(Supplier<SilentTurn> made, String call, int status) {
        SilentTurn x = made.get();
        String name = call.substring(0, call.indexOf('('));
        doc.due(call, Caller.call(x, call), Caller.refusal(name));
        doc.due(call + ": STATUS", x.status(), status);
        boolean same = Portrait.of(x).equals(Portrait.of(made.get()));
        doc.due(call + " changes nothing", same ? 1 : 0, 1);
        note(name, status);
    }

    void refused(String call, int status) {
        refused(Refusals::rich, call, status);
    }

    void refused(int status, String... calls) {
        for (String call : calls) {
            refused(call, status);
        }
    }

    /** house() or days() of a text with a FAULT: the tape and fault() may change, nothing else. */
    void faulty(String name, String text, int kind, int place) {
        SilentTurn x = withEmptyTape();
        int n = Checks.feed(x, text);
        doc.due(name + " '" + text + "'", Caller.call(x, name, n), -1);
        doc.due(name + " '" + text + "': STATUS", x.status(), 9);
        doc.faultIs(name + " '" + text + "'", x, kind, place);
        doc.due("the tape is empty", x.feed(0, 0, 0, 0, 0), 20);
        boolean same = Portrait.withoutText(x).equals(Portrait.withoutText(withEmptyTape()));
        doc.due(name + " '" + text + "' changes nothing else", same ? 1 : 0, 1);
        note(name, 9);
    }

    private void note(String name, int status) {
        seen.computeIfAbsent(name, n -> new TreeSet<>()).add((char) ('0' + status));
    }

    /** Each STATUS that the document names for a call was seen, and no other. */
    void allSeen() {
        String[] words = NAMED.split(" ");
        for (int i = 0; i < words.length; i += 2) {
            StringBuilder all = new StringBuilder();
            seen.getOrDefault(words[i], new TreeSet<>()).forEach(all::append);
            doc.due(words[i] + " was refused with " + all + ", named are " + words[i + 1],
                    all.toString().equals(words[i + 1]) ? 1 : 0, 1);
        }
        // Of the 56 calls that have a STATUS only unfair() is never refused.
        doc.due("calls that can be refused", words.length / 2, 55);
        doc.due("calls that were refused", seen.size(), 55);
    }
}
