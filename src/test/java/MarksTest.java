/** Promises 61 and 62: MARKS, to which all is taken back. */
public final class MarksTest {
    private static final Checks CHECK = new Checks();

    public static void main(String[] args) {
        counting();
        everythingIsTakenBack();
        housesAndDays();
        whatStays();
        CHECK.end();
    }

    private static void counting() {
        SilentTurn x = new SilentTurn();
        CHECK.none("none", x, x.undo(), 6);
        for (int i = 1; i <= 3; i++) {
            CHECK.gives("mark", x, x.mark(), i);
        }
        CHECK.none("a fourth", x, x.mark(), 4);
        for (int i = 2; i >= 0; i--) {
            CHECK.gives("undo", x, x.undo(), i);
        }
        CHECK.none("none", x, x.undo(), 6);
        CHECK.gives("mark", x, x.mark(), 1);
    }

    private static void everythingIsTakenBack() {
        SilentTurn x = Checks.made(Checks.SMALL);
        x.minute(4);
        String first = told(x);
        x.mark();
        x.minute(4);
        x.change(0);
        x.wake(2, true);
        x.follow(0, 0, true);
        x.hear(0, 2, true);
        x.enter(2, 2);
        x.strike(0);
        x.breathe(0, 1);
        x.price(0, 7);
        x.rule(3, 9);
        x.rule(4, 9);
        String second = told(x);
        x.mark();
        x.minute(7);
        x.price(1, 0);
        CHECK.due("other than at first", told(x).equals(second) ? 1 : 0, 0);
        CHECK.gives("undo", x, x.undo(), 1);
        CHECK.due("as at the second", told(x).equals(second) ? 1 : 0, 1);
        CHECK.due("other than the first", told(x).equals(first) ? 1 : 0, 0);
        CHECK.gives("undo", x, x.undo(), 0);
        CHECK.due("as at the first", told(x).equals(first) ? 1 : 0, 1);
        x.minute(1);
        CHECK.none("the mark is gone", x, x.undo(), 6);
    }

    private static String told(SilentTurn x) {
        StringBuilder text = new StringBuilder();
        for (int what = 0; what <= 8; what++) {
            text.append(x.told(what)).append(' ');
        }
        for (int topic = 0; topic < 6; topic++) {
            for (int what = 0; what < 3; what++) {
                text.append(x.topic(topic, what)).append(' ');
            }
        }
        for (int monk = 0; monk < 7; monk++) {
            for (int what = 0; what < 7; what++) {
                text.append(x.monk(monk, what)).append(' ');
            }
        }
        for (int entry = 0; entry < 12; entry++) {
            text.append(x.entry(entry, 0)).append(' ').append(x.entry(entry, 1)).append(' ');
        }
        return text.append(x.silent()).append(' ').append(x.last()).toString();
    }

    private static void housesAndDays() {
        SilentTurn x = Checks.made(Checks.SMALL);
        x.mark();
        Checks.days(x, "minute 5;any;");
        x.mark();
        Checks.house(x, "monk z breath 1;");
        CHECK.none("no days", x, x.live(0), 6);
        x.mark();
        CHECK.gives("days of z", x, Checks.days(x, "change z;"), 1);
        CHECK.gives("undo", x, x.undo(), 2);
        CHECK.none("no days again", x, x.live(0), 6);
        CHECK.gives("undo", x, x.undo(), 1);
        CHECK.gives("three monks again", x, x.told(1), 3);
        CHECK.gives("days again", x, x.live(0), 2);
        x.mark();
        CHECK.gives("q has less than 4", x, Checks.days(x, "when breath q<4;minute 1;any;end;"), 3);
        x.breathe(1, 3);
        x.mark();
        CHECK.gives("p is not silent", x, Checks.days(x, "loop 2;when silent q;minute 1;end;end;"), 3);
        CHECK.gives("undo", x, x.undo(), 2);
        CHECK.gives("it holds again", x, x.live(0), 3);
        CHECK.gives("undo", x, x.undo(), 1);
        CHECK.gives("names again", x, Checks.days(x, "when last c;wake r;end;"), 2);
        CHECK.none("but not z", x, Checks.days(x, "wake z;"), 9);
        CHECK.gives("undo", x, x.undo(), 0);
        CHECK.none("no days at first", x, x.live(0), 6);
        CHECK.gives("minute 0", x, x.told(5), 0);
    }

    private static void whatStays() {
        SilentTurn x = Checks.made(Checks.SMALL, "minute 5;");
        x.tray(0, 0, 3);
        x.mark();
        x.copyBreath(0);
        x.coughs(1);
        x.live(3);
        x.feed(1, 2, 3, 4, 5);
        x.undo();
        CHECK.gives("trays", x, x.read(0, 0), 10);
        CHECK.fraction("the fraction", x, 1, 2);
        CHECK.gives("of live() latest", x, x.lived(1), 5);
        CHECK.due("the tape", x.feed(1, 2, 3, 4, 5), 40);
        CHECK.faultIs("the fault", x, 0, -1);
    }
}
