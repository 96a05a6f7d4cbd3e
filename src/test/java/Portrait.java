/**
 * All that can be seen of an object, as one text. It is asked by calls that use the object up (its DAYS are
 * lived, its MARKS taken back), so it is the last that is done with it.
 */
final class Portrait {
    private static final int MOST_MARKS = 3;
    private final SilentTurn x;
    private final StringBuilder text = new StringBuilder();

    private Portrait(SilentTurn x) {
        this.x = x;
    }

    /** All but the STATUS. */
    static String of(SilentTurn x) {
        Portrait p = new Portrait(x);
        p.fraction();
        p.house();
        p.trays();
        p.lived();
        p.text();
        p.ahead();
        p.marks();
        return p.text.toString();
    }

    /** All but the STATUS, the tape and what fault() tells. */
    static String withoutText(SilentTurn x) {
        Portrait p = new Portrait(x);
        p.fraction();
        p.house();
        p.trays();
        p.lived();
        p.ahead();
        p.marks();
        return p.text.toString();
    }

    /** What became of the HOUSE alone; it uses nothing up. */
    static String ofHouse(SilentTurn x) {
        Portrait p = new Portrait(x);
        p.house();
        return p.text.toString();
    }

    private void add(String what, long answer) {
        text.append(what).append(' ').append(answer).append('\n');
    }

    private void fraction() {
        add("top", x.top());
        add("bottom", x.bottom());
    }

    private void house() {
        for (int what = 0; what <= 8; what++) {
            add("told " + what, x.told(what));
        }
        for (int topic = 0; topic < x.told(0); topic++) {
            for (int what = 0; what <= 2; what++) {
                add("topic " + topic + " " + what, x.topic(topic, what));
            }
        }
        for (int monk = 0; monk < x.told(1); monk++) {
            for (int what = 0; what <= 6; what++) {
                add("monk " + monk + " " + what, x.monk(monk, what));
            }
        }
        for (int entry = 0; entry < x.told(2); entry++) {
            add("entry " + entry, 10 * x.entry(entry, 0) + x.entry(entry, 1));
        }
        add("silent", x.silent());
        add("last", x.last());
    }

    private void trays() {
        for (int tray = 0; tray < 4; tray++) {
            long number = x.read(tray, 0);
            int place = 0;
            while (x.status() == 0) {
                add("tray " + tray + " " + place, number);
                place++;
                number = x.read(tray, place);
            }
            add("tray " + tray + " ends by", x.status());
        }
    }

    private void lived() {
        for (int what = 0; what <= 4; what++) {
            add("lived " + what, x.lived(what));
        }
    }

    private void text() {
        add("fault", x.fault(0));
        add("place", x.fault(1));
        add("tape", x.feed(0, 0, 0, 0, 0));
    }

    // The DAYS are what they do.
    private void ahead() {
        add("live", x.live(77));
        add("minute", x.told(5));
        for (int monk = 0; monk < x.told(1); monk++) {
            add("breath " + monk, x.monk(monk, 0));
        }
        add("awake", x.told(8));
    }

    private void marks() {
        for (int i = 0; i < MOST_MARKS; i++) {
            add("undo", x.undo());
            if (x.status() == 0) {
                house();
                ahead();
            }
        }
    }
}
