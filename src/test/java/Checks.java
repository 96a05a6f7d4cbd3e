import java.nio.charset.StandardCharsets;

/** Counts the answers that are not as due, and feeds texts; every test of the project ends with end(). */
class Checks {
    /** A small house whose answers are worked out by hand in the tests. */
    static final String SMALL = "turn 3;odds 8;topic a cost 2;topic b cost 5;topic c cost 1;"
            + "monk p breath 10 rest 2;monk q breath 4;monk r breath 8 asleep;"
            + "follows a b;follows b a;follows b c;follows c a;"
            + "roster q a;roster p b;hears p q;hears q r;";

    /** As many TOPICS, MONKS and ENTRIES as there can be, no two alike. */
    static final String FULL = "turn 98;odds 15;topic a cost 19;topic b cost 18;topic c cost 17;topic d cost 16;"
            + "topic e cost 15;topic f cost 4;monk t breath 1 rest 2;monk u breath 2 rest 3;monk v breath 3 asleep;"
            + "monk w breath 0 rest 0;monk x breath 1 rest 6;monk y breath 2 rest 7 asleep;monk z breath 9 rest 8;"
            + "follows f f;follows a f;follows f e;hears z t;hears z y;hears y x;"
            + "roster t a;roster u b;roster v c;roster w d;roster x e;roster y f;roster z a;roster z b;roster z c;"
            + "roster z d;roster z e;roster z f;";

    private int asked;
    private int wrong;

    void due(String what, long got, long want) {
        asked++;
        if (got != want) {
            wrong++;
            System.out.println(about() + what + " answered " + got + ", due is " + want);
        }
    }

    /** What stands ahead of an answer that is not as due. */
    String about() {
        return "";
    }

    int asked() {
        return asked;
    }

    void yes(String what, SilentTurn x, boolean got) {
        due(what, got ? 1 : 0, 1);
        due(what + ": STATUS", x.status(), 0);
    }

    void no(String what, SilentTurn x, boolean got, int status) {
        due(what, got ? 1 : 0, 0);
        due(what + ": STATUS", x.status(), status);
    }

    void gives(String what, SilentTurn x, long got, long want) {
        due(what, got, want);
        due(what + ": STATUS", x.status(), 0);
    }

    void none(String what, SilentTurn x, long got, int status) {
        due(what, got, -1);
        due(what + ": STATUS", x.status(), status);
    }

    void fraction(String what, SilentTurn x, long top, long bottom) {
        due(what + ": top", x.top(), top);
        due(what + ": bottom", x.bottom(), bottom);
    }

    /** The text is no house: its FAULT and place are due. */
    void badHouse(String text, int kind, int place) {
        SilentTurn x = new SilentTurn();
        none("house '" + text + "'", x, house(x, text), 9);
        faultIs("house '" + text + "'", x, kind, place);
    }

    /** The text is no days of the house: its FAULT and place are due. */
    void badDays(String house, String text, int kind, int place) {
        SilentTurn x = made(house);
        none("days '" + text + "'", x, days(x, text), 9);
        faultIs("days '" + text + "'", x, kind, place);
    }

    void faultIs(String what, SilentTurn x, int kind, int place) {
        due(what + ": fault(0)", x.fault(0), kind);
        due(what + ": fault(1)", x.fault(1), place);
    }

    static SilentTurn made(String house) {
        SilentTurn x = new SilentTurn();
        if (house(x, house) < 0) {
            throw new IllegalStateException("no house: fault " + x.fault(0) + " at " + x.fault(1) + ": " + house);
        }
        return x;
    }

    static SilentTurn made(String house, String days) {
        SilentTurn x = made(house);
        if (days(x, days) < 0) {
            throw new IllegalStateException("no days: fault " + x.fault(0) + " at " + x.fault(1) + ": " + days);
        }
        return x;
    }

    static int house(SilentTurn x, String text) {
        return x.house(feed(x, text));
    }

    static int days(SilentTurn x, String text) {
        return x.days(feed(x, text));
    }

    /** Feeds a text, with zeros behind it to the next twenty: how long the text is. */
    static int feed(SilentTurn x, String text) {
        byte[] bytes = text.getBytes(StandardCharsets.ISO_8859_1);
        for (int at = 0; at < bytes.length; at += 20) {
            x.feed(four(bytes, at), four(bytes, at + 4), four(bytes, at + 8), four(bytes, at + 12),
                    four(bytes, at + 16));
        }
        return bytes.length;
    }

    static int four(byte[] bytes, int at) {
        int value = 0;
        for (int i = at; i < at + 4; i++) {
            value = value << 8 | (i < bytes.length ? bytes[i] & 255 : 0);
        }
        return value;
    }

    void end() {
        System.out.println(asked + " answers asked for, " + wrong + " not as due");
        if (wrong != 0 || asked == 0) {
            System.exit(1);
        }
    }
}
