/** Promises 9, 10, 12 to 18: the tape, a HOUSE as a text, its FAULTS, what it tells. */
public final class HouseTextTest {
    private static final Checks CHECK = new Checks();
    private static final String T = "topic t cost 1;";
    private static final String M = "monk m breath 9;";

    public static void main(String[] args) {
        feeding();
        takingTheTape();
        whatIsTold();
        emptyAndDefaults();
        tokens();
        parts();
        names();
        numbers();
        tooMuch();
        order();
        CHECK.end();
    }

    private static void feeding() {
        SilentTurn x = new SilentTurn();
        for (int i = 1; i <= 45; i++) {
            CHECK.due("feed " + i, x.feed(0x20202020, 0x20202020, 0x20202020, 0x20202020, 0x20202020), 20 * i);
        }
        CHECK.due("a 46th feed", x.feed(0, 0, 0, 0, 0), -1);
        CHECK.due("status of feed", x.status(), 0);
        CHECK.gives("a house of 900 blanks", x, x.house(900), 0);
        CHECK.due("an empty tape", x.feed(0, 0, 0, 0, 0), 20);
    }

    private static void takingTheTape() {
        SilentTurn x = new SilentTurn();
        x.feed(0x7475726e, 0x20373b00, 0, 0, 0);
        CHECK.none("house(-1)", x, x.house(-1), 1);
        CHECK.none("house(21)", x, x.house(21), 1);
        CHECK.due("no fault told yet", x.fault(0), -1);
        CHECK.due("the tape stays", x.feed(0, 0, 0, 0, 0), 40);
        CHECK.gives("turn 7;", x, x.house(7), 0);
        CHECK.gives("TURN", x, x.told(3), 7);
        CHECK.faultIs("without one", x, 0, -1);
        CHECK.due("fault(2)", x.fault(2), -1);
        CHECK.due("fault(-1)", x.fault(-1), -1);
        CHECK.due("the tape is empty", x.feed(0x74757271, 0, 0, 0, 0), 20);
        CHECK.none("turq", x, x.house(4), 9);
        CHECK.faultIs("turq", x, 2, 0);
        CHECK.due("the tape is empty again", x.feed(0, 0, 0, 0, 0), 20);
        CHECK.gives("the old one stays", x, x.told(3), 7);
        CHECK.none("house(99)", x, x.house(99), 1);
        CHECK.faultIs("of the latest with 0 or 9", x, 2, 0);
        CHECK.gives("an empty house", x, x.house(0), 0);
        CHECK.gives("TURN without", x, x.told(3), 10);
    }

    private static void whatIsTold() {
        SilentTurn x = Checks.made(Checks.SMALL);
        int[] told = {3, 3, 2, 3, 8, 0, 0, 0, 3};
        for (int what = 0; what < told.length; what++) {
            CHECK.gives("told " + what, x, x.told(what), told[what]);
        }
        CHECK.none("told(9)", x, x.told(9), 1);
        CHECK.none("told(-1)", x, x.told(-1), 1);
        int[][] topics = {{2, 2, 6}, {5, 5, 1}, {1, 1, 2}};
        int[][] monks = {{10, 10, 2, 1, 0, 0, 2}, {4, 4, 1, 1, 0, 0, 5}, {8, 8, 1, 0, 0, 0, 2}};
        for (int i = 0; i < 3; i++) {
            for (int what = 0; what < 3; what++) {
                CHECK.gives("topic " + i + " " + what, x, x.topic(i, what), topics[i][what]);
            }
            for (int what = 0; what < 7; what++) {
                CHECK.gives("monk " + i + " " + what, x, x.monk(i, what), monks[i][what]);
            }
        }
        CHECK.gives("entry 0 0", x, x.entry(0, 0), 1);
        CHECK.gives("entry 0 1", x, x.entry(0, 1), 0);
        CHECK.gives("entry 1 0", x, x.entry(1, 0), 0);
        CHECK.gives("entry 1 1", x, x.entry(1, 1), 1);
        int[][] wrong = {{-1, 0}, {3, 0}, {0, -1}, {0, 7}};
        for (int[] w : wrong) {
            CHECK.none("topic", x, x.topic(w[0], w[1]), 1);
            CHECK.none("monk", x, x.monk(w[0], w[1]), 1);
            CHECK.none("entry", x, x.entry(w[0], w[1]), 1);
        }
        CHECK.none("topic what 3", x, x.topic(0, 3), 1);
        CHECK.none("entry 2", x, x.entry(2, 0), 1);
        CHECK.none("entry what 2", x, x.entry(0, 2), 1);
        CHECK.gives("silent", x, x.silent(), 0);
        CHECK.none("last", x, x.last(), 6);
        x.minute(1);
        CHECK.gives("last", x, x.last(), 0);
        x.minute(1);
        CHECK.none("last behind a pause", x, x.last(), 6);
    }

    private static void emptyAndDefaults() {
        SilentTurn x = Checks.made(Checks.SMALL, "minute 1;");
        x.minute(5);
        CHECK.gives("a house in place of it", x, Checks.house(x, M + T), 1);
        int[] told = {1, 1, 0, 10, 1, 0, 0, 0, 1};
        for (int what = 0; what < told.length; what++) {
            CHECK.gives("told " + what, x, x.told(what), told[what]);
        }
        CHECK.none("no last", x, x.last(), 6);
        CHECK.none("no days", x, x.live(0), 6);
        int[] monk = {9, 9, 1, 1, 0, 0, 0};
        for (int what = 0; what < monk.length; what++) {
            CHECK.gives("monk 0 " + what, x, x.monk(0, what), monk[what]);
        }
        CHECK.gives("nothing may follow", x, x.topic(0, 1), 0);
        x = new SilentTurn();
        for (int i = 0; i < 3; i++) {
            Checks.house(x, "topic t cost 1;follows t t;monk m breath 9;monk n breath 9;hears m n;roster n t;");
            CHECK.gives("spoke", x, x.monk(1, 4), 0);
            CHECK.gives("was silent", x, x.monk(0, 5), 0);
            x.minute(3);
            CHECK.gives("spoke", x, x.monk(1, 4), 3);
        }
        for (int i = 0; i < 2; i++) {
            Checks.house(x, T + M + "monk n breath 9;");
            CHECK.gives("nothing of the old ones", x, x.topic(0, 1) + x.monk(0, 6) + x.told(2), 0);
        }
        x = Checks.made("monk a breath 0 asleep;monk b breath 99 rest 0;monk c breath 5 rest 9 asleep;");
        CHECK.gives("awake", x, x.told(8), 2);
        CHECK.gives("rest of a", x, x.monk(0, 2), 1);
        CHECK.gives("rest of b", x, x.monk(1, 2), 0);
        CHECK.gives("rest of c", x, x.monk(2, 2), 9);
        CHECK.gives("most of b", x, x.monk(1, 1), 99);
        CHECK.gives("silent, though asleep", x, x.silent(), 0);
        x = Checks.made(T + "follows t t;follows t t;" + M + "monk n breath 1;hears n m;hears m n;hears n m;");
        CHECK.gives("follows itself", x, x.topic(0, 1), 1);
        CHECK.gives("hears", x, x.monk(0, 6), 2);
        CHECK.gives("hears", x, x.monk(1, 6), 1);
    }

    private static void tokens() {
        CHECK.due("tight", Checks.house(new SilentTurn(), "turn5;odds16;monk m breath9rest2asleep;"), 1);
        CHECK.due("loose", Checks.house(new SilentTurn(), "\n turn\n0005 ;\n\n  monk m breath 9\nrest 2 ;\n "), 1);
        CHECK.badHouse("turn\t5;", 1, 4);
        CHECK.badHouse("turn 5;\r", 1, 7);
        CHECK.badHouse("Turn 5;", 1, 0);
        CHECK.badHouse("turn 5,", 1, 6);
        CHECK.badHouse("turn -5;", 1, 5);
        CHECK.badHouse("turn 00005;", 1, 5);
        CHECK.badHouse("turn 12345678901;", 1, 5);
        CHECK.badHouse("turn 5; \u00e9", 1, 8);
        CHECK.badHouse("turn 5; \u0000", 1, 8);
        CHECK.badHouse("12345", 1, 0);
        CHECK.badHouse("topic ! cost 1;", 1, 6);
        CHECK.badHouse("turn turnn", 2, 5);
    }

    private static void parts() {
        CHECK.badHouse("x", 2, 0);
        CHECK.badHouse("7", 2, 0);
        CHECK.badHouse(";", 2, 0);
        CHECK.badHouse("turn 5;;", 2, 7);
        CHECK.badHouse("turn", 2, 4);
        CHECK.badHouse("turn  ", 2, 6);
        CHECK.badHouse("turn 5", 2, 6);
        CHECK.badHouse("turn 5 turn", 2, 7);
        CHECK.badHouse("turn five;", 2, 5);
        CHECK.badHouse("turn 5<", 2, 6);
        CHECK.badHouse("odds ;", 2, 5);
        CHECK.badHouse("topic a 5;", 2, 8);
        CHECK.badHouse("topic a breath 5;", 2, 8);
        CHECK.badHouse("topic 5 cost 5;", 2, 6);
        CHECK.badHouse("topic a cost 5 rest 1;", 2, 15);
        CHECK.badHouse("monk a cost 5;", 2, 7);
        CHECK.badHouse("monk a breath;", 2, 13);
        CHECK.badHouse("monk a breath 5 asleep rest 1;", 2, 23);
        CHECK.badHouse("monk a breath 5 rest asleep;", 2, 21);
        CHECK.badHouse("monk a breath 5 rest 1 rest 1;", 2, 23);
        CHECK.badHouse("monk a breath 5 asleep asleep;", 2, 23);
        CHECK.badHouse("monk a breath 5 cost;", 2, 16);
        CHECK.badHouse(T + "follows t;", 2, 24);
        CHECK.badHouse(T + "follows t t t;", 2, 27);
        CHECK.badHouse(M + T + "roster m;", 2, 39);
        CHECK.badHouse(M + "hears m;", 2, 23);
        CHECK.badHouse("cost 5;", 2, 0);
        CHECK.badHouse("minute 5;", 2, 0);
        CHECK.badHouse("turnodds", 2, 0);
        CHECK.badHouse("turnturnt 5;", 2, 0);
    }

    private static void names() {
        String[] kept = {"turn", "odds", "topic", "cost", "monk", "breath", "rest", "asleep", "follows", "roster",
            "hears", "minute", "change", "wake", "sleep", "any", "when", "silent", "last", "paused", "loop", "end",
            "stop"};
        for (String word : kept) {
            CHECK.badHouse("topic " + word + " cost 1;", 2, 6);
            CHECK.badHouse("monk " + word + " breath 1;", 2, 5);
        }
        CHECK.due("near to words", Checks.house(new SilentTurn(), "topic turns cost 1;topic tur cost 1;"
                + "monk e breath 1;monk en breath 1;monk ende breath 1;monk breathe breath 1;monk abcdefgh breath 1;"), 5);
        CHECK.badHouse("topic abcdefghi cost 1;", 2, 6);
        CHECK.badHouse("monk abcdefghijklmnopqrstuvwxyz breath 1;", 2, 5);
        CHECK.badHouse(T + "topic t cost 1;", 3, 21);
        CHECK.badHouse(T + "monk t breath 1;", 3, 20);
        CHECK.badHouse(M + "topic m cost 1;", 3, 22);
        CHECK.badHouse(M + "monk m breath 1;", 3, 21);
        CHECK.badHouse(T + M + "follows m t;", 3, 39);
        CHECK.badHouse(T + M + "follows t m;", 3, 41);
        CHECK.badHouse(T + M + "roster t m;", 3, 38);
        CHECK.badHouse(T + M + "roster m m;", 3, 40);
        CHECK.badHouse(T + M + "hears t m;", 3, 37);
        CHECK.badHouse(T + M + "hears m t;", 3, 39);
        CHECK.badHouse(T + M + "hears m x;", 3, 39);
        CHECK.badHouse("follows t t;" + T, 3, 8);
        CHECK.badHouse(T + "follows t abcdefghi;", 2, 25);
        CHECK.badHouse(M + "hears m m;", 5, 24);
        CHECK.badHouse(M + "hears m rest;", 2, 24);
        CHECK.badHouse(M + "hears rest m;", 2, 22);
    }

    private static void numbers() {
        CHECK.badHouse("turn 0;", 4, 5);
        CHECK.badHouse("turn 100;", 4, 5);
        CHECK.badHouse("odds 17;", 4, 5);
        CHECK.badHouse("topic t cost 21;", 4, 13);
        CHECK.badHouse("monk m breath 100;", 4, 14);
        CHECK.badHouse("monk m breath 9999;", 4, 14);
        CHECK.badHouse("monk m breath 9 rest 10;", 4, 21);
        SilentTurn x = Checks.made("turn 99;odds 0;topic t cost 0;topic u cost 20;monk m breath 0 rest 0;");
        CHECK.gives("turn 99", x, x.told(3), 99);
        CHECK.gives("odds 0", x, x.told(4), 0);
        CHECK.gives("cost 20", x, x.topic(1, 0), 20);
        x = Checks.made("turn 1;odds 16;monk m breath 99 rest 9;");
        CHECK.gives("turn 1", x, x.told(3), 1);
        CHECK.gives("odds 16", x, x.told(4), 16);
        CHECK.badHouse("turn 5;odds 5;turn 5;", 5, 14);
        CHECK.badHouse("odds 5;odds", 5, 7);
    }

    private static void tooMuch() {
        StringBuilder topics = new StringBuilder();
        for (int i = 0; i < 6; i++) {
            topics.append("topic ").append((char) ('a' + i)).append(" cost 1;");
        }
        StringBuilder monks = new StringBuilder();
        for (int i = 0; i < 7; i++) {
            monks.append("monk ").append((char) ('p' + i)).append(" breath 1;");
        }
        StringBuilder roster = new StringBuilder();
        for (int i = 0; i < 12; i++) {
            roster.append("roster p a;");
        }
        String all = topics.toString() + monks + roster;
        SilentTurn x = Checks.made(all);
        CHECK.gives("topics", x, x.told(0), 6);
        CHECK.gives("monks", x, x.told(1), 7);
        CHECK.gives("entries", x, x.told(2), 12);
        CHECK.badHouse(all + "topic ", 6, all.length());
        CHECK.badHouse(all + "monk ", 6, all.length());
        CHECK.badHouse(all + "roster ", 6, all.length());
        CHECK.badHouse(all + " topic a", 6, all.length() + 1);
    }

    private static void order() {
        CHECK.badHouse("turn 0 !", 4, 5);
        CHECK.badHouse("turn 5 ; ! turn 0;", 1, 9);
        CHECK.badHouse("turn 5 5 !", 2, 7);
        CHECK.badHouse(T + "topic t ! 1", 3, 21);
    }
}
