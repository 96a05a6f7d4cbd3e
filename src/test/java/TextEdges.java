import java.util.List;

/** The edges that the Terms name for TRAYS, for a HOUSE as a text and for its FAULTS. */
final class TextEdges {
    private static final String T = "topic t cost 1;";
    private static final String M = "monk m breath 9;";
    private static final String N = "monk n breath 9;";
    private static final List<String> KEPT = List.of("turn", "odds", "topic", "cost", "monk", "breath", "rest", "asleep",
            "follows", "roster", "hears", "minute", "change", "wake", "sleep", "any", "when", "silent", "last", "paused",
            "loop", "end", "stop");
    private final Sentences doc;

    TextEdges(Sentences doc) {
        this.doc = doc;
    }

    void all() {
        doc.inTerms();
        trays();
        length();
        tokens();
        words();
        grammar();
        pairsInGrammar();
        names();
        rules();
        topicsAndMonks();
        breathAndRest();
        follows();
        rosterAndEars();
        numbering();
        faultOrder();
        noTokensAndPlaces();
        faultsOfNames();
        faultsOfNumbers();
        toldAgain();
        tooMany();
        inPlaceOfTheOld();
        freshlyTaken();
    }

    private void trays() {
        doc.of("TRAYS 0 to 3 are MISSING at first, or rows of 0 to 60 numbers of 8 bits (sort 0), 16 (1), 32 (2) or 64 (3).");
        SilentTurn x = new SilentTurn();
        for (int tray = 0; tray <= 3; tray++) {
            doc.none("tray " + tray + " at first", x, x.read(tray, 0), 2);
            doc.yes("a row of none", x, x.tray(tray, tray, 0));
            doc.none("a row of none", x, x.read(tray, 0), 3);
            doc.yes("a row of 60", x, x.tray(tray, tray, 60));
            doc.gives("its last", x, x.read(tray, 59), 0);
            doc.none("no 61st", x, x.read(tray, 60), 3);
            doc.no("a row of 61", x, x.tray(tray, tray, 61), 1);
            doc.no("a row below none", x, x.tray(tray, tray, -1), 1);
            long half = 1L << (8 << tray) - 1;
            bits(x, tray, half - 1, half - 1);
            bits(x, tray, half, -half);
            bits(x, tray, -half, -half);
            bits(x, tray, -half - 1, half - 1);
            bits(x, tray, 2 * half, 0);
            bits(x, tray, 2 * half - 1, -1);
        }
        doc.none("tray 4", x, x.read(4, 0), 1);
        doc.none("tray -1", x, x.read(-1, 0), 1);
        doc.no("sort 4", x, x.tray(0, 4, 1), 1);
        doc.no("sort -1", x, x.tray(0, -1, 1), 1);
    }

    private void bits(SilentTurn x, int tray, long v, long want) {
        x.write(tray, 59, v);
        doc.gives(v + " in sort " + tray, x, x.read(tray, 59), want);
    }

    private void length() {
        doc.of("A HOUSE is a TEXT of at most 900 bytes.");
        String text = "turn 7;" + " ".repeat(900 - 14) + "odds 9;";
        SilentTurn x = Checks.made(text);
        doc.gives("the last of 900", x, x.told(4), 9);
        doc.badHouse(text.substring(0, 899), 2, 899);
        doc.badHouse(" ".repeat(899) + "!", 1, 899);
        Checks.feed(x, text);
        doc.due("the tape has no 901st", x.feed(0, 0, 0, 0, 0), -1);
        doc.none("more than 900", x, x.house(901), 1);
        doc.gives("all 900", x, x.house(900), 0);
    }

    private void good(String text, int monks) {
        SilentTurn x = new SilentTurn();
        doc.gives("house '" + text + "'", x, Checks.house(x, text), monks);
        doc.faultIs("house '" + text + "'", x, 0, -1);
    }

    private void tokens() {
        doc.of("TOKENS, as long as they go, between them blanks (10, 32):");
        for (char c = 0; c < 256; c++) {
            everyByte(c);
        }
        good("\n\n turn  \n5\n ;  ", 0);
        good("turn5;odds0;monk m breath9rest2asleep;", 1);
        doc.badHouse("turnodds 5;", 2, 0);
        doc.badHouse("tu rn 5;", 2, 0);
        doc.badHouse("turn 5 5;", 2, 7);
        doc.badHouse("turn 5\n5;", 2, 7);
    }

    private void words() {
        doc.of("WORDS (small letters),");
        good("topic a cost 1;topic z cost 1;", 0);
        doc.badHouse("topic A cost 1;", 1, 6);
        doc.badHouse("topic Z cost 1;", 1, 6);
        doc.badHouse("topic ` cost 1;", 1, 6);
        doc.badHouse("topic { cost 1;", 1, 6);
        doc.badHouse("topic aB cost 1;", 1, 7);
        doc.badHouse("topic a1 cost 1;", 2, 7);
        doc.badHouse("turN 5;", 2, 0);
        doc.of("NUMBERS (1 to 4 digits),");
        turnIs("turn 0;", -1);
        turnIs("turn 9;", 9);
        turnIs("turn 09;", 9);
        turnIs("turn 0099;", 99);
        doc.badHouse("turn 00099;", 1, 5);
        doc.badHouse("turn /;", 1, 5);
        doc.badHouse("turn :;", 1, 5);
        doc.badHouse("turn 9/;", 1, 6);
        doc.of("SIGNS ; < > =");
        good("turn 5;", 0);
        for (String sign : List.of("<", ">", "=")) {
            doc.badHouse("turn 5" + sign, 2, 6);
        }
        for (String none : List.of(":", "?", ",", ".")) {
            doc.badHouse("turn 5" + none, 1, 6);
        }
    }

    private void turnIs(String text, int turn) {
        SilentTurn x = new SilentTurn();
        int monks = Checks.house(x, text);
        doc.due(text, monks, turn < 0 ? -1 : 0);
        doc.gives(text, x, x.told(3), turn < 0 ? 10 : turn);
    }

    // What each of the 256 bytes is, where a PART must begin and between a WORD and a NUMBER.
    private void everyByte(char c) {
        boolean blank = c == 10 || c == 32;
        boolean digit = c >= '0' && c <= '9';
        boolean letter = c >= 'a' && c <= 'z';
        boolean sign = c == ';' || c == '<' || c == '>' || c == '=';
        if (blank) {
            good(c + "turn 7;", 0);
            good("turn" + c + "7;", 0);
        } else {
            doc.badHouse(c + "turn 7;", digit || letter || sign ? 2 : 1, 0);
        }
        if (digit) {
            good("turn" + c + "7;", 0);
        } else if (!blank) {
            doc.badHouse("turn" + c + "7;", letter || sign ? 2 : 1, letter ? 0 : 4);
        }
    }

    private void grammar() {
        doc.of("HOUSE: {PART}.");
        good("", 0);
        good(" \n", 0);
        good(T, 0);
        good("turn 5;" + T + M + "odds 5;" + N, 2);
        doc.badHouse(T + ";", 2, T.length());
        doc.badHouse(T + "end;", 2, T.length());
        doc.of("PART: turn NUMBER ; or odds NUMBER ;");
        part("", "turn 5 ;");
        part("", "odds 5 ;");
        doc.of("or topic NAME cost NUMBER ;");
        part("", "topic a cost 5 ;");
        doc.of("or monk NAME breath NUMBER [rest NUMBER] [asleep] ;");
        part("", "monk a breath 5 ;");
        part("", "monk a breath 5 rest 5 ;");
        part("", "monk a breath 5 asleep ;");
        part("", "monk a breath 5 rest 5 asleep ;");
        doc.badHouse("monk a breath 5 asleep rest 5;", 2, 23);
        doc.badHouse("monk a rest 5 breath 5;", 2, 7);
    }

    private void pairsInGrammar() {
        doc.of("or follows NAME NAME ; or roster NAME NAME ; or hears NAME NAME ;");
        part(T, "follows t t ;");
        part(T + M, "roster m t ;");
        part(M + N, "hears m n ;");
        doc.of("({ } any number of times, [ ] perhaps.)");
        good(T + "follows t t;".repeat(70), 0);
        doc.badHouse("monk a breath 5 rest 5 rest 5;", 2, 23);
        doc.badHouse("monk a breath 5 asleep asleep;", 2, 23);
    }

    // A PART is taken; cut behind each TOKEN, or with another one in a TOKEN's place, it is a FAULT there.
    private void part(String ahead, String part) {
        good(ahead + part, ahead.split("monk", -1).length - 1 + (part.startsWith("monk") ? 1 : 0));
        String[] tokens = part.split(" ");
        int place = ahead.length();
        for (String token : tokens) {
            String before = (ahead + part).substring(0, place);
            String behind = (ahead + part).substring(place + token.length());
            if (place > ahead.length()) {
                doc.badHouse(before, 2, place);
            }
            doc.badHouse(before + "<" + behind, 2, place);
            doc.badHouse(before + "stop" + behind, 2, place);
            doc.badHouse(before + "!" + behind, 1, place);
            place += token.length() + 1;
        }
    }

    private void names() {
        doc.of("NAME: a WORD of 1 to 8 letters");
        good("monk a breath 1;monk abcdefgh breath 1;topic zzzzzzzz cost 1;roster abcdefgh zzzzzzzz;", 2);
        doc.badHouse("monk abcdefghi breath 1;", 2, 5);
        doc.badHouse("topic abcdefghi cost 1;", 2, 6);
        doc.badHouse("topic 8 cost 1;", 2, 6);
        doc.badHouse("topic cost 1;", 2, 6);
        doc.of("that is none of turn, odds, topic, cost, monk, breath, rest, asleep, follows, roster, hears, minute, change, "
                + "wake, sleep, any, when, silent, last, paused, loop, end, stop.");
        for (String word : KEPT) {
            doc.badHouse("topic " + word + " cost 1;", 2, 6);
            doc.badHouse("monk " + word + " breath 1;", 2, 5);
            doc.badHouse(T + "follows t " + word + ";", 2, 25);
            if (word.length() < 8) {
                good("monk " + word + "x breath 1;topic x" + word + " cost 1;", 1);
            }
            String cut = word.substring(1);
            if (!KEPT.contains(cut)) {
                good("monk " + cut + " breath 1;", 1);
            }
        }
        doc.of("One NAME is of one thing alone.");
        doc.badHouse(T + "topic t cost 2;", 3, 21);
        doc.badHouse(T + "monk t breath 2;", 3, 20);
        doc.badHouse(M + "topic m cost 2;", 3, 22);
        doc.badHouse(M + "monk m breath 2;", 3, 21);
        doc.badHouse("topic abcdefgh cost 1;monk abcdefgh breath 1;", 3, 27);
        good("topic abcdefgh cost 1;monk abcdefgg breath 1;monk bbcdefgh breath 1;monk abcdefg breath 1;", 3);
    }

    private void rules() {
        doc.of("TURN (1 to 99; 10 without).");
        toldIs("turn 1;", 3, 1);
        toldIs("turn 99;", 3, 99);
        toldIs("", 3, 10);
        doc.badHouse("turn 0;", 4, 5);
        doc.badHouse("turn 100;", 4, 5);
        doc.of("ODDS (0 to 16; 1 without).");
        toldIs("odds 0;", 4, 0);
        toldIs("odds 16;", 4, 16);
        toldIs("", 4, 1);
        doc.badHouse("odds 17;", 4, 5);
    }

    private void toldIs(String text, int what, int want) {
        SilentTurn x = Checks.made("turn 50;odds 5;");
        Checks.house(x, text);
        doc.gives("told " + what + " of '" + text + "'", x, x.told(what), want);
    }

    private static String topics(int many) {
        StringBuilder text = new StringBuilder();
        for (int i = 0; i < many; i++) {
            text.append("topic ").append((char) ('a' + i)).append(" cost 1;");
        }
        return text.toString();
    }

    private static String monks(int many) {
        StringBuilder text = new StringBuilder();
        for (int i = 0; i < many; i++) {
            text.append("monk ").append((char) ('p' + i)).append(" breath 1;");
        }
        return text.toString();
    }

    private void topicsAndMonks() {
        doc.of("TOPICS, at most 6:");
        toldIs(topics(6), 0, 6);
        doc.badHouse(topics(7), 6, topics(6).length());
        doc.of("COST (0 to 20).");
        SilentTurn x = Checks.made("topic a cost 0;topic b cost 20;");
        doc.gives("0", x, x.topic(0, 0), 0);
        doc.gives("20", x, x.topic(1, 0), 20);
        doc.badHouse("topic a cost 21;", 4, 13);
        doc.of("MONKS, at most 7:");
        toldIs(monks(7), 1, 7);
        doc.badHouse(monks(8), 6, monks(7).length());
    }

    private void breathAndRest() {
        doc.of("BREATH (0 to 99), which is the most he ever has,");
        SilentTurn x = Checks.made("monk a breath 0;monk b breath 99;");
        for (int what = 0; what <= 1; what++) {
            doc.gives("0", x, x.monk(0, what), 0);
            doc.gives("99", x, x.monk(1, what), 99);
        }
        x.minute(5);
        doc.gives("0 by rest", x, x.monk(0, 0), 0);
        doc.gives("99 by rest", x, x.monk(1, 0), 99);
        doc.no("1", x, x.breathe(0, 1), 1);
        doc.no("100", x, x.breathe(1, 100), 1);
        doc.badHouse("monk a breath 100;", 4, 14);
        doc.of("REST (0 to 9; 1 without),");
        x = Checks.made("monk a breath 50 rest 0;monk b breath 50 rest 9;monk c breath 50;monk d breath 50 asleep;");
        int[] rests = {0, 9, 1, 1};
        for (int i = 0; i < rests.length; i++) {
            doc.gives("rest " + i, x, x.monk(i, 2), rests[i]);
            x.breathe(i, 0);
        }
        x.minute(1);
        for (int i = 0; i < rests.length; i++) {
            doc.gives("rested " + i, x, x.monk(i, 0), rests[i]);
        }
        doc.badHouse("monk a breath 5 rest 10;", 4, 21);
        doc.of("awake, or ASLEEP.");
        x = Checks.made("monk a breath 5 asleep;monk b breath 5;monk c breath 5 rest 2 asleep;monk d breath 5 rest 2;");
        doc.gives("awake", x, x.told(8), 10);
        for (int i = 0; i < 4; i++) {
            doc.gives("awake " + i, x, x.monk(i, 3), i % 2);
        }
    }

    private void follows() {
        doc.of("FOLLOWS: the second TOPIC may follow the first");
        SilentTurn x = Checks.made(topics(3) + "follows b a;");
        doc.gives("behind b", x, x.topic(1, 1), 1);
        doc.gives("a behind", x, x.topic(0, 2), 2);
        doc.gives("behind a", x, x.topic(0, 1), 0);
        doc.gives("b behind", x, x.topic(1, 2), 0);
        doc.of("(it may be the same; told again: nothing more).");
        x = Checks.made(topics(2) + "follows b b;follows b b;follows b a;follows b a;");
        doc.gives("behind b", x, x.topic(1, 1), 3);
        doc.gives("behind a", x, x.topic(0, 1), 0);
    }

    private void rosterAndEars() {
        doc.of("ROSTER, at most 12 ENTRIES, as told: a MONK, a TOPIC.");
        String roster = "roster p a;roster q b;roster p b;".repeat(4);
        SilentTurn x = Checks.made(topics(2) + monks(2) + roster);
        doc.gives("entries", x, x.told(2), 12);
        for (int i = 0; i < 12; i++) {
            doc.gives("monk of " + i, x, x.entry(i, 0), i % 3 == 1 ? 1 : 0);
            doc.gives("topic of " + i, x, x.entry(i, 1), i % 3 == 0 ? 0 : 1);
        }
        String all = topics(2) + monks(2) + roster;
        doc.badHouse(all + "roster p a;", 6, all.length());
        doc.of("HEARS: two MONKS can hear each other at night");
        x = Checks.made(monks(3) + "hears r p;");
        int[] ears = {4, 0, 1};
        for (int i = 0; i < 3; i++) {
            doc.gives("ears of " + i, x, x.monk(i, 6), ears[i]);
        }
        doc.of("(told again, or the other way round: nothing more).");
        x = Checks.made(monks(3) + "hears r p;hears r p;hears p r;hears r p;");
        for (int i = 0; i < 3; i++) {
            doc.gives("ears of " + i, x, x.monk(i, 6), ears[i]);
        }
    }

    private void numbering() {
        doc.of("All are numbered as they stand;");
        SilentTurn x = Checks.made("monk z breath 7;topic y cost 6;monk a breath 8;topic b cost 5;monk m breath 9;");
        for (int i = 0; i < 3; i++) {
            doc.gives("monk " + i, x, x.monk(i, 0), 7 + i);
        }
        doc.gives("topic 0", x, x.topic(0, 0), 6);
        doc.gives("topic 1", x, x.topic(1, 0), 5);
        doc.of("what a PART names must be told ahead.");
        doc.badHouse("follows t t;" + T, 3, 8);
        doc.badHouse(T + "follows t u;topic u cost 1;", 3, 25);
        doc.badHouse(M + "roster m t;" + T, 3, 25);
        doc.badHouse(T + "roster m t;" + M, 3, 22);
        doc.badHouse(M + "hears m n;" + N, 3, 24);
        doc.badHouse(M + "hears n m;" + N, 3, 22);
    }

    private void faultOrder() {
        doc.of("FAULTS, the first along the text (of one TOKEN the least kind):");
        doc.badHouse("turn 0; ! x", 4, 5);
        doc.badHouse("! turn 0;", 1, 0);
        doc.badHouse("turn 5 x !", 2, 7);
        doc.badHouse(T + "topic t cost 99;", 3, 21);
        doc.badHouse("turn 5;turn 0;", 5, 7);
        doc.badHouse(topics(6) + "topic a cost 99;", 6, topics(6).length());
        doc.badHouse("turn 5;odds 17;turn 5;", 4, 12);
        doc.badHouse("topic 99999 cost 1;", 1, 6);
        doc.badHouse(M + "hears m 99999;", 1, 24);
        doc.badHouse("topic 9999 cost 1;", 2, 6);
    }

    private void noTokensAndPlaces() {
        doc.of("1 no TOKEN begins so (a NUMBER of 5 digits and more: at its first).");
        doc.badHouse("turn 10000;", 1, 5);
        doc.badHouse("turn 00001;", 1, 5);
        doc.badHouse("turn 99999999999999999999;", 1, 5);
        doc.badHouse("turn" + "7".repeat(5) + ";", 1, 4);
        doc.badHouse("turn 5; #", 1, 8);
        doc.badHouse("turn 5;\t", 1, 7);
        doc.of("2 it can't stand there (the end: the text's length;");
        doc.badHouse("turn", 2, 4);
        doc.badHouse("turn \n ", 2, 7);
        doc.badHouse("turn 5", 2, 6);
        doc.badHouse("7", 2, 0);
        doc.badHouse("name", 2, 0);
        doc.badHouse("cost 5;", 2, 0);
        doc.of("a WORD of 9 letters and more where a NAME must stand).");
        doc.badHouse("topic abcdefghi cost 1;", 2, 6);
        doc.badHouse("topic " + "abc".repeat(20) + " cost 1;", 2, 6);
        doc.badHouse("monk asleepasl breath 1;", 2, 5);
        doc.badHouse(T + "follows ttttttttt t;", 2, 23);
        doc.badHouse(T + "follows t ttttttttt;", 2, 25);
        doc.badHouse(M + "hears m mmmmmmmmm;", 2, 24);
        // Nine letters whose last eight, or first eight, are a NAME's.
        doc.badHouse("topic abcdefgh cost 1;follows xabcdefgh abcdefgh;", 2, 30);
        doc.badHouse("topic abcdefgh cost 1;follows abcdefgh abcdefghx;", 2, 39);
    }

    private void faultsOfNames() {
        doc.of("3 a new NAME that is taken;");
        doc.badHouse(T + M + "topic m cost 1;", 3, 37);
        doc.badHouse(T + M + "monk t breath 1;", 3, 36);
        doc.of("a NAME that is no such one told ahead.");
        doc.badHouse(T + M + "follows x t;", 3, 39);
        doc.badHouse(T + M + "follows m t;", 3, 39);
        doc.badHouse(T + M + "follows t m;", 3, 41);
        doc.badHouse(T + M + "roster t t;", 3, 38);
        doc.badHouse(T + M + "roster m m;", 3, 40);
        doc.badHouse(T + M + "hears t m;", 3, 37);
        doc.badHouse(T + M + "hears m t;", 3, 39);
        doc.badHouse(T + M + "hears x x;", 3, 37);
    }

    private void faultsOfNumbers() {
        doc.of("4 a NUMBER that can't be.");
        doc.badHouse("turn 9999;", 4, 5);
        doc.badHouse("odds 9999;", 4, 5);
        doc.badHouse("topic t cost 9999;", 4, 13);
        doc.badHouse("monk m breath 9999;", 4, 14);
        doc.badHouse("monk m breath 9 rest 9999;", 4, 21);
    }

    private void toldAgain() {
        doc.of("5 turn, odds told already (at that WORD);");
        doc.badHouse("turn 5;turn", 5, 7);
        doc.badHouse("turn 10; turn 10;", 5, 9);
        doc.badHouse("odds 1;turn 5;odds 1;", 5, 14);
        doc.of("hears of a MONK and himself (at the second NAME).");
        doc.badHouse(M + "hears m m;", 5, 24);
        doc.badHouse(M + N + "hears n n", 5, 40);
    }

    private void tooMany() {
        doc.of("6 a seventh topic, an eighth monk, a 13th roster (at that WORD).");
        String topics = topics(6);
        doc.badHouse(topics + "topic", 6, topics.length());
        String monks = monks(7);
        doc.badHouse(monks + "\nmonk !", 6, monks.length() + 1);
        String rosters = T + M + "roster m t;".repeat(12);
        doc.badHouse(rosters + "roster x", 6, rosters.length());
        good(topics + monks + "roster p a;".repeat(12) + "turn 5;odds 5;follows a a;hears p q;", 7);
    }

    private void inPlaceOfTheOld() {
        doc.of("A HOUSE that is taken is there in place of that ahead;");
        SilentTurn x = full();
        doc.gives("a house", x, Checks.house(x, "monk z breath 3;topic y cost 2;"), 1);
        int[] told = {1, 1, 0, 10, 1};
        for (int what = 0; what < told.length; what++) {
            doc.gives("told " + what, x, x.told(what), told[what]);
        }
        doc.gives("cost", x, x.topic(0, 0), 2);
        doc.gives("nothing follows", x, x.topic(0, 1), 0);
        doc.gives("hears nobody", x, x.monk(0, 6), 0);
        doc.none("an old name", x, Checks.days(x, "wake q;"), 9);
        x = full();
        doc.gives("an empty house", x, x.house(0), 0);
        doc.gives("no topics", x, x.told(0), 0);
        doc.gives("no entries", x, x.told(2), 0);
        inPlaceOfMany();
    }

    // Whatever was read ahead, whole or not, nothing of it is left.
    private void inPlaceOfMany() {
        String plain = T + "topic u cost 2;" + M + N;
        String want = Portrait.ofHouse(Checks.made(plain));
        SilentTurn x = new SilentTurn();
        for (int i = 0; i < 4; i++) {
            doc.gives("a plain house", x, Checks.house(x, plain), 2);
            doc.due("as a new one", Portrait.ofHouse(x).compareTo(want), 0);
            x.minute(13);
            Checks.house(x, Checks.FULL);
            x.minute(99);
            if (i > 1) {
                doc.none("half a house", x, Checks.house(x, Checks.FULL + "turn 3;"), 9);
            }
        }
    }

    private void freshlyTaken() {
        doc.of("it is MINUTE 0, MONK 0 is the SILENT one, no TOPIC was the LAST, there was no PAUSE;");
        SilentTurn x = full();
        doc.due("a last one ahead", x.last() >= 0 ? 1 : 0, 1);
        Checks.house(x, Checks.SMALL);
        for (int what = 5; what <= 7; what++) {
            doc.gives("told " + what, x, x.told(what), 0);
        }
        doc.gives("silent", x, x.silent(), 0);
        doc.none("last", x, x.last(), 6);
        for (int i = 0; i < 3; i++) {
            doc.gives("spoke", x, x.monk(i, 4), 0);
            doc.gives("was silent", x, x.monk(i, 5), 0);
        }
        doc.due("as the first was", Portrait.ofHouse(x).compareTo(Portrait.ofHouse(Checks.made(Checks.SMALL))), 0);
        doc.of("there are no DAYS.");
        x = full();
        doc.gives("days ahead", x, x.live(0), 1);
        Checks.house(x, Checks.SMALL);
        doc.none("no days", x, x.live(0), 6);
        doc.no("no days", x, x.mean(0, 1), 6);
    }

    // Much has become of it: minutes, pauses, help, another silent one, a last topic, days.
    private static SilentTurn full() {
        SilentTurn x = Checks.made(Checks.SMALL, "minute 1;");
        x.minute(7);
        x.change(1);
        return x;
    }
}
