import java.util.List;

/** The edges that the Terms name for DAYS, their FAULTS, how they are LIVED, MARKS and FRACTIONS. */
final class DaysEdges {
    private static final String SMALL = Checks.SMALL;
    private static final String THREE = "loop 1;when silent p;loop 1;";
    private final Sentences doc;

    DaysEdges(Sentences doc) {
        this.doc = doc;
    }

    void all() {
        doc.inTerms();
        length();
        grammar();
        tests();
        faults();
        faultsOfNamesAndNumbers();
        tooMuch();
        minutesAndChanges();
        any();
        missed();
        comparingBreath();
        comparingPauses();
        loops();
        threeHundred();
        seeds();
        marks();
        takenBack();
        fractions();
    }

    private void good(String text, int steps) {
        SilentTurn x = Checks.made(SMALL);
        doc.gives("days '" + text + "'", x, Checks.days(x, text), steps);
        doc.faultIs("days '" + text + "'", x, 0, -1);
    }

    private void bad(String text, int kind, int place) {
        doc.badDays(SMALL, text, kind, place);
    }

    private void lives(SilentTurn x, int steps, int... lived) {
        doc.gives("steps done", x, x.live(0), steps);
        for (int what = 0; what < lived.length; what++) {
            doc.gives("lived " + what, x, x.lived(what), lived[what]);
        }
    }

    private void length() {
        doc.of("DAYS are a TEXT of at most 300 bytes, of such TOKENS (none at first).");
        SilentTurn x = Checks.made(SMALL);
        doc.none("none at first", x, x.live(0), 6);
        String text = "any;" + "\n".repeat(300 - 8) + "any;";
        Checks.feed(x, text + "    ");
        doc.none("301", x, x.days(301), 1);
        doc.gives("300", x, x.days(300), 2);
        bad(text.substring(0, 299), 2, 299);
        good("minute5;when breath p<5;end;loop\n0002 ; end ;", 3);
        bad("minute 00005;", 1, 7);
        bad("minute\t5;", 1, 6);
        bad("Minute 5;", 1, 0);
    }

    // A STEP is taken; cut behind each TOKEN, or with another one in a TOKEN's place, it is a FAULT there.
    private void step(String text, int steps) {
        good(text, steps);
        String[] tokens = text.split(" ");
        int place = 0;
        for (String token : tokens) {
            String before = text.substring(0, place);
            String behind = text.substring(place + token.length());
            if (place > 0) {
                bad(before, 2, place);
            }
            bad(before + "turn" + behind, 2, place);
            bad(before + "#" + behind, 1, place);
            place += token.length() + 1;
        }
    }

    private void grammar() {
        doc.of("DAYS: {STEP}.");
        good("", 0);
        good("  \n", 0);
        good("any;any;stop;any;", 4);
        bad("any;;", 2, 4);
        bad("p", 2, 0);
        doc.of("STEP: minute NUMBER ; or change NAME ; or wake NAME ; or sleep NAME ; or any ;");
        step("minute 5 ;", 1);
        step("change p ;", 1);
        step("wake r ;", 1);
        step("sleep q ;", 1);
        step("any ;", 1);
        doc.of("or when TEST ; {STEP} end ; or loop NUMBER ; {STEP} end ; or stop ;");
        step("loop 5 ; end ;", 1);
        step("loop 5 ; any ; any ; end ;", 3);
        step("when silent p ; end ;", 1);
        step("when silent p ; any ; stop ; end ;", 3);
        step("stop ;", 1);
    }

    private void tests() {
        doc.of("TEST: silent NAME, or last NAME,");
        step("when silent p ; end ;", 1);
        step("when last a ; end ;", 1);
        bad("when silent ; end ;", 2, 12);
        bad("when p ; end ;", 2, 5);
        bad("when asleep p ; end ;", 2, 5);
        doc.of("or breath NAME COMPARES NUMBER, or paused COMPARES NUMBER.");
        step("when breath p < 5 ; end ;", 1);
        step("when paused < 5 ; end ;", 1);
        bad("when breath < 5 ; end ;", 2, 12);
        bad("when paused p < 5 ; end ;", 2, 12);
        doc.of("COMPARES: < or > or =");
        for (String sign : List.of("<", ">", "=")) {
            good("when breath p " + sign + " 5;end;", 1);
            good("when paused" + sign + "5;end;", 1);
        }
        bad("when paused ; 5;end;", 2, 12);
        bad("when paused <= 5;end;", 2, 13);
        bad("when paused 5;end;", 2, 12);
        bad("when paused ! 5;end;", 1, 12);
    }

    private void faults() {
        doc.of("FAULTS: 1, 2 as above");
        bad("any;!", 1, 4);
        bad("minute 12345;", 1, 7);
        bad("minute", 2, 6);
        bad("minute \n", 2, 8);
        bad("wake abcdefghi;", 2, 5);
        bad("wake stop;", 2, 5);
        bad("topic t cost 1;", 2, 0);
        bad("minute 0 !", 4, 7);
        bad("any ! minute 0;", 1, 4);
        doc.of("(an end without a beginning; the text's end ahead of an end: 2).");
        bad("end;", 2, 0);
        bad("any;end;", 2, 4);
        bad("loop 1;end;end;", 2, 11);
        bad("loop 1;", 2, 7);
        bad("loop 1;any;", 2, 11);
        bad("loop 1;when silent p;end; ", 2, 26);
        bad("loop 1;end", 2, 10);
    }

    private void faultsOfNamesAndNumbers() {
        doc.of("3 a NAME that is no such one (a TOPIC behind last, else MONKS).");
        bad("change x;", 3, 7);
        bad("change a;", 3, 7);
        bad("wake x;", 3, 5);
        bad("wake b;", 3, 5);
        bad("sleep x;", 3, 6);
        bad("sleep c;", 3, 6);
        bad("when silent x;end;", 3, 12);
        bad("when silent a;end;", 3, 12);
        bad("when breath x<5;end;", 3, 12);
        bad("when breath a<5;end;", 3, 12);
        bad("when last x;end;", 3, 10);
        bad("when last p;end;", 3, 10);
        good("when last c;end;when silent r;end;when breath r<5;end;change r;wake r;sleep r;", 6);
        doc.of("4 a NUMBER that can't be.");
        bad("minute 0;", 4, 7);
        bad("minute 61;", 4, 7);
        bad("loop 0;end;", 4, 5);
        bad("loop 100;end;", 4, 5);
        bad("when breath p<100;end;", 4, 14);
    }

    private void tooMuch() {
        doc.of("6 a 31st STEP (at its WORD; end is none).");
        good("any;".repeat(30), 30);
        bad("any;".repeat(30) + "any", 6, 120);
        bad("any;".repeat(30) + "\nwhen !", 6, 121);
        good("loop 1;end;".repeat(20) + "any;".repeat(10), 30);
        bad("loop 1;end;".repeat(20) + "any;".repeat(10) + "stop;", 6, 260);
        good("any;".repeat(27) + THREE + "end;end;end;", 30);
        bad("any;".repeat(28) + THREE + "end;end;end;", 6, 112 + 21);
        bad("any;".repeat(30) + "end;", 2, 120);
        // Of one TOKEN the least kind.
        bad("any;".repeat(27) + THREE + "loop 1;", 6, 108 + THREE.length());
        doc.of("7 a when, loop within three others (at its WORD).");
        good(THREE + "any;end;end;end;", 4);
        bad(THREE + "loop", 7, THREE.length());
        bad(THREE + "when !", 7, THREE.length());
        bad(THREE + "end;loop 1;loop 1;", 7, THREE.length() + 11);
        good(THREE + "end;loop 1;end;when last a;end;end;end;" + THREE + "end;end;end;", 8);
    }

    private void minutesAndChanges() {
        doc.of("minute: so many (1 to 60);");
        SilentTurn x = Checks.made(SMALL, "minute 1;");
        lives(x, 1, 0, 1, 0, 0, 0);
        doc.gives("minute", x, x.told(5), 1);
        x = Checks.made(SMALL, "minute 60;");
        lives(x, 1, 0, 60);
        doc.gives("minute", x, x.told(5), 60);
        bad("minute 0;", 4, 7);
        bad("minute 61;", 4, 7);
        doc.of("change: he is the SILENT one;");
        x = Checks.made(SMALL, "change r;");
        lives(x, 1, 0, 0, 0, 0, 0);
        doc.gives("silent", x, x.silent(), 2);
    }

    // Seed 0: s is 11,329, 22,576, 40,209, 52,832; by 8 1,416, 2,822, 5,026, 6,604.
    private void any() {
        doc.of("any: a MONK by a draw by how many there are coughs: his BREATH is less by a draw by 8, 0 at least.");
        SilentTurn x = Checks.made("monk a breath 9;monk b breath 9;monk c breath 9;monk d breath 9;monk e breath 9;", "any;");
        lives(x, 1, 0, 0, 0, 0, 0);
        int[] one = {9, 9 - 6, 9, 9, 9};
        for (int i = 0; i < one.length; i++) {
            doc.gives("1,416 by 5 is 1, 2,822 by 8 is 6: " + i, x, x.monk(i, 0), one[i]);
        }
        x = Checks.made("monk a breath 6;", "any;");
        x.live(0);
        doc.gives("6 less 6", x, x.monk(0, 0), 0);
        x = Checks.made("monk a breath 5 asleep;", "any;");
        x.live(0);
        doc.gives("0 at least", x, x.monk(0, 0), 0);
        x = Checks.made("monk a breath 99;monk b breath 99;", "any;any;");
        x.live(0);
        doc.gives("6, then 6,604 by 8: 4", x, x.monk(0, 0), 99 - 6 - 4);
        doc.gives("b", x, x.monk(1, 0), 99);
    }

    private static SilentTurn atMinute(int minute, String house, String days) {
        SilentTurn x = Checks.made(house, days);
        for (int left = minute; left > 0; left -= Math.min(99, left)) {
            x.minute(Math.min(99, left));
        }
        return x;
    }

    private void missed() {
        doc.of("What can't be is MISSED: MINUTES beyond 9,999 (as a whole),");
        SilentTurn x = atMinute(9940, "", "minute 60;minute 59;minute 1;");
        lives(x, 3, 2, 59, 59, 0, 0);
        doc.gives("60 would be one too many", x, x.told(5), 9999);
        x = atMinute(9939, "", "minute 60;minute 1;");
        lives(x, 2, 1, 60, 60, 0, 0);
        doc.gives("60 are just enough", x, x.told(5), 9999);
        x = atMinute(9950, "", "minute 60;");
        lives(x, 1, 1, 0, 0, 0, 0);
        doc.gives("none of them goes by", x, x.told(5), 9950);
        doc.of("a change to who is it, a wake of who is awake, a sleep of who is asleep,");
        missesOne("change p;");
        missesOne("wake p;");
        missesOne("sleep r;");
        x = Checks.made(SMALL, "change q;change q;wake r;wake r;sleep p;sleep p;");
        lives(x, 6, 3, 0, 0, 0, 0);
        doc.gives("silent", x, x.silent(), 1);
        doc.gives("awake", x, x.told(8), 6);
        doc.of("any without MONKS (no draws).");
        x = Checks.made("topic t cost 1;", "any;any;");
        lives(x, 2, 2, 0, 0, 0, 0);
    }

    private void missesOne(String step) {
        SilentTurn x = Checks.made(SMALL, step);
        String before = Portrait.ofHouse(x);
        lives(x, 1, 1, 0, 0, 0, 0);
        doc.due(step + " changes nothing", Portrait.ofHouse(x).compareTo(before), 0);
    }

    // The step within wakes r, who is asleep: it tells whether it was come to.
    private void holds(SilentTurn x, String test, boolean want) {
        x.mark();
        Checks.days(x, "when " + test + ";wake r;end;");
        doc.gives(test, x, x.live(0), want ? 2 : 1);
        doc.gives(test, x, x.monk(2, 3), want ? 1 : 0);
        x.undo();
    }

    private void comparingBreath() {
        doc.of("breath: 0 to 99;");
        good("when breath p<0;end;when breath p=99;end;when breath p>0099;end;", 3);
        bad("when breath p<100;end;", 4, 14);
        SilentTurn x = Checks.made(SMALL);
        holds(x, "breath p = 10", true);
        holds(x, "breath p < 10", false);
        holds(x, "breath p > 10", false);
        holds(x, "breath p < 11", true);
        holds(x, "breath p > 9", true);
        holds(x, "breath q = 10", false);
        x.breathe(0, 0);
        holds(x, "breath p = 0", true);
        holds(x, "breath p < 0", false);
        holds(x, "breath p > 0", false);
    }

    private void comparingPauses() {
        doc.of("paused (how many PAUSES there were): 0 to 9,999.");
        SilentTurn x = Checks.made(SMALL);
        good("when paused<0;end;when paused=9999;end;", 2);
        bad("when paused<10000;end;", 1, 12);
        holds(x, "paused = 0", true);
        holds(x, "paused < 1", true);
        holds(x, "paused > 0", false);
        x = atMinute(9999, "monk p breath 1;monk q breath 1;monk r breath 1 asleep;", "");
        holds(x, "paused = 9999", true);
        holds(x, "paused > 9998", true);
        holds(x, "paused > 9999", false);
        holds(x, "paused < 9999", false);
        x = Checks.made(SMALL);
        x.minute(6);
        // Those ahead of the DAYS count, too.
        holds(x, "paused = 2", true);
        holds(x, "silent r", true);
        holds(x, "silent p", false);
        holds(x, "last a", false);
        x.minute(1);
        holds(x, "last a", true);
        holds(x, "last b", false);
    }

    private void loops() {
        doc.of("loop n (1 to 99): as often.");
        SilentTurn x = Checks.made("", "loop 1;minute 1;end;");
        lives(x, 2, 0, 1, 1, 0, 0);
        x = Checks.made("", "loop 99;minute 1;end;");
        lives(x, 100, 0, 99, 99, 0, 0);
        x = Checks.made("", "loop 2;loop 3;minute 1;end;end;");
        lives(x, 1 + 2 * (1 + 3), 0, 6, 6, 0, 0);
        lives(x, 1 + 2 * (1 + 3), 0, 6, 6, 0, 0);
        lives(Checks.made("", "loop1;end;".repeat(30)), 30, 0, 0, 0, 0, 0);
        lives(Checks.made("", "loop1;end;".repeat(28) + "loop9;minute 1;end;"), 28 + 1 + 9, 0, 9, 9, 0, 0);
        // A loop that was left in its midst has no rounds to go in what is lived next.
        x = Checks.made(SMALL, "loop 9;stop;end;");
        lives(x, 2, 0, 0, 0, 0, 0);
        lives(x, 2, 0, 0, 0, 0, 0);
        Checks.days(x, "when silent p;minute 1;end;");
        lives(x, 2, 0, 1, 0, 0, 0);
        bad("loop 0;end;", 4, 5);
        bad("loop 100;end;", 4, 5);
    }

    private void threeHundred() {
        doc.of("At most 300 STEPS (when, loop count as one each time they are come to from ahead; end does not).");
        // The loop and 99 times 3 are 298.
        String most = "loop 99;minute 1;minute 1;minute 1;end;";
        lives(Checks.made("", most), 298, 0, 297, 297, 0, 0);
        lives(Checks.made("", most + "minute 1;minute 1;"), 300, 0, 299, 299, 0, 0);
        lives(Checks.made("", most + "minute 1;minute 1;minute 1;"), 300, 0, 299, 299, 0, 1);
        lives(Checks.made("", most + "minute 1;loop 9;end;"), 300, 0, 298, 298, 0, 0);
        lives(Checks.made("", most + "minute 1;loop 9;minute 1;end;"), 300, 0, 298, 298, 0, 1);
        lives(Checks.made("", most + "minute 1;when paused<9;minute 1;end;"), 300, 0, 298, 298, 0, 0);
        lives(Checks.made("", most + "minute 1;when paused>9;minute 1;end;"), 300, 0, 298, 298, 0, 1);
        lives(Checks.made("", most + "minute 1;stop;minute 1;"), 300, 0, 298, 298, 0, 0);
        // Each round of the outer loop comes to the when and to the inner loop anew.
        lives(Checks.made("", "loop 3;when paused>9;minute 1;end;loop 2;minute 1;end;end;"), 1 + 3 * (1 + 1 + 2), 0, 6);
        lives(Checks.made("", "loop 99;loop 99;end;end;"), 100, 0, 0, 0, 0, 0);
        lives(Checks.made("", "loop 99;loop 99;loop 99;end;end;end;"), 300, 0, 0, 0, 0, 1);
        lives(Checks.made("", "loop 99;loop 3;minute 1;end;end;"), 300, 0, 224, 224, 0, 1);
    }

    private void seeds() {
        doc.of("LIVED by a seed (0 to 9,999): all is as it is then.");
        SilentTurn x = Checks.made(SMALL, "minute 2;wake r;change q;");
        doc.gives("0", x, x.live(0), 3);
        doc.gives("9,999", x, x.live(9999), 3);
        doc.none("-1", x, x.live(-1), 1);
        doc.none("10,000", x, x.live(10000), 1);
        doc.gives("the minute", x, x.told(5), 4);
        doc.gives("awake", x, x.told(8), 7);
        doc.gives("silent", x, x.silent(), 1);
        doc.of("Draws: s, at first the seed, becomes what is left of s times 3,119 and 11,329 by 65,536;");
        // By a seed s is, behind its first and second draw: 0: 11,329, 22,576; 1: 14,448, 51,409;
        // 2: 17,567, 14,706; 3: 20,686, 43,539; 9,999: 3,074, 30,879.
        int[] seeds = {0, 1, 2, 3, 9999};
        int[] monks = {0, 0, 1, 1, 0};
        int[] less = {2822 % 8, 6426 % 8, 1838 % 8, 5442 % 8, 3859 % 8};
        for (int i = 0; i < seeds.length; i++) {
            drawn(seeds[i], monks[i], less[i]);
        }
        doc.of("the draw by n is the rest of s by 8, rounded down, by n.");
        // Seed 2: 17,567 by 8 is 2,195 and 7 left; by 7 MONKS 4 is left.
        x = Checks.made("monk a breath 9;monk b breath 9;monk c breath 9;monk d breath 9;monk e breath 9;monk f breath 9;"
                + "monk g breath 9;", "any;");
        x.live(2);
        for (int i = 0; i < 7; i++) {
            doc.gives("breath of " + i, x, x.monk(i, 0), i == 4 ? 9 - 6 : 9);
        }
    }

    private void drawn(int seed, int monk, int less) {
        SilentTurn x = Checks.made("monk a breath 50;monk b breath 50;", "any;");
        // Whatever was drawn ahead, the seed is where it begins.
        for (int round = 1; round <= 2; round++) {
            x.live(seed);
            doc.gives("seed " + seed, x, x.monk(monk, 0), 50 - round * less);
            doc.gives("seed " + seed + ", the other", x, x.monk(1 - monk, 0), 50);
        }
    }

    private void marks() {
        doc.of("MARKS, at most 3:");
        SilentTurn x = new SilentTurn();
        for (int i = 1; i <= 3; i++) {
            doc.gives("mark", x, x.mark(), i);
        }
        doc.none("a fourth", x, x.mark(), 4);
        doc.gives("undo", x, x.undo(), 2);
        doc.gives("a third again", x, x.mark(), 3);
        doc.of("the HOUSE with all that became of it, the DAYS are kept as they are;");
        x = Checks.made(SMALL, "minute 1;");
        x.minute(7);
        x.enter(2, 2);
        String then = Portrait.ofHouse(x);
        x.mark();
        doc.due("a mark changes nothing", Portrait.ofHouse(x).compareTo(then), 0);
        x.minute(50);
        x.price(0, 9);
        Checks.days(x, "minute 2;");
        Checks.house(x, "monk z breath 1;");
        x.undo();
        doc.due("as it was", Portrait.ofHouse(x).compareTo(then), 0);
        x.live(0);
        doc.gives("the days as they were", x, x.lived(1), 1);
        x = Checks.made(SMALL);
        x.mark();
        Checks.days(x, "minute 2;");
        x.undo();
        doc.none("no days, as there were none", x, x.live(0), 6);
        takenBackWhole();
    }

    private static SilentTurn fullWithDays() {
        SilentTurn x = Checks.made(Checks.FULL, "loop 3;when breath z>4;minute 2;end;when breath z<5;wake v;end;"
                + "when silent t;any;end;when last f;change w;end;when paused=1;sleep u;end;minute 1;end;minute 3;");
        x.change(6);
        x.minute(1);
        x.change(0);
        x.minute(1);
        return x;
    }

    private void takenBackWhole() {
        SilentTurn x = fullWithDays();
        for (int i = 0; i < 3; i++) {
            x.mark();
            Checks.days(x, "change z;sleep z;loop 2;when last a;any;end;end;wake y;when paused<3;stop;end;");
            x.live(i);
            if (i == 1) {
                Checks.house(x, SMALL);
                Checks.days(x, "minute 9;");
            }
            x.undo();
        }
        SilentTurn other = fullWithDays();
        doc.due("as it was", Portrait.ofHouse(x).compareTo(Portrait.ofHouse(other)), 0);
        for (int i = 0; i < 3; i++) {
            doc.due("the days as they were", x.live(i), other.live(i));
            for (int what = 0; what <= 4; what++) {
                doc.due("lived " + what, x.lived(what), other.lived(what));
            }
        }
        doc.due("all as by them", Portrait.ofHouse(x).compareTo(Portrait.ofHouse(other)), 0);
        String names = "change t;change z;when last a;end;when last f;end;";
        doc.gives("the names as they were", x, Checks.days(x, names), 4);
        doc.none("no other names", x, Checks.days(x, "change p;"), 9);
    }

    private void takenBack() {
        doc.of("all is taken back to the latest MARK, which is gone then.");
        SilentTurn x = Checks.made(SMALL);
        for (int i = 0; i < 3; i++) {
            x.mark();
            x.minute(1);
        }
        for (int i = 2; i >= 0; i--) {
            doc.gives("marks left", x, x.undo(), i);
            doc.gives("minute", x, x.told(5), i);
        }
        x.minute(5);
        doc.none("gone", x, x.undo(), 6);
        doc.gives("minute", x, x.told(5), 5);
    }

    private void fractions() {
        doc.of("FRACTIONS are told by top() and bottom() without a common divisor, the bottom above 0; 0 is 0 by 1.");
        SilentTurn x = new SilentTurn();
        doc.fraction("at first", x, 0, 1);
        x = Checks.made("odds 12;monk s breath 1;monk a breath 1;monk b breath 1;");
        x.coughs(2);
        doc.fraction("144 by 256", x, 9, 16);
        x.coughs(3);
        doc.fraction("0 by 256", x, 0, 1);
        x.coughs(0);
        doc.fraction("256 by 256", x, 1, 1);
        x = Checks.made("topic t cost 7;monk s breath 7 rest 0;monk m breath 7 rest 0;", "any;minute 1;");
        // m coughs, and has not breath enough, by seeds 2 and 3; by 0 and 1 it is s.
        x.mean(0, 4);
        doc.fraction("2 by 4", x, 1, 2);
        x.mean(0, 3);
        doc.fraction("1 by 3", x, 1, 3);
        x.mean(0, 2);
        doc.fraction("0 by 2", x, 0, 1);
        x.mean(2, 2);
        doc.fraction("2 by 2", x, 1, 1);
    }
}
