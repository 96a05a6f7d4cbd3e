/** Promises 54 to 57: COUPLES, COUGHS, BREATH in a TRAY; and so 3 and 4. */
public final class NightsTest {
    private static final Checks CHECK = new Checks();
    private static final String SEVEN = "monk a breath 1;monk b breath 2;monk c breath 3;monk d breath 4;"
            + "monk e breath 5;monk f breath 6;monk g breath 99;";

    public static void main(String[] args) {
        couples();
        coughs();
        manyCoughs();
        breathInTrays();
        CHECK.end();
    }

    private static void couplesAre(SilentTurn x, int set, int couples, int all) {
        CHECK.gives("couples of " + set, x, x.couples(set), couples);
        CHECK.gives("allRead of " + set, x, x.allRead(set), all);
    }

    private static void couples() {
        SilentTurn x = Checks.made(Checks.SMALL);
        int[] want = {0, 0, 0, 1, 0, 0, 1, 1};
        int[] all = {1, 0, 0, 1, 0, 0, 1, 0};
        for (int set = 0; set < 8; set++) {
            couplesAre(x, set, want[set], all[set]);
        }
        for (int wrong : new int[] {-1, 8, Integer.MIN_VALUE}) {
            CHECK.none("couples", x, x.couples(wrong), 1);
            CHECK.none("allRead", x, x.allRead(wrong), 1);
        }
        // A row of six: the first must not take the wrong one.
        SilentTurn row = Checks.made(SEVEN + "hears b a;hears b c;hears c d;hears d e;hears f e;hears g a;");
        couplesAre(row, 63, 3, 1);
        couplesAre(row, 127, 3, 0);
        couplesAre(row, 31, 2, 0);
        couplesAre(row, 63 - 1, 2, 0);
        couplesAre(row, 63 - 1 - 32, 2, 1);
        couplesAre(row, 63 - 4, 2, 0);
        // A star has one couple.
        couplesAre(Checks.made(SEVEN + "hears a b;hears a c;hears a d;hears a e;hears a f;hears a g;"), 127, 1, 0);
        SilentTurn all7 = Checks.made(SEVEN);
        for (int i = 0; i < 7; i++) {
            for (int j = i + 1; j < 7; j++) {
                all7.hear(i, j, true);
            }
        }
        couplesAre(all7, 127, 3, 0);
        couplesAre(all7, 126, 3, 1);
    }

    private static void coughsAre(SilentTurn x, int k, long top, long bottom) {
        CHECK.yes("coughs " + k, x, x.coughs(k));
        CHECK.fraction("coughs " + k, x, top, bottom);
    }

    private static void coughs() {
        SilentTurn x = Checks.made(Checks.SMALL);
        coughsAre(x, 0, 1, 1);
        coughsAre(x, 1, 1, 2);
        coughsAre(x, 2, 0, 1);
        x.wake(2, true);
        coughsAre(x, 1, 3, 4);
        CHECK.no("-1", x, x.coughs(-1), 1);
        CHECK.no("8", x, x.coughs(8), 1);
        CHECK.fraction("stays", x, 3, 4);
        coughsAre(x, 2, 1, 4);
        coughsAre(x, 7, 0, 1);
        x.rule(4, 0);
        coughsAre(x, 1, 0, 1);
        coughsAre(x, 0, 1, 1);
        x.rule(4, 16);
        coughsAre(x, 2, 1, 1);
        coughsAre(x, 3, 0, 1);
        x.rule(4, 3);
        coughsAre(x, 1, 256 - 169, 256);
        x.change(2);
        coughsAre(x, 2, 9, 256);
    }

    // 15/16 of not coughing, six of them; then all seven but the silent one asleep.
    private static void manyCoughs() {
        SilentTurn x = Checks.made(SEVEN);
        long all = 16777216;
        coughsAre(x, 6, 1, all);
        coughsAre(x, 5, 1 + 6 * 15, all);
        coughsAre(x, 1, all - 11390625, all);
        x.rule(4, 10);
        long least = 46656;
        coughsAre(x, 1, (all - least) / 64, all / 64);
    }

    private static void breathInTrays() {
        SilentTurn x = Checks.made(SEVEN);
        CHECK.none("no such", x, x.copyBreath(4), 1);
        CHECK.none("no such", x, x.copyBreath(-1), 1);
        CHECK.none("missing", x, x.copyBreath(0), 2);
        x.tray(0, 0, 6);
        CHECK.none("too short", x, x.copyBreath(0), 3);
        CHECK.gives("nothing came", x, x.read(0, 0), 0);
        for (int sort = 0; sort < 4; sort++) {
            x.tray(0, sort, 8);
            x.write(0, 7, 55);
            x.breathe(1, sort % 3);
            CHECK.gives("copy", x, x.copyBreath(0), 7);
            int[] want = {1, sort % 3, 3, 4, 5, 6, 99, 55};
            for (int i = 0; i < want.length; i++) {
                CHECK.gives("place " + i, x, x.read(0, i), want[i]);
            }
        }
    }
}
