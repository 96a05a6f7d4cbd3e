/** Promises 52 and 53: in how many ways what was heard can have been said, and who said it for sure. */
public final class HeardTest {
    private static final Checks CHECK = new Checks();

    public static void main(String[] args) {
        ways();
        theLastOne();
        turnsAndRest();
        wrongInputs();
        CHECK.end();
    }

    private static void hears(SilentTurn x, int... topics) {
        x.tray(0, 0, 4);
        for (int i = 0; i < topics.length; i++) {
            x.write(0, i, topics[i]);
        }
    }

    private static void ways() {
        SilentTurn x = Checks.made(Checks.SMALL);
        hears(x, 2, 0);
        CHECK.gives("none", x, x.heard(0, 0), 1);
        CHECK.gives("c", x, x.heard(0, 1), 1);
        CHECK.gives("c a", x, x.heard(0, 2), 1);
        CHECK.gives("q", x, x.sure(0, 2, 0), 1);
        CHECK.gives("q", x, x.sure(0, 2, 1), 1);
        x.wake(2, true);
        CHECK.gives("c a by q, r", x, x.heard(0, 2), 4);
        CHECK.none("who knows", x, x.sure(0, 2, 0), 6);
        CHECK.none("who knows", x, x.sure(0, 2, 1), 6);
        hears(x, 0, 1);
        CHECK.gives("a b", x, x.heard(0, 2), 2);
        CHECK.none("either", x, x.sure(0, 2, 0), 6);
        CHECK.gives("r for b", x, x.sure(0, 2, 1), 2);
        x.breathe(2, 6);
        x.price(0, 3);
        CHECK.gives("r has not breath for both", x, x.heard(0, 2), 1);
        CHECK.gives("so q said a", x, x.sure(0, 2, 0), 1);
        CHECK.gives("alone it can be both", x, x.heard(0, 1), 2);
        hears(x, 0, 0);
        CHECK.gives("a may not follow a", x, x.heard(0, 2), 0);
        CHECK.none("no way", x, x.sure(0, 2, 0), 6);
        CHECK.gives("nothing goes by", x, x.told(5), 0);
    }

    private static void theLastOne() {
        SilentTurn x = Checks.made(Checks.SMALL);
        x.wake(2, true);
        x.minute(1);
        hears(x, 2);
        CHECK.gives("c may not follow a", x, x.heard(0, 1), 0);
        hears(x, 1);
        CHECK.gives("b may", x, x.heard(0, 1), 1);
        CHECK.gives("none", x, x.heard(0, 0), 1);
    }

    // s, then a, then b, then c is silent: a needs his rest to say it twice.
    private static void turnsAndRest() {
        SilentTurn x = Checks.made("turn 1;topic t cost 3;follows t t;monk s breath 0 rest 0;monk a breath 4 rest 1;"
                + "monk b breath 3 rest 0;monk c breath 9 rest 0;");
        hears(x, 0, 0, 0, 0);
        CHECK.gives("a, b, c", x, x.heard(0, 1), 3);
        // b or c behind each, but b not twice.
        CHECK.gives("then b, c", x, x.heard(0, 2), 5);
        // a has 4 again if he was not the first; 3 if he was, with two minutes of rest less the one: 1 and 1.
        CHECK.gives("then a, c", x, x.heard(0, 3), 8);
        CHECK.none("not yet sure", x, x.sure(0, 3, 0), 6);
        SilentTurn y = Checks.made("turn 2;topic t cost 1;follows t t;monk s breath 9;monk a breath 9;");
        hears(y, 0, 0, 0, 0);
        CHECK.gives("a, a, s, s", y, y.heard(0, 4), 1);
        int[] sure = {1, 1, 0, 0};
        for (int k = 0; k < 4; k++) {
            CHECK.gives("sure " + k, y, y.sure(0, 4, k), sure[k]);
        }
    }

    private static void wrongInputs() {
        SilentTurn x = Checks.made(Checks.SMALL);
        for (int tray : new int[] {-1, 4}) {
            CHECK.none("no such tray", x, x.heard(tray, 1), 1);
            CHECK.none("no such tray", x, x.sure(tray, 1, 0), 1);
        }
        CHECK.none("missing", x, x.heard(0, 0), 2);
        CHECK.none("missing", x, x.sure(0, 1, 0), 2);
        CHECK.none("n below 0", x, x.heard(0, -1), 1);
        CHECK.none("n above 4", x, x.heard(0, 5), 1);
        CHECK.none("n above 4", x, x.sure(0, 5, 0), 1);
        CHECK.none("k below 0", x, x.sure(0, 1, -1), 1);
        CHECK.none("k of n", x, x.sure(0, 1, 1), 1);
        CHECK.none("k of none", x, x.sure(0, 0, 0), 1);
        x.tray(0, 3, 2);
        CHECK.none("too few", x, x.heard(0, 3), 3);
        CHECK.none("too few", x, x.sure(0, 3, 0), 3);
        x.write(0, 1, 3);
        CHECK.none("no topic", x, x.heard(0, 2), 5);
        CHECK.none("no topic", x, x.sure(0, 2, 0), 5);
        CHECK.none("too few ahead of no topic", x, x.heard(0, 3), 3);
        CHECK.gives("not looked at", x, x.heard(0, 1), 1);
        x.write(0, 1, -1);
        CHECK.none("no topic", x, x.heard(0, 2), 5);
        x.write(0, 1, 1L << 32);
        CHECK.none("no topic", x, x.heard(0, 2), 5);
    }
}
