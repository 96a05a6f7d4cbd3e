/** Promises 1 to 8: a new object, STATUS, the FRACTION, TRAYS. */
public final class TraysTest {
    private static final Checks CHECK = new Checks();

    public static void main(String[] args) {
        newObject();
        laying();
        writingAndReading();
        pouring();
        CHECK.end();
    }

    private static void newObject() {
        SilentTurn x = new SilentTurn();
        CHECK.due("NONE", SilentTurn.NONE, -1);
        CHECK.due("status of a new one", x.status(), 0);
        CHECK.fraction("of a new one", x, 0, 1);
        CHECK.due("fault(0) ahead of any", x.fault(0), -1);
        CHECK.due("fault(1) ahead of any", x.fault(1), -1);
        int[] told = {0, 0, 0, 10, 1, 0, 0, 0, 0};
        for (int what = 0; what < told.length; what++) {
            CHECK.gives("told " + what, x, x.told(what), told[what]);
        }
        for (int tray = 0; tray < 4; tray++) {
            CHECK.none("read of a tray that is missing", x, x.read(tray, 0), 2);
        }
        CHECK.none("silent", x, x.silent(), 6);
        CHECK.none("last", x, x.last(), 6);
        CHECK.none("live", x, x.live(0), 6);
        CHECK.none("undo", x, x.undo(), 6);
        CHECK.none("house of an empty tape", x, x.house(1), 1);
        CHECK.due("status keeps", x.status(), 1);
        x.top();
        x.bottom();
        x.fault(0);
        x.feed(0, 0, 0, 0, 0);
        CHECK.due("calls without a STATUS leave it", x.status(), 1);
    }

    private static void laying() {
        SilentTurn x = new SilentTurn();
        CHECK.no("tray -1", x, x.tray(-1, 0, 1), 1);
        CHECK.no("tray 4", x, x.tray(4, 0, 1), 1);
        CHECK.no("sort -1", x, x.tray(0, -1, 1), 1);
        CHECK.no("sort 4", x, x.tray(0, 4, 1), 1);
        CHECK.no("many -1", x, x.tray(0, 0, -1), 1);
        CHECK.no("many 61", x, x.tray(0, 0, 61), 1);
        CHECK.none("still missing", x, x.read(0, 0), 2);
        CHECK.yes("tray of 60", x, x.tray(3, 3, 60));
        CHECK.gives("its last", x, x.read(3, 59), 0);
        CHECK.none("behind its last", x, x.read(3, 60), 3);
        CHECK.yes("write", x, x.write(3, 59, 7));
        CHECK.no("refused", x, x.tray(3, 3, 61), 1);
        CHECK.gives("what was refused changes nothing", x, x.read(3, 59), 7);
        CHECK.yes("laid again", x, x.tray(3, 2, 60));
        CHECK.gives("0s again", x, x.read(3, 59), 0);
        CHECK.yes("a tray of none", x, x.tray(3, 1, 0));
        CHECK.none("has no place", x, x.read(3, 0), 3);
    }

    private static void writingAndReading() {
        SilentTurn x = new SilentTurn();
        CHECK.no("write to tray 4", x, x.write(4, 0, 1), 1);
        CHECK.no("write to tray -1", x, x.write(-1, 0, 1), 1);
        CHECK.no("write to one that is missing", x, x.write(0, -1, 1), 2);
        CHECK.none("read of tray 4", x, x.read(4, 0), 1);
        CHECK.none("read of tray -1", x, x.read(-1, -1), 1);
        long v = 0x123456789ABCDEF0L;
        long[] cut = {(byte) 0xF0, (short) 0xDEF0, 0x9ABCDEF0, v};
        for (int sort = 0; sort < 4; sort++) {
            x.tray(sort, sort, 2);
            CHECK.yes("write", x, x.write(sort, 1, v));
            CHECK.gives("cut to sort " + sort, x, x.read(sort, 1), cut[sort]);
            CHECK.gives("beside it", x, x.read(sort, 0), 0);
            CHECK.yes("write -1", x, x.write(sort, 0, -1));
            CHECK.gives("-1 is no NONE", x, x.read(sort, 0), -1);
            CHECK.no("place 2", x, x.write(sort, 2, 1), 3);
            CHECK.no("place -1", x, x.write(sort, -1, 1), 3);
            CHECK.none("place 2", x, x.read(sort, 2), 3);
            CHECK.none("place -1", x, x.read(sort, -1), 3);
        }
        x.write(0, 0, 127);
        CHECK.gives("127", x, x.read(0, 0), 127);
        x.write(0, 0, 128);
        CHECK.gives("128", x, x.read(0, 0), -128);
    }

    private static SilentTurn filled() {
        SilentTurn x = new SilentTurn();
        x.tray(0, 1, 5);
        x.tray(1, 1, 3);
        x.tray(2, 2, 5);
        for (int i = 0; i < 5; i++) {
            x.write(0, i, 10 + i);
        }
        return x;
    }

    private static void rowIs(String what, SilentTurn x, int tray, long... want) {
        for (int i = 0; i < want.length; i++) {
            CHECK.gives(what + " at " + i, x, x.read(tray, i), want[i]);
        }
    }

    private static void pouring() {
        SilentTurn x = filled();
        CHECK.yes("pour", x, x.pour(0, 1, 1, 0, 3));
        rowIs("poured", x, 1, 11, 12, 13);
        CHECK.yes("within, forward", x, x.pour(0, 0, 0, 1, 4));
        rowIs("forward", x, 0, 10, 10, 11, 12, 13);
        x = filled();
        CHECK.yes("within, backward", x, x.pour(0, 1, 0, 0, 4));
        rowIs("backward", x, 0, 11, 12, 13, 14, 14);
        CHECK.yes("none at the end", x, x.pour(0, 5, 1, 3, 0));
        CHECK.no("none beyond the end", x, x.pour(0, 6, 1, 3, 0), 3);
        CHECK.no("none beyond its end", x, x.pour(0, 5, 1, 4, 0), 3);
        CHECK.no("too few", x, x.pour(0, 3, 1, 0, 3), 3);
        CHECK.no("no room", x, x.pour(0, 0, 1, 1, 3), 3);
        CHECK.no("far too many", x, x.pour(0, 1, 1, 1, Integer.MAX_VALUE), 3);
        CHECK.no("far beyond", x, x.pour(0, Integer.MAX_VALUE, 1, 1, 1), 3);
        CHECK.no("far beyond", x, x.pour(0, 1, 1, Integer.MAX_VALUE, 1), 3);
        CHECK.no("unlike ahead of places", x, x.pour(0, 9, 2, 0, 1), 8);
        CHECK.no("missing ahead of unlike", x, x.pour(0, 0, 3, 0, 1), 2);
        CHECK.no("missing ahead of unlike", x, x.pour(3, 0, 0, 0, 1), 2);
        CHECK.no("place below 0", x, x.pour(0, -1, 3, 0, 1), 1);
        CHECK.no("at below 0", x, x.pour(0, 0, 3, -1, 1), 1);
        CHECK.no("many below 0", x, x.pour(0, 0, 3, 0, -1), 1);
        CHECK.no("no such from", x, x.pour(4, 0, 3, 0, 1), 1);
        CHECK.no("no such to", x, x.pour(3, 0, -1, 0, 1), 1);
        rowIs("nothing changed", x, 0, 11, 12, 13, 14, 14);
        rowIs("nothing changed", x, 1, 0, 0, 0);
    }
}
