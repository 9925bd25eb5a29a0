/** Promises 1 and 2, the exceptions of 3 to 5, and what 6 to 17 throw without a fair. */
public final class Part1FaceTest {
    private static final String SMALL = "ride a wheel 1 1 1{}";

    public static void main(String[] args) {
        newObject();
        feeding();
        fullTape();
        readsWhatTheTapeHas();
        wrongWhat();
        withoutFair();
        Check.end();
    }

    private static void newObject() {
        Check.due("NONE", FairHouse.NONE, -1);
        FairHouse house = new FairHouse();
        for (int what = 0; what <= 4; what++) {
            Check.due("count of a new one", house.count(what), 0);
        }
        Check.due("fault(0) of a new one", house.fault(0), 0);
        Check.due("fault(1) of a new one", house.fault(1), FairHouse.NONE);
        noFair(house);
    }

    private static void feeding() {
        FairHouse house = new FairHouse();
        Check.due("first feed", house.feed(1, 2, 3, 4, 5), 20);
        Check.due("second feed", house.feed(0, 0, 0, 0, 0), 40);
        Check.due("bytes", house.count(4), 40);
        // "ride", " a w", "heel", " 1 1", " 1{}": the highest byte first.
        FairHouse other = new FairHouse();
        Check.due("feed", other.feed(0x72696465, 0x20612077, 0x6865656c, 0x20312031, 0x20317b7d), 20);
        Check.due("read", other.read(20), 0);
        Check.due("bytes", other.count(4), 0);
        Check.due("rides", other.count(0), 1);
        // Numbers below 0 are four bytes as well: 0xff is none of the text's.
        FairHouse third = new FairHouse();
        third.feed(-1, -1, -1, -1, -1);
        Check.due("read of 0xff", third.read(20), 1);
        Check.due("place", third.fault(1), 0);
        // Only the first n bytes are the text.
        FairHouse fourth = new FairHouse();
        Check.feed(fourth, SMALL + " and what stands behind");
        Check.due("read of a part", fourth.read(SMALL.length()), 0);
        Check.due("the rest is gone", fourth.count(4), 0);
    }

    private static void fullTape() {
        FairHouse house = new FairHouse();
        for (int i = 1; i <= 200; i++) {
            Check.due("feed " + i, house.feed(0x20202020, 0x20202020, 0x20202020, 0x20202020, 0x20202020), 20 * i);
        }
        Check.due("one more", house.feed(1, 1, 1, 1, 1), FairHouse.NONE);
        Check.due("bytes", house.count(4), 4000);
        Check.throwsOnly("read(4001)", Check.ARGUMENT, () -> house.read(4001));
        Check.due("read of 4000 blanks", house.read(4000), 1);
        Check.due("place", house.fault(1), 4000);
        Check.due("feed behind it", house.feed(1, 1, 1, 1, 1), 20);
        // The same with a fair at the very end.
        FairHouse full = new FairHouse();
        Check.feed(full, Check.repeat(" ", 3980) + SMALL);
        Check.due("bytes", full.count(4), 4000);
        Check.due("read", full.read(4000), 0);
    }

    private static void readsWhatTheTapeHas() {
        FairHouse house = new FairHouse();
        Check.throwsOnly("read(1) of an empty tape", Check.ARGUMENT, () -> house.read(1));
        Check.throwsOnly("read(-1)", Check.ARGUMENT, () -> house.read(-1));
        Check.throwsOnly("read of the least", Check.ARGUMENT, () -> house.read(Integer.MIN_VALUE));
        Check.throwsOnly("read of the most", Check.ARGUMENT, () -> house.read(Integer.MAX_VALUE));
        Check.feed(house, SMALL);
        Check.throwsOnly("read(21)", Check.ARGUMENT, () -> house.read(21));
        Check.due("the tape stays", house.count(4), 20);
        Check.due("read(20)", house.read(20), 0);
        // What throws is no read: the fair and its FAULT stay.
        Check.throwsOnly("read(-1)", Check.ARGUMENT, () -> house.read(-1));
        Check.due("rides", house.count(0), 1);
        Check.due("fault", house.fault(0), 0);
        // An empty text has no ride: 1 at its end, and the fair is gone.
        Check.due("read(0)", house.read(0), 1);
        Check.due("fault(0)", house.fault(0), 1);
        Check.due("fault(1)", house.fault(1), 0);
        noFair(house);
        Check.throwsOnly("read(1)", Check.ARGUMENT, () -> house.read(1));
        Check.due("fault(0) stays", house.fault(0), 1);
        Check.due("fault(1) stays", house.fault(1), 0);
    }

    private static void wrongWhat() {
        FairHouse empty = new FairHouse();
        FairHouse house = Check.fair(SMALL);
        for (FairHouse one : new FairHouse[] {empty, house}) {
            for (int what : new int[] {-1, 2, Integer.MIN_VALUE, Integer.MAX_VALUE}) {
                Check.throwsOnly("fault(" + what + ")", Check.INDEX, () -> one.fault(what));
            }
            for (int what : new int[] {-1, 5, Integer.MIN_VALUE, Integer.MAX_VALUE}) {
                Check.throwsOnly("count(" + what + ")", Check.INDEX, () -> one.count(what));
            }
        }
    }

    private static void withoutFair() {
        FairHouse house = Check.fair("staff s 2; flag f; power 7; " + SMALL);
        Check.due("rides", house.count(0), 1);
        Check.due("staff", house.count(1), 1);
        Check.due("flags", house.count(2), 1);
        Check.due("power", house.count(3), 7);
        Check.feed(house, "x");
        Check.due("bytes", house.count(4), 20);
        Check.due("a fair with a fault", house.read(1), 1);
        for (int what = 0; what <= 4; what++) {
            Check.due("count(" + what + ")", house.count(what), 0);
        }
        noFair(house);
        Check.due("a fair again", Check.read(house, SMALL), 0);
        Check.due("power", house.count(3), 9999);
        Check.due("staff", house.count(1), 0);
        Check.due("flags", house.count(2), 0);
    }

    /** IllegalStateException comes ahead of all else. */
    private static void noFair(FairHouse house) {
        Check.throwsOnly("open", Check.STATE, house::open);
        for (int n : new int[] {0, -1, 1, 1000}) {
            Check.throwsOnly("come", Check.STATE, () -> house.come(n, n));
            Check.throwsOnly("wind", Check.STATE, () -> house.wind(n));
            Check.throwsOnly("tick", Check.STATE, () -> house.tick(n));
            Check.throwsOnly("measure", Check.STATE, () -> house.measure(n, n));
            Check.throwsOnly("says", Check.STATE, () -> house.says(n, n));
            Check.throwsOnly("script", Check.STATE, () -> house.script(n, n));
            Check.throwsOnly("free", Check.STATE, () -> house.free(n));
            Check.throwsOnly("isUp", Check.STATE, () -> house.isUp(n));
            Check.throwsOnly("set", Check.STATE, () -> house.set(n, true));
            Check.throwsOnly("total", Check.STATE, () -> house.total(n));
            Check.throwsOnly("log", Check.STATE, () -> house.log(n, n));
        }
    }
}
