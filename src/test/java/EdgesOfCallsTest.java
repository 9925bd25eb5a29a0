import java.util.ArrayList;
import java.util.List;
import java.util.function.Consumer;
import java.util.function.Supplier;

/**
 * Promises 1 to 17, sentence by sentence: both sides of each least and greatest value, an empty and a full tape, row,
 * queue and log, and each call that is refused, with what stands unchanged behind it. Each call that is refused has an
 * object of its own, so that none is asked more than 512 times.
 */
public final class EdgesOfCallsTest {
    private static final int LEAST = Integer.MIN_VALUE;
    private static final int GREATEST = Integer.MAX_VALUE;
    private static final String SMALL = "ride a arch 1{}";
    // Two RIDES, two staff, three flags; it is run for three ticks, and a part of the next text is on the tape.
    private static final String RUNNING = "staff s 2;staff t 1;flag f;flag g;flag h;power 900;"
            + "ride a wheel 9 9 9{load 2;unload;spin 9;claim s;raise f;wait 99;}ride b arch 9{glow 77;r0=1/0;}";

    public static void main(String[] args) {
        newObject();
        feedTakesTwentyBytes();
        feedFillsTheTape();
        readTakesWhatThereIs();
        readTakesTheFirstBytes();
        readEmptiesTheTape();
        readOfNothing();
        readOpens();
        readWithAFault();
        faultOfTheLatestRead();
        countsWithAFair();
        countsWithoutAFair();
        openNeedsAFair();
        openLeavesTheTape();
        comeTakesOneToHundred();
        comeNeedsARide();
        comeNeedsSeats();
        comeToAFullQueue();
        comeToAQueueThatHadLeft();
        windIsUpTo199();
        tickTakesOneToHundred();
        tickCountsTheLog();
        measureOfARide();
        saysOfARide();
        scriptOfARide();
        freeOfStaff();
        flagsThereAre();
        lastOfFullRows();
        setAnswersWhetherItWasTheOtherWay();
        totalOfWhat();
        logThatIsKept();
        logOfFourHundred();
        withoutAFairAllIsRefused();
        theLastOfItsCalls();
        Check.end();
    }

    private static FairHouse running() {
        FairHouse house = Check.fair(RUNNING);
        house.come(0, 7);
        house.come(0, 50);
        house.wind(33);
        house.set(2, true);
        house.tick(3);
        Check.feed(house, "half a text");
        return house;
    }

    /** A FAULT was read, over a fair; something is on the tape. */
    private static FairHouse spoilt() {
        FairHouse house = Check.fair(RUNNING);
        house.tick(1);
        Check.due("spoilt", Check.read(house, SMALL + "x"), 1);
        Check.feed(house, SMALL);
        return house;
    }

    private static void refuses(String what, Class<?> want, Supplier<FairHouse> maker, Consumer<FairHouse> call) {
        FairHouse house = maker.get();
        Check.refuses(what, want, house, () -> call.accept(house));
    }

    /** FairHouse(): an empty tape, no fair. */
    private static void newObject() {
        FairHouse house = new FairHouse();
        Check.due("all of a new one", Check.all(house), "fault 0 at -1 count 0 0 0 0 0");
        refuses("read(1) of an empty tape", Check.ARGUMENT, FairHouse::new, one -> one.read(1));
        refuses("open of a new one", Check.STATE, FairHouse::new, FairHouse::open);
        Check.due("the first feed", house.feed(0, 0, 0, 0, 0), 20);
    }

    /** Twenty bytes come to the tape, the highest of each number first. */
    private static void feedTakesTwentyBytes() {
        for (int place = 0; place < 20; place++) {
            // The first byte that is no blank is the place of the FAULT; all ahead of it and behind it are blanks.
            for (int sign : new int[] {0, 127, 128, 255}) {
                int[] five = {0x20202020, 0x20202020, 0x20202020, 0x20202020, 0x20202020};
                int shift = 24 - 8 * (place % 4);
                five[place / 4] = five[place / 4] & ~(255 << shift) | sign << shift;
                FairHouse house = new FairHouse();
                Check.due("feed", house.feed(five[0], five[1], five[2], five[3], five[4]), 20);
                Check.due("byte " + sign + " at " + place, house.read(20), 1);
                Check.due("its place", house.fault(1), place);
            }
        }
    }

    /** How many it has; NONE, and none come, if it would have more than 4,000. */
    private static void feedFillsTheTape() {
        FairHouse house = new FairHouse();
        String text = SMALL + Check.repeat(" ", 3980 - 2 * SMALL.length()) + "ride b arch 1{}";
        Check.due("bytes", text.length(), 3980);
        Check.feed(house, text);
        Check.due("3980 of them", house.count(4), 3980);
        // "ride", " c a", "rch ", "1{} ", "  \n\n": these fit just so.
        Check.due("feed to the full", house.feed(0x72696465, 0x20632061, 0x72636820, 0x317b7d20, 0x20200a0a), 4000);
        for (int again = 0; again < 3; again++) {
            String before = Check.all(house);
            Check.due("feed of a full tape", house.feed(-1, LEAST, GREATEST, 0, 1), FairHouse.NONE);
            Check.due("none come", Check.all(house), before);
        }
        Check.due("the tape is as it was", house.read(4000), 0);
        Check.due("three rides", house.count(0), 3);
        Check.due("behind a read there is room", house.feed(-1, -1, -1, -1, -1), 20);
        FairHouse fed = new FairHouse();
        for (int i = 1; i <= 200; i++) {
            Check.due("feed " + i, fed.feed(i, i, i, i, i), 20 * i);
        }
        Check.due("feed 201", fed.feed(1, 1, 1, 1, 1), FairHouse.NONE);
        Check.due("4000 of them", fed.count(4), 4000);
    }

    private static FairHouse tapeOf(int bytes) {
        FairHouse house = new FairHouse();
        Check.feed(house, SMALL + Check.repeat(" ", bytes - SMALL.length()));
        return house;
    }

    /** IllegalArgumentException: it has not so many, or n is below 0. */
    private static void readTakesWhatThereIs() {
        for (int bytes : new int[] {20, 40, 3980, 4000}) {
            for (int n : new int[] {LEAST, -1, bytes + 1, GREATEST}) {
                refuses("read(" + n + ") of " + bytes, Check.ARGUMENT, () -> tapeOf(bytes), one -> one.read(n));
            }
            FairHouse house = tapeOf(bytes);
            Check.due("read of all " + bytes, house.read(bytes), 0);
            FairHouse less = tapeOf(bytes);
            Check.due("read of one less than " + bytes, less.read(bytes - 1), 0);
        }
        // What is refused is no read: the fair runs on, and the tape can be read yet.
        for (int n : new int[] {LEAST, -1, 21, GREATEST}) {
            refuses("read(" + n + ") of a running one", Check.ARGUMENT, EdgesOfCallsTest::running, one -> one.read(n));
            refuses("read(" + n + ") of a spoilt one", Check.ARGUMENT, EdgesOfCallsTest::spoilt, one -> one.read(n));
        }
        FairHouse house = spoilt();
        Check.throwsOnly("read(21)", Check.ARGUMENT, () -> house.read(21));
        Check.due("read of what is on the tape", house.read(20), 0);
    }

    /** The tape's first n bytes are the TEXT of the fair. */
    private static void readTakesTheFirstBytes() {
        String text = "ride a arch 1{}!";
        int[] faults = {1, 0, 1};
        int[] places = {14, FairHouse.NONE, 15};
        for (int i = 0; i < 3; i++) {
            FairHouse house = new FairHouse();
            Check.feed(house, text);
            Check.due("read(" + (14 + i) + ")", house.read(14 + i), faults[i]);
            Check.due("its place", house.fault(1), places[i]);
        }
        // A word, a number, a sign that is cut by n is as long as can be up to there.
        FairHouse cut = new FairHouse();
        Check.feed(cut, "ride abcdefghi arch 1{}");
        Check.due("a WORD of eight, then the end", cut.read(13), 1);
        Check.due("its place", cut.fault(1), 13);
        Check.feed(cut, "power 99999;" + SMALL);
        Check.due("a NUMBER of four, then the end", cut.read(10), 1);
        Check.due("its place", cut.fault(1), 10);
        Check.feed(cut, "ride a arch 1{until 1<=2;}");
        Check.due("a sign of one, then the end", cut.read(22), 1);
        Check.due("its place", cut.fault(1), 22);
        Check.feed(cut, "ride a arch 1{until 1!=2;}");
        Check.due("! alone is none", cut.read(22), 1);
        Check.due("its place", cut.fault(1), 21);
    }

    /** (the tape is empty then), with a FAULT and without. */
    private static void readEmptiesTheTape() {
        for (int n : new int[] {15, 14, 0, 20}) {
            FairHouse house = new FairHouse();
            Check.feed(house, SMALL);
            house.read(n);
            Check.due("bytes behind read(" + n + ")", house.count(4), 0);
            Check.refuses("read(1) behind read(" + n + ")", Check.ARGUMENT, house, () -> house.read(1));
            Check.due("the next bytes are the first ones", Check.read(house, "ride b wheel 1 1 7{}"), 0);
            Check.due("the new ride", house.measure(0, 10), 7);
        }
    }

    /** n is 0: an empty TEXT, which has no RIDE: 1 at its end. */
    private static void readOfNothing() {
        FairHouse house = new FairHouse();
        Check.due("read(0) of an empty tape", house.read(0), 1);
        Check.due("all", Check.all(house), "fault 1 at 0 count 0 0 0 0 0");
        FairHouse fed = running();
        Check.due("read(0) over a fair", fed.read(0), 1);
        Check.due("all", Check.all(fed), "fault 1 at 0 count 0 0 0 0 0");
    }

    /** 0, and it is open. */
    private static void readOpens() {
        FairHouse house = running();
        house.read(0);
        Check.due("read", Check.read(house, RUNNING), 0);
        Check.due("open as a new one is", Check.all(house), Check.all(Check.fair(RUNNING)));
        FairHouse straight = Check.fair(RUNNING);
        straight.tick(3);
        Check.due("read over a fair that runs", Check.read(straight, RUNNING), 0);
        Check.due("open as a new one is", Check.all(straight), Check.all(Check.fair(RUNNING)));
    }

    /** Or its FAULT, there is none then. The @ marks its place. */
    private static void readWithAFault() {
        String[] texts = {"@x", "ride @spin arch 1{}", SMALL + "ride b arch 1{claim @s;}", "power 1;@power 2;" + SMALL,
            "ride a arch @0{}"};
        for (int fault = 1; fault <= 5; fault++) {
            String marked = texts[fault - 1];
            FairHouse house = running();
            house.read(0);
            Check.due(marked, Check.read(house, marked.replace("@", "")), fault);
            Check.due(marked, Check.all(house), "fault " + fault + " at " + marked.indexOf('@') + " count 0 0 0 0 0");
            Check.refuses("tick behind " + marked, Check.STATE, house, () -> house.tick(1));
        }
    }

    /** Of the latest read(): 0 its FAULT (0 without), 1 its place (NONE). Another what. */
    private static void faultOfTheLatestRead() {
        FairHouse house = new FairHouse();
        Check.due("fault(0) without a read", house.fault(0), 0);
        Check.due("fault(1) without a read", house.fault(1), FairHouse.NONE);
        Check.due("a FAULT at 0", Check.read(house, "x"), 1);
        Check.due("fault(0)", house.fault(0), 1);
        Check.due("fault(1) is 0, not NONE", house.fault(1), 0);
        Check.due("none", Check.read(house, SMALL), 0);
        Check.due("fault(0)", house.fault(0), 0);
        Check.due("fault(1)", house.fault(1), FairHouse.NONE);
        Check.due("a FAULT at 5", Check.read(house, "ride spin arch 1{}"), 2);
        Check.due("fault(0)", house.fault(0), 2);
        Check.due("fault(1)", house.fault(1), 5);
        for (int what : new int[] {LEAST, -1, 2, GREATEST}) {
            refuses("fault(" + what + ") of a new one", Check.INDEX, FairHouse::new, one -> one.fault(what));
            refuses("fault(" + what + ") of a running one", Check.INDEX, EdgesOfCallsTest::running, one -> one.fault(what));
            refuses("fault(" + what + ") of a spoilt one", Check.INDEX, EdgesOfCallsTest::spoilt, one -> one.fault(what));
        }
    }

    /** 0 RIDES, 1 staff, 2 flags, 3 POWER, 4 bytes of the tape: the least and the greatest of each. */
    private static void countsWithAFair() {
        Check.due("the least", Check.all(Check.fair("power 1;" + SMALL)).substring(0, 30), "fault 0 at -1 count 1 0 0 1 0;");
        StringBuilder text = new StringBuilder();
        for (int i = 0; i < 12; i++) {
            text.append("ride r").append((char) ('a' + i)).append(" arch 1{}");
        }
        for (int i = 0; i < 6; i++) {
            text.append("staff s").append(i).append(" 9;");
        }
        for (int i = 0; i < 8; i++) {
            text.append("flag f").append(i).append(";");
        }
        FairHouse house = Check.fair(text + "power 9999;");
        for (int i = 0; i < 200; i++) {
            house.feed(0, 0, 0, 0, 0);
        }
        int[] most = {12, 6, 8, 9999, 4000};
        for (int what = 0; what <= 4; what++) {
            Check.due("count(" + what + ")", house.count(what), most[what]);
        }
        Check.due("POWER that is not told", Check.fair(SMALL).count(3), 9999);
        for (int what : new int[] {LEAST, -1, 5, GREATEST}) {
            refuses("count(" + what + ") of a new one", Check.INDEX, FairHouse::new, one -> one.count(what));
            refuses("count(" + what + ") of a running one", Check.INDEX, EdgesOfCallsTest::running, one -> one.count(what));
        }
    }

    /** (0 to 3: 0 without a fair): 4 is as many as the tape has. */
    private static void countsWithoutAFair() {
        FairHouse fresh = new FairHouse();
        fresh.feed(1, 2, 3, 4, 5);
        FairHouse house = spoilt();
        for (int what = 0; what <= 4; what++) {
            Check.due("count of a new one", fresh.count(what), what == 4 ? 20 : 0);
            Check.due("count of a spoilt one", house.count(what), what == 4 ? 20 : 0);
        }
    }

    /** IllegalStateException: there is none. */
    private static void openNeedsAFair() {
        refuses("open of a new one", Check.STATE, FairHouse::new, FairHouse::open);
        refuses("open of one with a tape", Check.STATE, () -> tapeOf(40), FairHouse::open);
        refuses("open of a spoilt one", Check.STATE, EdgesOfCallsTest::spoilt, FairHouse::open);
    }

    /** Opens the fair anew, as read() does: the tape and the latest FAULT are none of it. */
    private static void openLeavesTheTape() {
        FairHouse house = running();
        house.open();
        FairHouse fresh = Check.fair(RUNNING);
        Check.due("bytes", house.count(4), 20);
        Check.due("fault", house.fault(0) + " " + house.fault(1), "0 -1");
        Check.due("as a new one", Check.allOfFair(house), Check.allOfFair(fresh));
        house.open();
        Check.due("opened twice", Check.allOfFair(house), Check.allOfFair(fresh));
        Check.due("the tape's text", house.read(20), 1);
    }

    /** They are 1 to 100. How many riders are in it then. */
    private static void comeTakesOneToHundred() {
        for (int riders : new int[] {LEAST, -1, 0, 101, GREATEST}) {
            refuses("come(0, " + riders + ")", Check.ARGUMENT, EdgesOfCallsTest::running, one -> one.come(0, riders));
        }
        FairHouse house = Check.fair("ride a wheel 1 1 1{}ride b wheel 1 1 1{}");
        Check.due("the least", house.come(0, 1), 1);
        Check.due("the most", house.come(0, 100), 101);
        Check.due("to the other", house.come(1, 100), 100);
        Check.due("queue of a", house.measure(0, 9), 101);
        Check.due("queue of b", house.measure(1, 9), 100);
        FairHouse boards = Check.fair("ride a wheel 1 1 9{load 1;}");
        Check.due("ahead of a tick", boards.come(0, 7), 7);
        boards.tick(1);
        Check.due("behind five who got on", boards.come(0, 1), 3);
    }

    /** No such RIDE, also if the riders are not 1 to 100. */
    private static void comeNeedsARide() {
        for (int ride : new int[] {LEAST, -1, 2, 11, 12, GREATEST}) {
            for (int riders : new int[] {1, 0, 101}) {
                refuses("come(" + ride + ", " + riders + ")", Check.INDEX, EdgesOfCallsTest::running,
                        one -> one.come(ride, riders));
            }
        }
        StringBuilder text = new StringBuilder();
        for (int i = 0; i < 12; i++) {
            text.append("ride x").append(i).append(" wheel 1 1 1{}");
        }
        for (int ride : new int[] {0, 11}) {
            Check.due("come to " + ride, Check.fair(text.toString()).come(ride, 3), 3);
        }
        for (int ride : new int[] {-1, 12}) {
            FairHouse house = Check.fair(text.toString());
            Check.throwsOnly("come to " + ride + " of twelve", Check.INDEX, () -> house.come(ride, 3));
        }
    }

    /** Or it has no SEATS. */
    private static void comeNeedsSeats() {
        String[] with = {"wheel 1 1 1", "tower 1 1 1", "swing 1 1 1 1 1", "ghost 1 1", "star 1 1 1 1 1 1", "tail 1 1 1 l"};
        String[] without = {"organ 1 1", "arch 1", "comet 1 1 1"};
        for (String ride : with) {
            FairHouse house = Check.fair("ride l wheel 1 1 1{}ride a " + ride + "{}");
            Check.due("come to a " + ride, house.come(1, 1), 1);
            Check.refuses("none come to a " + ride, Check.ARGUMENT, house, () -> house.come(1, 0));
        }
        for (String ride : without) {
            for (int riders : new int[] {1, 100, 0, 101}) {
                refuses("come to a " + ride, Check.ARGUMENT, () -> Check.fair("ride l wheel 1 1 1{}ride a " + ride + "{}"),
                        one -> one.come(1, riders));
            }
        }
    }

    /** NONE, and none come, if it has 30 GROUPS. */
    private static void comeToAFullQueue() {
        FairHouse house = Check.fair("ride a wheel 1 1 60{until wind==1;load 1;}ride b wheel 1 1 1{}");
        for (int i = 1; i <= 30; i++) {
            Check.due("group " + i, house.come(0, 100), 100 * i);
        }
        String before = Check.all(house);
        Check.due("one rider more", house.come(0, 1), FairHouse.NONE);
        Check.due("a hundred more", house.come(0, 100), FairHouse.NONE);
        Check.due("none came", Check.all(house), before);
        Check.refuses("a wrong number, to a full queue", Check.ARGUMENT, house, () -> house.come(0, 0));
        Check.due("the other queue has room", house.come(1, 1), 1);
        // Five of a hundred get on: it has 30 GROUPS yet.
        house.wind(1);
        house.tick(1);
        Check.due("riders", house.measure(0, 9), 2995);
        Check.due("still full", house.come(0, 1), FairHouse.NONE);
        house.open();
        Check.due("empty behind open()", house.come(0, 100), 100);
    }

    /** It has 29 as soon as one has left, or has got on with its last rider. */
    private static void comeToAQueueThatHadLeft() {
        FairHouse house = Check.fair("ride a wheel 1 1 60{until wind==1;load 1;}");
        house.come(0, 6);
        house.tick(1);
        for (int i = 2; i <= 30; i++) {
            house.come(0, 1);
        }
        house.wind(1);
        house.tick(1);
        // Five of the six got on.
        Check.due("full", house.come(0, 1), FairHouse.NONE);
        house.tick(58);
        Check.due("riders at 60", house.measure(0, 9), 30);
        Check.due("full at 60", house.come(0, 1), FairHouse.NONE);
        house.tick(1);
        Check.due("riders at 61", house.measure(0, 9), 29);
        Check.due("room for one GROUP", house.come(0, 1), 30);
        Check.due("and no other", house.come(0, 1), FairHouse.NONE);
        FairHouse aboard = Check.fair("ride a wheel 1 1 60{load 1;}");
        aboard.come(0, 5);
        for (int i = 2; i <= 30; i++) {
            aboard.come(0, 1);
        }
        aboard.tick(1);
        Check.due("room for one GROUP", aboard.come(0, 2), 31);
        Check.due("and no other", aboard.come(0, 2), FairHouse.NONE);
    }

    /** WIND is so from now on: what it was. It is not 0 to 199. */
    private static void windIsUpTo199() {
        for (int force : new int[] {LEAST, -1, 200, GREATEST}) {
            refuses("wind(" + force + ")", Check.ARGUMENT, EdgesOfCallsTest::running, one -> one.wind(force));
        }
        FairHouse house = Check.fair(SMALL);
        Check.due("none at first", house.total(7), 0);
        int[] forces = {199, 0, 1, 198, 198, 199};
        int before = 0;
        for (int force : forces) {
            Check.due("wind(" + force + ")", house.wind(force), before);
            Check.due("total(7)", house.total(7), force);
            before = force;
        }
    }

    /** Not 1 to 100. */
    private static void tickTakesOneToHundred() {
        for (int n : new int[] {LEAST, -1, 0, 101, GREATEST}) {
            refuses("tick(" + n + ")", Check.ARGUMENT, EdgesOfCallsTest::running, one -> one.tick(n));
        }
        FairHouse house = Check.fair(SMALL);
        int clock = 0;
        for (int n : new int[] {1, 2, 99, 100}) {
            house.tick(n);
            clock += n;
            Check.due("CLOCK behind tick(" + n + ")", house.total(0), clock);
        }
    }

    /** So many ticks: how many more the LOG counts. */
    private static void tickCountsTheLog() {
        FairHouse house = Check.fair("ride a arch 1{wait 2;}ride b arch 1{wait 3;}ride c arch 1{until clock==5;r0=1/0;}");
        int[] more = {0, 1, 1, 0, 1, 0};
        for (int i = 0; i < more.length; i++) {
            Check.due("tick " + (i + 1), house.tick(1), more[i]);
        }
        house.open();
        Check.due("six at once", house.tick(6), 3);
        Check.due("a hundred", house.tick(100), 0);
    }

    private static void measureOfARide() {
        for (int ride : new int[] {LEAST, -1, 2, 11, 12, GREATEST}) {
            refuses("measure(" + ride + ", 0)", Check.INDEX, EdgesOfCallsTest::running, one -> one.measure(ride, 0));
            refuses("measure(" + ride + ", 11)", Check.INDEX, EdgesOfCallsTest::running, one -> one.measure(ride, 11));
        }
        for (int what : new int[] {LEAST, -1, 11, GREATEST}) {
            refuses("measure(1, " + what + ")", Check.INDEX, EdgesOfCallsTest::running, one -> one.measure(1, what));
        }
        FairHouse house = running();
        Check.due("the first ride", house.measure(0, 0) + " " + house.measure(0, 9) + " " + house.measure(0, 10), "0 48 9");
        Check.due("the last ride", house.measure(1, 0) + " " + house.measure(1, 6) + " " + house.measure(1, 10), "4 77 0");
    }

    private static void saysOfARide() {
        for (int ride : new int[] {LEAST, -1, 2, 11, 12, GREATEST}) {
            refuses("says(" + ride + ", 0)", Check.INDEX, EdgesOfCallsTest::running, one -> one.says(ride, 0));
            refuses("says(" + ride + ", 5)", Check.INDEX, EdgesOfCallsTest::running, one -> one.says(ride, 5));
        }
        for (int what : new int[] {LEAST, -1, 5, GREATEST}) {
            refuses("says(1, " + what + ")", Check.INDEX, EdgesOfCallsTest::running, one -> one.says(1, what));
        }
        FairHouse house = running();
        Check.due("the first ride", Check.says(house, 0), "0 4 9 0 80");
        Check.due("the last ride", Check.says(house, 1), "6 0 0 1 200");
    }

    /** NONE if it is over or DOWN, or has no STEP. */
    private static void scriptOfARide() {
        for (int ride : new int[] {LEAST, -1, 2, 11, 12, GREATEST}) {
            refuses("script(" + ride + ", 0)", Check.INDEX, EdgesOfCallsTest::running, one -> one.script(ride, 0));
            refuses("script(" + ride + ", 8)", Check.INDEX, EdgesOfCallsTest::running, one -> one.script(ride, 8));
        }
        for (int what : new int[] {LEAST, -1, 8, GREATEST}) {
            refuses("script(1, " + what + ")", Check.INDEX, EdgesOfCallsTest::running, one -> one.script(1, what));
        }
        String text = "ride a arch 1{}ride b arch 1{wait 1;}ride c arch 1{wait 2;}ride d arch 1{glow 101;r3=9;}";
        FairHouse house = Check.fair(text);
        Check.due("no STEP, not over yet", Check.script(house, 0), "0 0 -1 0");
        Check.due("the first STEP", Check.script(house, 1), "0 0 " + text.indexOf("wait 1") + " 0");
        house.tick(1);
        Check.due("no STEP, over", Check.script(house, 0), "1 0 -1 0");
        Check.due("over", Check.script(house, 1), "1 0 -1 1");
        Check.due("goes on", Check.script(house, 2), "0 0 " + text.indexOf("wait 2") + " 1");
        Check.due("DOWN", Check.script(house, 3), "2 0 -1 1");
        Check.due("the last register", house.script(3, 7), 0);
        FairHouse registers = Check.fair("ride a arch 1{r0=1;r3=4;r2=3;r1=2;}");
        registers.tick(1);
        Check.due("r0 to r3", Check.registers(registers, 0), "1 2 3 4");
    }

    /** How many of a staff are free: none, all; no such staff. */
    private static void freeOfStaff() {
        for (int staff : new int[] {LEAST, -1, 2, 5, 6, GREATEST}) {
            refuses("free(" + staff + ")", Check.INDEX, EdgesOfCallsTest::running, one -> one.free(staff));
        }
        for (int staff : new int[] {-1, 0, 1}) {
            refuses("free(" + staff + ") without staff", Check.INDEX, () -> Check.fair(SMALL), one -> one.free(staff));
        }
        FairHouse house = Check.fair("staff s 1;staff t 9;ride a arch 1{claim s;claim t;claim t;wait 1;free s;free t;}");
        Check.due("all are free", house.free(0) + " " + house.free(1), "1 9");
        house.tick(1);
        Check.due("some are not", house.free(0) + " " + house.free(1), "0 7");
        house.tick(1);
        Check.due("some are again", house.free(0) + " " + house.free(1), "1 8");
    }

    /** Whether a flag is raised; no such flag. */
    private static void flagsThereAre() {
        for (int flag : new int[] {LEAST, -1, 3, 8, 32, GREATEST}) {
            refuses("isUp(" + flag + ")", Check.INDEX, EdgesOfCallsTest::running, one -> one.isUp(flag));
            refuses("set(" + flag + ", true)", Check.INDEX, EdgesOfCallsTest::running, one -> one.set(flag, true));
            refuses("set(" + flag + ", false)", Check.INDEX, EdgesOfCallsTest::running, one -> one.set(flag, false));
        }
        for (int flag : new int[] {-1, 0, 1}) {
            refuses("isUp(" + flag + ") without flags", Check.INDEX, () -> Check.fair(SMALL), one -> one.isUp(flag));
            refuses("set(" + flag + ") without flags", Check.INDEX, () -> Check.fair(SMALL), one -> one.set(flag, true));
        }
        FairHouse house = running();
        Check.due("the flags", house.isUp(0) + " " + house.isUp(1) + " " + house.isUp(2), "true false true");
    }

    /** Twelve RIDES, six staff, eight flags: the last of each answers, one more is none. */
    private static void lastOfFullRows() {
        StringBuilder text = new StringBuilder();
        for (int i = 0; i < 12; i++) {
            text.append("ride x").append(i).append(" ghost ").append(i + 1).append(" 1{wait ").append(i).append(";}");
        }
        for (int i = 0; i < 6; i++) {
            text.append("staff s").append(i).append(" ").append(i + 2).append(";");
        }
        for (int i = 0; i < 8; i++) {
            text.append("flag f").append(i).append(";");
        }
        FairHouse house = Check.fair(text.toString());
        Check.due("PLACES of the last RIDE", house.measure(11, 10), 12);
        Check.due("LIMIT of the last RIDE", house.says(11, 4), 200);
        Check.due("come to the last RIDE", house.come(11, 1), 1);
        house.tick(10);
        Check.due("scripts of the last two", house.script(10, 0) + " " + house.script(11, 0), "1 0");
        Check.due("the last staff", house.free(5), 7);
        Check.due("the last flag", house.set(7, true) + " " + house.isUp(7), "true true");
        Check.due("the last of the LOG", house.log(10, 1), 10);
        Check.throwsOnly("measure(12, 0)", Check.INDEX, () -> house.measure(12, 0));
        Check.throwsOnly("says(12, 0)", Check.INDEX, () -> house.says(12, 0));
        Check.throwsOnly("script(12, 0)", Check.INDEX, () -> house.script(12, 0));
        Check.throwsOnly("come(12, 1)", Check.INDEX, () -> house.come(12, 1));
        Check.throwsOnly("free(6)", Check.INDEX, () -> house.free(6));
        Check.throwsOnly("isUp(8)", Check.INDEX, () -> house.isUp(8));
        Check.throwsOnly("set(8, true)", Check.INDEX, () -> house.set(8, true));
        Check.throwsOnly("log(11, 0)", Check.INDEX, () -> house.log(11, 0));
    }

    /** A flag is raised or lowered from outside: whether it was the other way. */
    private static void setAnswersWhetherItWasTheOtherWay() {
        FairHouse house = Check.fair("flag a;flag b;flag c;flag d;flag e;flag f;flag g;flag h;ride x arch 1{}");
        for (int flag : new int[] {0, 7}) {
            Check.due("lowered already", house.set(flag, false), false);
            Check.due("it is lowered", house.isUp(flag), false);
            Check.due("to raise it", house.set(flag, true), true);
            Check.due("it is raised", house.isUp(flag), true);
            Check.due("raised already", house.set(flag, true), false);
            Check.due("it is raised yet", house.isUp(flag), true);
            Check.due("the next one is not", house.isUp(7 - flag), flag == 7);
            Check.due("nor one between", house.isUp(3), false);
        }
        Check.due("to lower it", house.set(0, false), true);
        Check.due("it is lowered", house.isUp(0), false);
        Check.due("the last is not", house.isUp(7), true);
    }

    /** Another what. */
    private static void totalOfWhat() {
        for (int what : new int[] {LEAST, -1, 8, GREATEST}) {
            refuses("total(" + what + ")", Check.INDEX, EdgesOfCallsTest::running, one -> one.total(what));
        }
        Check.due("all that there are", Check.totals(running()), "3 9 0 13 2 6 4 33");
        Check.due("of a new fair", Check.totals(Check.fair(SMALL)), "0 0 0 0 0 0 0 0");
    }

    /** None such is kept, or what: an empty LOG, and one of two. */
    private static void logThatIsKept() {
        for (int i : new int[] {LEAST, -1, 0, 1, 399, 400, GREATEST}) {
            refuses("log(" + i + ", 0) of an empty one", Check.INDEX, () -> Check.fair(RUNNING), one -> one.log(i, 0));
        }
        for (int i : new int[] {LEAST, -1, 2, 399, 400, GREATEST}) {
            refuses("log(" + i + ", 0)", Check.INDEX, EdgesOfCallsTest::running, one -> one.log(i, 0));
        }
        for (int what : new int[] {LEAST, -1, 4, GREATEST}) {
            refuses("log(0, " + what + ")", Check.INDEX, EdgesOfCallsTest::running, one -> one.log(0, what));
            refuses("log(1, " + what + ")", Check.INDEX, EdgesOfCallsTest::running, one -> one.log(1, what));
        }
        Check.due("the first and the last", Check.log(running()), "/2 1 6 1/5 0 9 3");
        FairHouse house = running();
        house.open();
        Check.refuses("log(0, 0) behind open()", Check.INDEX, house, () -> house.log(0, 0));
    }

    /** A LOG that grows by one in each tick; its number is the tick's less 1. */
    private static FairHouse logOf(int number) {
        FairHouse house = Check.fair("ride a arch 1{loop{guard{r0=1/0;}on{wait 1;}}}");
        for (int left = number; left > 0; left -= 100) {
            Check.due("tick", house.tick(Math.min(100, left)), Math.min(100, left));
        }
        Check.due("the LOG's count", house.total(4), number);
        return house;
    }

    /** The first 400 are kept, all are counted. */
    private static void logOfFourHundred() {
        for (int number : new int[] {399, 400, 401, 500}) {
            FairHouse house = logOf(number);
            int kept = Math.min(400, number);
            Check.due("the first", house.log(0, 3), 1);
            Check.due("the last that is kept", house.log(kept - 1, 0) + " " + house.log(kept - 1, 1) + " "
                    + house.log(kept - 1, 2) + " " + house.log(kept - 1, 3), "1 0 6 " + kept);
            for (int i : new int[] {kept, kept + 1, 400, number}) {
                Check.throwsOnly("log(" + i + ") of " + number, Check.INDEX, () -> house.log(i, 0));
            }
            Check.due("the LOG's count", house.total(4), number);
            house.open();
            Check.due("none behind open()", house.total(4), 0);
            Check.throwsOnly("none behind open()", Check.INDEX, () -> house.log(0, 0));
        }
    }

    /** IllegalStateException, of 6 to 17: without a fair, whatever the arguments are. */
    private static void withoutAFairAllIsRefused() {
        List<Supplier<FairHouse>> makers = new ArrayList<>();
        makers.add(FairHouse::new);
        makers.add(() -> tapeOf(20));
        makers.add(EdgesOfCallsTest::spoilt);
        for (Supplier<FairHouse> maker : makers) {
            refuses("open", Check.STATE, maker, FairHouse::open);
            for (int n : new int[] {LEAST, -1, 0, 1, 500, GREATEST}) {
                refuses("come", Check.STATE, maker, one -> one.come(n, 1));
                refuses("come", Check.STATE, maker, one -> one.come(0, n));
                refuses("wind", Check.STATE, maker, one -> one.wind(n));
                refuses("tick", Check.STATE, maker, one -> one.tick(n));
                refuses("measure", Check.STATE, maker, one -> one.measure(n, 0));
                refuses("measure", Check.STATE, maker, one -> one.measure(0, n));
                refuses("says", Check.STATE, maker, one -> one.says(n, 0));
                refuses("says", Check.STATE, maker, one -> one.says(0, n));
                refuses("script", Check.STATE, maker, one -> one.script(n, 0));
                refuses("script", Check.STATE, maker, one -> one.script(0, n));
                refuses("free", Check.STATE, maker, one -> one.free(n));
                refuses("isUp", Check.STATE, maker, one -> one.isUp(n));
                refuses("set", Check.STATE, maker, one -> one.set(n, true));
                refuses("total", Check.STATE, maker, one -> one.total(n));
                refuses("log", Check.STATE, maker, one -> one.log(n, 0));
                refuses("log", Check.STATE, maker, one -> one.log(0, n));
            }
        }
    }

    /** An object is used for at most 512 calls: the 512th answers as the first does. */
    private static void theLastOfItsCalls() {
        FairHouse house = new FairHouse();
        Check.due("call 1", house.feed(0x72696465, 0x20612061, 0x72636820, 0x317b6c6f, 0x6f707b77), 20);
        Check.due("call 2", house.feed(0x61697420, 0x313b7d7d, 0, 0, 0), 40);
        Check.due("call 3", house.read(28), 0);
        for (int call = 4; call <= 511; call++) {
            Check.due("call " + call, house.tick(100), 0);
        }
        Check.due("call 512", house.total(0), 50800);
    }
}
