import java.nio.charset.StandardCharsets;

/** What the tests share: they count wrong answers, print each, and end with exit code 1 if there was one. */
final class Check {
    static final Class<?> STATE = IllegalStateException.class;
    static final Class<?> INDEX = IndexOutOfBoundsException.class;
    static final Class<?> ARGUMENT = IllegalArgumentException.class;

    private static int asked = 0;
    private static int wrong = 0;

    private Check() {
    }

    interface Call {
        void run();
    }

    static void due(String what, long got, long want) {
        asked++;
        if (got != want) {
            wrong++;
            System.out.println(what + " answered " + got + ", due is " + want);
        }
    }

    static void due(String what, boolean got, boolean want) {
        due(what, got ? 1 : 0, want ? 1 : 0);
    }

    static void due(String what, String got, String want) {
        asked++;
        if (!got.equals(want)) {
            wrong++;
            System.out.println(what + " answered " + got + ", due is " + want);
        }
    }

    /** The call throws exactly this class, not one below it. */
    static void throwsOnly(String what, Class<?> want, Call call) {
        String got = "nothing";
        try {
            call.run();
        } catch (RuntimeException e) {
            got = e.getClass().getName();
        }
        due(what + " throws", got, want.getName());
    }

    /** The call throws exactly this class, and all stands as it was ahead of it. */
    static void refuses(String what, Class<?> want, FairHouse house, Call call) {
        String before = all(house);
        throwsOnly(what, want, call);
        due("unchanged behind " + what, all(house), before);
    }

    static void end() {
        System.out.println(asked + " answers, " + wrong + " of them wrong");
        if (wrong > 0) {
            System.exit(1);
        }
    }

    /** Feeds a text, filled up with blanks to twenty bytes, behind what is on the tape. */
    static void feed(FairHouse house, String text) {
        byte[] bytes = text.getBytes(StandardCharsets.ISO_8859_1);
        for (int from = 0; from < bytes.length; from += 20) {
            int[] five = new int[5];
            for (int i = 0; i < 20; i++) {
                int one = from + i < bytes.length ? bytes[from + i] & 255 : ' ';
                five[i / 4] = five[i / 4] << 8 | one;
            }
            house.feed(five[0], five[1], five[2], five[3], five[4]);
        }
    }

    static int read(FairHouse house, String text) {
        feed(house, text);
        return house.read(text.length());
    }

    /** A fair that must have no FAULT. */
    static FairHouse fair(String text) {
        FairHouse house = new FairHouse();
        due("read of: " + text, read(house, text), 0);
        due("fault(0) of: " + text, house.fault(0), 0);
        due("fault(1) of: " + text, house.fault(1), FairHouse.NONE);
        return house;
    }

    /** A text with this FAULT at the @, which is not of the text. */
    static void faults(int fault, String marked) {
        int place = marked.indexOf('@');
        String text = marked.substring(0, place) + marked.substring(place + 1);
        FairHouse house = new FairHouse();
        due("read of: " + marked, read(house, text), fault);
        due("fault(0) of: " + marked, house.fault(0), fault);
        due("fault(1) of: " + marked, house.fault(1), place);
        due("rides of: " + marked, house.count(0), 0);
        throwsOnly("open() of: " + marked, STATE, house::open);
    }

    static String repeat(String part, int times) {
        StringBuilder text = new StringBuilder();
        for (int i = 0; i < times; i++) {
            text.append(part);
        }
        return text.toString();
    }

    /** measure(ride, 1 to 8): SPEED, GOAL, HEIGHT, GOAL, ABOARD, GLOW, VOLUME, WEAR. */
    static String measures(FairHouse house, int ride) {
        StringBuilder text = new StringBuilder();
        for (int what = 1; what <= 8; what++) {
            text.append(what == 1 ? "" : " ").append(house.measure(ride, what));
        }
        return text.toString();
    }

    /** says(ride, 0 to 4): DRAW, NOISE, TEAR, CALM, LIMIT. */
    static String says(FairHouse house, int ride) {
        StringBuilder text = new StringBuilder();
        for (int what = 0; what <= 4; what++) {
            text.append(what == 0 ? "" : " ").append(house.says(ride, what));
        }
        return text.toString();
    }

    /** script(ride, 0 to 3): state, why, place, counted. */
    static String script(FairHouse house, int ride) {
        StringBuilder text = new StringBuilder();
        for (int what = 0; what <= 3; what++) {
            text.append(what == 0 ? "" : " ").append(house.script(ride, what));
        }
        return text.toString();
    }

    /** script(ride, 4 to 7): r0 to r3. */
    static String registers(FairHouse house, int ride) {
        StringBuilder text = new StringBuilder();
        for (int what = 4; what <= 7; what++) {
            text.append(what == 4 ? "" : " ").append(house.script(ride, what));
        }
        return text.toString();
    }

    /** The whole LOG that is kept: code, RIDE, number, CLOCK; each behind a /. */
    static String log(FairHouse house) {
        StringBuilder text = new StringBuilder();
        for (int i = 0; i < house.total(4) && i < 400; i++) {
            text.append('/');
            for (int what = 0; what < 4; what++) {
                text.append(what == 0 ? "" : " ").append(house.log(i, what));
            }
        }
        return text.toString();
    }

    /** total(0 to 7): CLOCK, SERVED, GONE, WAITED, the LOG's count, DRAWS, the greatest NOISE, WIND. */
    static String totals(FairHouse house) {
        StringBuilder text = new StringBuilder();
        for (int what = 0; what <= 7; what++) {
            text.append(what == 0 ? "" : " ").append(house.total(what));
        }
        return text.toString();
    }

    /** Everything that can be asked; of a fair only while there is one. */
    static String all(FairHouse house) {
        StringBuilder text = new StringBuilder("fault " + house.fault(0) + " at " + house.fault(1) + " count");
        for (int what = 0; what <= 4; what++) {
            text.append(' ').append(house.count(what));
        }
        return house.count(0) == 0 ? text.toString() : text + ";" + allOfFair(house);
    }

    /** What open() takes back, and what it leaves. */
    static String allOfFair(FairHouse house) {
        StringBuilder text = new StringBuilder(totals(house)).append(log(house));
        for (int ride = 0; ride < house.count(0); ride++) {
            text.append('|').append(house.measure(ride, 0)).append(' ').append(measures(house, ride));
            text.append(' ').append(house.measure(ride, 9)).append(' ').append(house.measure(ride, 10));
            text.append(',').append(says(house, ride)).append(',').append(script(house, ride));
            text.append(',').append(registers(house, ride));
        }
        for (int i = 0; i < house.count(1); i++) {
            text.append(" s").append(house.free(i));
        }
        for (int i = 0; i < house.count(2); i++) {
            text.append(house.isUp(i) ? " up" : " down");
        }
        return text.toString();
    }
}
