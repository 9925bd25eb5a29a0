/**
 * Any calls with any arguments in any state: only the document's exceptions come out, MEASURES stay in their
 * bounds, the same calls give the same answers, and open() makes a fair as new. The numbers are made by a
 * rule of their own, so each run of this test is the same.
 */
public final class AnyCallsTest {
    private static final String[] WORDS = ("power staff flag ride wheel tower swing organ arch comet ghost star tail spin"
            + " lift glow sound load unload mend wait until claim free raise lower r0 r1 r2 r3 repeat loop if else guard on"
            + " leave stop why clock wind queue speed height aboard volume wear and or not up a b c s f { } ( ) ; . + - * /"
            + " = < <= > >= == != 0 1 2 9 10 100 500 9999").split(" ");
    private static final String[] RIDES = {"wheel 90 20 9", "tower 80 90 9", "swing 70 25 60 90 9", "organ 50 30", "arch 90",
        "comet 40 50 60", "ghost 9 70", "star 30 20 50 90 9 80", "tail 60 1 9 "};
    private static final String[] ABLE = {"TE", "LE", "TLE", "TO", "A", "LAO", "EAO", "TLEAO", "E"};

    private long seed;

    private AnyCallsTest(long seed) {
        this.seed = seed;
    }

    public static void main(String[] args) {
        for (int i = 0; i < 400; i++) {
            new AnyCallsTest(i).wildText();
        }
        for (int i = 0; i < 800; i++) {
            new AnyCallsTest(1000 + i).wildCalls();
        }
        for (int i = 0; i < 400; i++) {
            new AnyCallsTest(2000 + i).wildEnd();
        }
        Check.end();
    }

    private int next(int below) {
        seed = seed * 6364136223846793005L + 1442695040888963407L;
        return (int) ((seed >>> 33) % below);
    }

    private String pick(String[] of) {
        return of[next(of.length)];
    }

    /** Words in any order, bytes of any sort: always a FAULT or none, with its place in the text. */
    private void wildText() {
        StringBuilder text = new StringBuilder(next(2) == 0 ? "" : "staff s 2;flag f;ride a star 9 9 9 9 9 9{");
        int words = next(120);
        for (int i = 0; i < words; i++) {
            text.append(next(40) == 0 ? String.valueOf((char) next(256)) : pick(WORDS)).append(next(9) == 0 ? "" : " ");
        }
        FairHouse house = new FairHouse();
        int fault = Check.read(house, text.toString());
        int place = house.fault(1);
        boolean fits = fault == 0 ? place == FairHouse.NONE : place >= 0 && place <= text.length();
        Check.due("a FAULT of 0 to 5: " + text, fault >= 0 && fault <= 5, true);
        Check.due("its place: " + text, fits, true);
        Check.due("a fair or none", house.count(0) > 0, fault == 0);
        run(house, 40);
    }

    private void wildCalls() {
        String text = fairText();
        FairHouse house = Check.fair(text);
        FairHouse twin = Check.fair(text);
        FairHouse opened = Check.fair(text);
        answers(opened, 60);
        opened.open();
        long kept = seed;
        String answers = run(house, 120);
        seed = kept;
        Check.due("a twin of: " + text, answers(twin, 120), answers);
        seed = kept;
        Check.due("opened anew: " + text, answers(opened, 120), answers);
    }

    private String fairText() {
        StringBuilder text = new StringBuilder("staff s 1;staff t 2;flag f;flag g;power ").append(1 + next(900)).append(';');
        int rides = 1 + next(5);
        String leader = "";
        for (int i = 0; i < rides; i++) {
            int kind = next(leader.isEmpty() ? 8 : 9);
            text.append("ride x").append(i).append(' ').append(RIDES[kind]).append(kind == 8 ? leader : "");
            if (ABLE[kind].indexOf('T') >= 0) {
                leader = "x" + i;
            }
            text.append(next(3) == 0 ? "{repeat 3{guard{" : "{loop{guard{");
            text.append(steps(ABLE[kind], 5, 0)).append("wait 1;}on{");
            // An empty on-BLOCK, too: a SCRIPT may end right behind a STALL.
            if (next(3) > 0) {
                text.append("wait ").append(next(3)).append(';').append(steps(ABLE[kind], 2, 0));
            }
            text.append("}}}");
        }
        return text.toString();
    }

    private String steps(String able, int most, int depth) {
        StringBuilder text = new StringBuilder();
        int number = next(most + 1);
        for (int i = 0; i < number; i++) {
            text.append(step(able, depth));
        }
        return text.toString();
    }

    private String step(String able, int depth) {
        switch (next(depth < 3 ? 17 : 12)) {
            case 0:
                return able.indexOf('T') >= 0 ? "spin " + (next(230) - 115) + ";" : "mend 2;";
            case 1:
                return able.indexOf('L') >= 0 ? "lift " + next(600) + ";" : "mend r0;";
            case 2:
                return able.indexOf('A') >= 0 ? "glow " + next(110) + ";" : "raise f;";
            case 3:
                return able.indexOf('O') >= 0 ? "sound " + next(110) + ";" : "lower f;";
            case 4:
                return able.indexOf('E') >= 0 ? "load " + next(4) + ";" : "raise g;";
            case 5:
                return able.indexOf('E') >= 0 ? "unload;" : "lower g;";
            case 6:
                return "wait " + formula(0) + "/9;";
            case 7:
                return "r" + next(4) + "=" + formula(0) + ";";
            case 8:
                return "until " + condition() + ";";
            case 9:
                return next(2) == 0 ? "claim s;" : "claim t;";
            case 10:
                return next(2) == 0 ? "free s;" : "free t;";
            case 11:
                return able.indexOf('T') >= 0 ? "spin 0;until speed==0;" : "leave;";
            case 12:
                return "if " + condition() + "{" + steps(able, 3, depth + 1) + "}else{" + steps(able, 2, depth + 1) + "}";
            case 13:
                return "repeat " + formula(1) + "{" + steps(able, 3, depth + 1) + "}";
            case 14:
                return "loop{" + steps(able, 3, depth + 1) + "leave;}";
            default:
                return "guard{" + steps(able, 3, depth + 1) + "}on{" + steps(able, 2, depth + 1) + "}";
        }
    }

    private String formula(int depth) {
        switch (next(depth < 3 ? 9 : 4)) {
            case 0:
                return "" + next(30);
            case 1:
                return "r" + next(4);
            case 2:
                return pick(new String[] {"why", "clock", "wind", "queue", "speed", "height", "aboard", "wear"});
            case 3:
                return "x0." + pick(new String[] {"queue", "speed", "height", "aboard", "glow", "volume", "wear"});
            case 4:
                return "-" + formula(depth + 1);
            case 5:
                return "(" + formula(depth + 1) + ")";
            default:
                return formula(depth + 1) + pick(new String[] {"+", "-", "*", "/"}) + formula(depth + 1);
        }
    }

    private String condition() {
        String one = next(3) == 0 ? "not up f" : formula(1) + pick(new String[] {"<", "<=", ">", ">=", "==", "!="}) + formula(1);
        return next(2) == 0 ? one : one + (next(2) == 0 ? " and " : " or ") + "up g";
    }

    /** So many calls: all their answers, one behind the other. */
    private String answers(FairHouse house, int calls) {
        StringBuilder answers = new StringBuilder();
        for (int i = 0; i < calls; i++) {
            answers.append(call(house)).append(' ');
        }
        return answers.toString();
    }

    /** The same, with a look at all RIDES at times: an object is used for 512 calls at most. */
    private String run(FairHouse house, int calls) {
        StringBuilder answers = new StringBuilder();
        for (int done = 0; done < calls; done += 40) {
            answers.append(answers(house, 40));
            bounds(house);
        }
        return answers.toString();
    }

    private int argument() {
        switch (next(12)) {
            case 0:
                return -1 - next(3);
            case 1:
                return Integer.MAX_VALUE - next(2);
            case 2:
                return Integer.MIN_VALUE + next(2);
            case 3:
                return next(500);
            default:
                return next(12);
        }
    }

    private String call(FairHouse house) {
        int one = argument();
        int two = argument();
        try {
            switch (next(17)) {
                case 0:
                    return "" + house.fault(one);
                case 1:
                    return "" + house.count(one);
                case 2:
                    return "" + house.come(one, two);
                case 3:
                    return "" + house.come(next(5), 1 + next(20));
                case 4:
                    return "" + house.wind(one);
                case 5:
                    return "" + house.wind(next(100));
                case 6:
                    return "" + house.measure(one, two);
                case 7:
                    return "" + house.says(one, two);
                case 8:
                    return "" + house.script(one, two);
                case 9:
                    return "" + house.free(one);
                case 10:
                    return "" + house.isUp(one) + house.set(one, two > 5);
                case 11:
                    return "" + house.total(one);
                case 12:
                    return "" + house.log(one, two);
                case 13:
                case 14:
                    return "" + house.tick(1);
                default:
                    return "" + house.tick(one);
            }
        } catch (RuntimeException e) {
            Class<?> thrown = e.getClass();
            Check.due("an exception of the document's: " + e,
                    thrown == Check.STATE || thrown == Check.INDEX || thrown == Check.ARGUMENT, true);
            return thrown.getName();
        }
    }

    private static void bounds(FairHouse house) {
        for (int ride = 0; ride < house.count(0); ride++) {
            boolean good = within(house.measure(ride, 1), -100, 100) && within(house.measure(ride, 2), -100, 100)
                    && within(house.measure(ride, 3), 0, 1000) && within(house.measure(ride, 4), 0, 1000)
                    && within(house.measure(ride, 5), 0, house.measure(ride, 10)) && within(house.measure(ride, 6), 0, 100)
                    && within(house.measure(ride, 7), 0, 100) && within(house.measure(ride, 8), 0, 9999)
                    && within(house.measure(ride, 9), 0, 3000) && within(house.script(ride, 0), 0, 2)
                    && within(house.script(ride, 1), 0, 7);
            Check.due("within its bounds", good, true);
            // Behind the first tick a SCRIPT has something next just as long as it goes on.
            if (house.total(0) > 0) {
                Check.due("goes on, or has nothing next", house.script(ride, 0) == 0, house.script(ride, 2) != FairHouse.NONE);
            }
        }
    }

    /** A SCRIPT that is STALLED from outside in its last BLOCKS, whatever these are: it goes on or is over. */
    private void wildEnd() {
        int kind = next(8);
        String able = ABLE[kind];
        String goal = able.indexOf('T') >= 0 ? "spin 90;" : able.indexOf('L') >= 0 ? "lift 90;" : "glow 90;";
        String text = "guard{" + goal + "wait 9;}on{}";
        int blocks = next(5);
        for (int i = 0; i < blocks; i++) {
            text = wrapped(text);
        }
        FairHouse house = Check.fair("power " + (next(2) == 0 ? 1 : 9999) + ";ride a " + RIDES[kind] + "{" + text + "}");
        house.wind(next(2) == 0 ? 0 : 99);
        for (int i = 0; i < 9; i++) {
            house.tick(1);
            bounds(house);
        }
    }

    private String wrapped(String text) {
        switch (next(5)) {
            case 0:
                return "repeat " + (1 + next(3)) + "{" + text + "}";
            case 1:
                return "if 1==1{" + text + "}";
            case 2:
                return "guard{" + text + "}on{r0=1;}";
            case 3:
                return "guard{r0=1/0;}on{" + text + "}";
            default:
                return next(2) == 0 ? text + "r1=r1+1;" : "r1=r1+1;" + text;
        }
    }

    private static boolean within(int value, int least, int most) {
        return value >= least && value <= most;
    }
}
