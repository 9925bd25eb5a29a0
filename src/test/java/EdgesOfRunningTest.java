/**
 * "3. RUNNING", sentence by sentence: the TICK, THE STEPS, STALLS, GROUPS and THE LOG, on both sides of each bound, with
 * empty queues, rows and BLOCKS, and numbers that wrap around.
 */
public final class EdgesOfRunningTest {
    private static final String ARCH = "ride a arch 1{";
    private static final int LEAST = Integer.MIN_VALUE;
    private static final int GREATEST = Integer.MAX_VALUE;
    // In E: the greatest int, and the least one.
    private static final String MAX = "(32*64*1024*1024-1)";
    private static final String MIN = "(32*64*1024*1024)";

    public static void main(String[] args) {
        openTakesAllBack();
        clockGoesUpFirst();
        groupsOfSixtyTicks();
        goneTogether();
        fortyStepsInATick();
        furtherTurnsCount();
        whatIsLookedAtAgainCounts();
        whatWaitsAsTheFortieth();
        aStallCounts();
        eachRideHasForty();
        downOnesEase();
        powerThatIsEnough();
        shedAsLongAsItIsAbove();
        whatCanBeShed();
        shedIsOverOrDown();
        windAboveTheLimit();
        windAndNoGoal();
        shedThenWind();
        wearHasAnEnd();
        wearTooMuchToMove();
        beyondComesFirst();
        loadOfTicks();
        loadOfRiders();
        loadInEachTick();
        unloadOfRiders();
        mendOfWear();
        mendOfTicks();
        waitOfTicks();
        untilItIsTrue();
        claimUpToTwo();
        claimWhenNoneIsFree();
        freeOfWhatItHas();
        raiseAndLower();
        repeatOfTurns();
        repeatIsWorkedOutOnce();
        loopWithoutEnd();
        leaveTheInnermost();
        stopAndTheEnd();
        blocksThatEndAreLeft();
        emptyBlocks();
        wrapAround();
        wrappedWhereItIsUsed();
        byZero();
        whatMustBeWorkedOut();
        stallsInAGuard();
        stallsWithoutAGuard();
        innermostGuard();
        behindAGuard();
        stallsBehindTheScripts();
        groupsGetOnTheEarliestFirst();
        waitedOfEach();
        thirtyGroupsGetOn();
        logOfAllCodes();
        logAcrossTheFourHundredth();
        Check.end();
    }

    private static FairHouse run(String text, int ticks) {
        FairHouse house = Check.fair(text);
        house.tick(ticks);
        return house;
    }

    private static String registersOf(String script) {
        return Check.registers(run(ARCH + script + "}", 1), 0);
    }

    private static String counting(int steps) {
        return Check.repeat("r0=r0+1;", steps);
    }

    /** open(): all as new, however long it ran, and it runs as a new one does. */
    private static void openTakesAllBack() {
        String text = "staff s 2;staff t 1;flag f;power 90;ride w wheel 100 9 9{repeat 3{load 2;spin 40;wait 2;spin 0;"
                + "until speed==0;unload;claim s;}r1=7;r0=1/0;}ride v tail 50 1 5 w{loop{guard{load 3;unload;}on{claim t;"
                + "wait 2;free t;}}}ride c star 9 9 9 90 9 90{glow 60;repeat 2{repeat 2{lift 50;wait 1;raise f;}}wait 9;}";
        for (int ticks = 1; ticks <= 23; ticks += 2) {
            FairHouse house = Check.fair(text);
            FairHouse fresh = Check.fair(text);
            day(house, ticks);
            house.open();
            Check.due("open behind " + ticks, Check.all(house), Check.all(fresh));
            day(house, 19);
            day(fresh, 19);
            Check.due("run behind " + ticks, Check.all(house), Check.all(fresh));
        }
    }

    private static void day(FairHouse house, int ticks) {
        house.come(0, 12);
        house.come(1, 7);
        house.wind(ticks % 4 == 1 ? 45 : 30);
        house.set(0, ticks % 2 == 0);
        house.tick(ticks);
    }

    /** (1) CLOCK goes up by one: the first tick is 1, for the scripts, too. */
    private static void clockGoesUpFirst() {
        FairHouse house = Check.fair(ARCH + "r0=clock;wait 1;r1=clock;}");
        Check.due("CLOCK", house.total(0), 0);
        house.tick(1);
        Check.due("CLOCK", house.total(0) + " " + house.script(0, 4), "1 1");
        house.tick(1);
        Check.due("CLOCK", house.total(0) + " " + house.script(0, 5), "2 2");
    }

    /** Of each queue the GROUPS leave that came more than 60 ticks ago. */
    private static void groupsOfSixtyTicks() {
        for (int came : new int[] {0, 1, 17, 100}) {
            FairHouse house = Check.fair("ride a wheel 1 1 1{}");
            if (came > 0) {
                house.tick(came);
            }
            house.come(0, 100);
            house.tick(60);
            Check.due("60 ticks", house.measure(0, 9) + " " + house.total(2), "100 0");
            int before = house.total(4);
            house.tick(1);
            Check.due("61 ticks", house.measure(0, 9) + " " + house.total(2), "0 100");
            Check.due("log", house.log(before, 0) + " " + house.log(before, 1) + " " + house.log(before, 2) + " "
                    + house.log(before, 3), "4 0 100 " + (came + 61));
            Check.due("an empty queue is not in the LOG", house.tick(100), 0);
        }
        // They leave ahead of the scripts: those of 60 ticks get on, those of 61 do not.
        for (int clock : new int[] {60, 61}) {
            FairHouse house = Check.fair("ride a wheel 1 1 9{until clock==" + clock + ";r0=queue;load 1;}");
            house.come(0, 3);
            house.tick(clock);
            Check.due("at " + clock, house.script(0, 4) + " " + house.measure(0, 5) + " " + house.total(2),
                    clock == 60 ? "3 3 0" : "0 0 3");
        }
    }

    /** One of 4 for each RIDE and tick, with all its riders; none for a RIDE of which nobody left. */
    private static void goneTogether() {
        FairHouse house = Check.fair("ride a wheel 1 1 3{load 1;}ride b arch 1{}ride c wheel 1 1 1{}ride d wheel 1 1 1{}");
        house.come(0, 4);
        house.come(0, 2);
        house.come(0, 1);
        house.come(3, 9);
        house.tick(1);
        house.come(3, 5);
        house.come(2, 8);
        house.tick(59);
        Check.due("nobody is GONE", house.total(2), 0);
        int ended = house.total(4);
        Check.due("two more", house.tick(1), 2);
        Check.due("the first ride's", house.log(ended, 1) + " " + house.log(ended, 2), "0 4");
        Check.due("the last ride's", house.log(ended + 1, 1) + " " + house.log(ended + 1, 2), "3 9");
        Check.due("two more", house.tick(1), 2);
        Check.due("c's", house.log(ended + 2, 1) + " " + house.log(ended + 2, 2), "2 8");
        Check.due("d's", house.log(ended + 3, 1) + " " + house.log(ended + 3, 2), "3 5");
        Check.due("GONE", house.total(2), 4 + 9 + 8 + 5);
    }

    /** At most 40 STEPS in a tick; the 41st waits for the next tick. */
    private static void fortyStepsInATick() {
        for (int steps : new int[] {1, 39, 40, 41, 79, 80, 81, 120, 121}) {
            String text = ARCH + counting(steps) + "}";
            FairHouse house = Check.fair(text);
            for (int tick = 1; tick <= 4; tick++) {
                house.tick(1);
                int done = Math.min(steps, 40 * tick);
                String place = done == steps ? "1 0 -1 " : "0 0 " + (ARCH.length() + 8 * done) + " ";
                Check.due(steps + " steps at " + tick, Check.script(house, 0), place + done);
                Check.due("r0", house.script(0, 4), done);
            }
            Check.due("over in the tick of its last", house.log(0, 2), (steps + 39) / 40);
        }
    }

    /** Each further turn of a repeat or loop counts one. */
    private static void furtherTurnsCount() {
        // repeat, its STEPS, and a further turn ahead of each but the first.
        int[][] rows = {{20, 1, 40}, {21, 2, 42}, {40, 2, 80}, {41, 3, 82}};
        for (int[] row : rows) {
            FairHouse house = run(ARCH + "repeat " + row[0] + "{r0=r0+1;}}", 3);
            Check.due(row[0] + " turns", house.log(0, 2) + " " + house.script(0, 3) + " " + house.script(0, 4),
                    row[1] + " " + row[2] + " " + row[0]);
        }
        // Empty ones: repeat and a further turn for each but the first.
        int[][] empty = {{1, 1}, {39, 1}, {40, 1}, {41, 2}, {80, 2}, {81, 3}};
        for (int[] row : empty) {
            FairHouse house = run(ARCH + "repeat " + row[0] + "{}}", 3);
            Check.due(row[0] + " empty turns", house.log(0, 2) + " " + house.script(0, 3), row[1] + " " + row[0]);
        }
        String loop = ARCH + "loop{}}";
        FairHouse house = Check.fair(loop);
        for (int tick = 1; tick <= 3; tick++) {
            house.tick(1);
            Check.due("a loop", Check.script(house, 0), "0 0 " + loop.indexOf("loop") + " " + 40 * tick);
        }
    }

    /** Each STEP that is looked at again counts one. */
    private static void whatIsLookedAtAgainCounts() {
        // Of the second tick the until takes one: 39 are left.
        for (int steps : new int[] {38, 39, 40}) {
            FairHouse house = run(ARCH + "until clock==2;" + counting(steps) + "}", 1);
            Check.due("until", house.script(0, 3), 1);
            house.tick(1);
            Check.due("behind until", house.script(0, 0) + " " + house.script(0, 3), (steps <= 39 ? "1 " : "0 ")
                    + (2 + Math.min(39, steps)));
            FairHouse claims = run("staff s 1;ride b arch 1{claim s;wait 1;free s;}" + ARCH + "claim s;" + counting(steps) + "}", 1);
            Check.due("claim", claims.script(1, 3), 1);
            claims.tick(1);
            Check.due("behind claim", claims.script(1, 0) + " " + claims.script(1, 3), (steps <= 39 ? "1 " : "0 ")
                    + (2 + Math.min(39, steps)));
        }
        // Behind a wait the next STEP has a tick of its own: 40.
        for (int steps : new int[] {39, 40, 41}) {
            FairHouse house = run(ARCH + "wait 2;" + counting(steps) + "}", 2);
            Check.due("wait", house.script(0, 3), 2);
            house.tick(1);
            Check.due("behind wait", house.script(0, 0) + " " + house.script(0, 3), (steps <= 40 ? "1 " : "0 ")
                    + (2 + Math.min(40, steps)));
        }
    }

    private static void whatWaitsAsTheFortieth() {
        String[] steps = {"wait 1;", "mend 1;", "until 1<2;", "raise f;", "stop;", "if 1<2{}", "guard{}on{}", "repeat 0{}",
            "repeat 1{}", "claim s;"};
        for (String step : steps) {
            String text = "staff s 1;flag f;" + ARCH + counting(39) + step + "}";
            FairHouse fortieth = run(text, 1);
            Check.due(step + " as the 40th", Check.script(fortieth, 0), "1 0 -1 40");
            String later = "staff s 1;flag f;" + ARCH + counting(40) + step + "}";
            FairHouse next = run(later, 1);
            Check.due(step + " as the 41st", Check.script(next, 0), "0 0 " + (later.length() - step.length() - 1) + " 40");
            next.tick(1);
            Check.due(step + " in the next tick", Check.script(next, 0), "1 0 -1 41");
        }
        // Begun as the 40th it is one tick of two; as the 41st it is not begun.
        Check.due("wait 2 as the 40th", run(ARCH + counting(39) + "wait 2;}", 2).script(0, 0), 1);
        Check.due("wait 2 as the 41st", run(ARCH + counting(40) + "wait 2;}", 2).script(0, 0), 0);
        // A further turn as the 40th has begun, as the 41st it is next.
        String text = ARCH + counting(37) + "loop{r1=r1+1;}}";
        FairHouse turn = run(text, 1);
        Check.due("as the 40th", Check.script(turn, 0), "0 0 " + text.indexOf("r1=") + " 40");
        String other = ARCH + counting(38) + "loop{r1=r1+1;}}";
        FairHouse next = run(other, 1);
        Check.due("as the 41st", Check.script(next, 0), "0 0 " + other.indexOf("loop") + " 40");
    }

    /** In the same tick, with this one's count: a STEP that STALLS is one of the 40. */
    private static void aStallCounts() {
        String text = ARCH + counting(37) + "guard{glow 101;}on{r1=clock;r2=clock;}}";
        FairHouse house = run(text, 1);
        Check.due("two of the on-BLOCK are too many", Check.script(house, 0), "0 2 " + text.indexOf("r2=") + " 40");
        Check.due("r1 r2", house.script(0, 5) + " " + house.script(0, 6), "1 0");
        String last = ARCH + counting(38) + "guard{glow 101;}on{r1=clock;}}";
        FairHouse stalled = run(last, 1);
        Check.due("the STALL is the 40th", Check.script(stalled, 0), "0 2 " + last.indexOf("r1=") + " 40");
        Check.due("log", Check.log(stalled), "/1 0 2 1");
        stalled.tick(1);
        Check.due("r1", stalled.script(0, 5), 2);
        String none = ARCH + counting(39) + "guard{glow 101;}on{r1=clock;}}";
        FairHouse later = run(none, 1);
        Check.due("the STALL is the 41st", Check.script(later, 0), "0 0 " + none.indexOf("glow") + " 40");
        Check.due("log", later.total(4), 0);
        // An empty on-BLOCK behind the 40th: the SCRIPT is over in that tick.
        FairHouse over = run(ARCH + counting(38) + "guard{glow 101;}on{}}", 1);
        Check.due("over", Check.log(over), "/1 0 2 1/6 0 1 1");
        FairHouse down = run(ARCH + counting(39) + "glow 101;}", 1);
        Check.due("DOWN by the 40th", Check.script(down, 0), "2 0 -1 40");
        Check.due("not by the 41st", run(ARCH + counting(40) + "glow 101;}", 1).script(0, 0), 0);
    }

    private static void eachRideHasForty() {
        FairHouse house = run(ARCH + counting(41) + "}ride b arch 1{" + counting(40) + "}ride c arch 1{" + counting(41) + "}", 1);
        Check.due("counted", house.script(0, 3) + " " + house.script(1, 3) + " " + house.script(2, 3), "40 40 40");
        Check.due("states", house.script(0, 0) + " " + house.script(1, 0) + " " + house.script(2, 0), "0 1 0");
    }

    /** (3) It EASES (one that is DOWN, or over, too). */
    private static void downOnesEase() {
        FairHouse house = run("ride a swing 1 9 1 9 1{spin 18;lift 18;wait 2;r0=1/0;}ride b swing 1 9 1 9 1{spin 18;lift 18;}", 2);
        Check.due("up", Check.measures(house, 0), "18 18 18 18 0 0 0 47");
        house.tick(1);
        Check.due("DOWN, it eases", Check.measures(house, 0), "9 0 9 0 0 0 0 66");
        Check.due("over, it keeps its GOALS", Check.measures(house, 1), "18 18 18 18 0 0 0 65");
        house.tick(1);
        Check.due("at rest", Check.measures(house, 0), "0 0 0 0 0 0 0 76");
    }

    /** (4) if the DRAWS of all RIDES together are above it: as much as POWER is not. */
    private static void powerThatIsEnough() {
        int[][] rows = {{1, 1}, {99, 99}, {500, 500}};
        for (int[] row : rows) {
            String text = "ride a arch " + row[0] + "{glow 100;wait 9;}";
            Check.due("as much", run("power " + row[1] + ";" + text, 2).total(4), 0);
            if (row[1] > 1) {
                FairHouse less = run("power " + (row[1] - 1) + ";" + text, 1);
                Check.due("one less", Check.log(less), "/3 0 " + row[0] + " 1/2 0 7 1");
            }
        }
        FairHouse two = run("power 1;ride a arch 2{glow 100;wait 9;}", 1);
        Check.due("the least POWER", Check.log(two), "/3 0 2 1/2 0 7 1");
        // Two of one half each: together, not each for itself.
        String half = "ride a arch 50{glow 100;wait 9;}ride b arch 50{glow 100;wait 9;}";
        Check.due("together as much", run("power 100;" + half, 1).total(4), 0);
        Check.due("together one more", Check.log(run("power 99;" + half, 1)), "/3 1 50 1/2 1 7 1");
        // What is not told is 9999: 8 stars of 1250 are 10000, one of these with a WATT less is 9999.
        StringBuilder stars = new StringBuilder();
        for (int i = 0; i < 7; i++) {
            stars.append("ride x").append(i).append(" star 500 50 500 200 1 500{lift 1000;spin 50;glow 100;wait 99;}");
        }
        String last = "ride y star 500 50 500 200 1 ";
        String script = "{lift 1000;spin 50;glow 100;wait 99;}";
        Check.due("9999", run(stars + last + "499" + script, 1).total(4), 0);
        Check.due("10000", Check.log(run(stars + last + "500" + script, 1)), "/3 7 1250 1/2 7 7 1");
        Check.due("9999 as told", run("power 9999;" + stars + last + "499" + script, 1).total(4), 0);
        Check.due("9998 as told", run("power 9998;" + stars + last + "499" + script, 1).total(4), 2);
    }

    private static String shining(int... draws) {
        StringBuilder text = new StringBuilder();
        for (int i = 0; i < draws.length; i++) {
            text.append("ride x").append(i).append(" arch 100{glow ").append(draws[i]).append(";wait 9;}");
        }
        return text.toString();
    }

    /** From the last RIDE to the first one, as long as what is counted is. */
    private static void shedAsLongAsItIsAbove() {
        Check.due("one is enough", Check.log(run("power 100;" + shining(50, 30, 20, 1), 1)), "/3 3 1 1/2 3 7 1");
        Check.due("one with more than enough", Check.log(run("power 100;" + shining(50, 30, 21), 1)), "/3 2 21 1/2 2 7 1");
        Check.due("just so", Check.log(run("power 60;" + shining(50, 10, 20, 20), 1)),
                "/3 3 20 1/2 3 7 1/3 2 20 1/2 2 7 1");
        Check.due("one above", Check.log(run("power 59;" + shining(50, 10, 20, 20), 1)),
                "/3 3 20 1/2 3 7 1/3 2 20 1/2 2 7 1/3 1 10 1/2 1 7 1");
        Check.due("all", Check.log(run("power 1;" + shining(50, 10, 2), 1)),
                "/3 2 2 1/2 2 7 1/3 1 10 1/2 1 7 1/3 0 50 1/2 0 7 1");
        Check.due("all but the first", Check.log(run("power 1;" + shining(1, 10, 2), 1)), "/3 2 2 1/2 2 7 1/3 1 10 1/2 1 7 1");
        // Behind the first tick what was shed draws nothing.
        FairHouse house = run("power 100;" + shining(50, 30, 21), 1);
        house.tick(9);
        Check.due("the others are over by themselves", Check.log(house), "/3 2 21 1/2 2 7 1/6 0 9 9/6 1 9 9");
    }

    /** One with a DRAW above 0 and a GOAL, GLOW or VOLUME that is not 0. */
    private static void whatCanBeShed() {
        String last = "ride z arch 500{glow 100;wait 99;}";
        // A DRAW of 0 in spite of GLOW, VOLUME or a GOAL.
        String[] none = {"ride a arch 1{glow 99;wait 9;}", "ride a comet 1 1 1{sound 1;wait 9;}", "ride a wheel 1 1 1{spin 50;wait 9;}",
            "ride a star 1 1 1 1 1 1{glow 99;sound 1;spin 9;wait 9;}"};
        for (String ride : none) {
            FairHouse house = run("power 1;" + last + ride, 1);
            Check.due("not shed: " + ride, Check.log(house), "/3 0 500 1/2 0 7 1");
        }
        // A DRAW of 1 or more by each of these alone.
        String[] some = {"ride a arch 1{glow 100;wait 9;}", "ride a comet 1 1 1{sound 2;wait 9;}", "ride a wheel 100 1 1{spin 50;wait 9;}",
            "ride a wheel 100 1 1{spin -50;wait 9;}", "ride a tower 1 1 1{lift 1;wait 9;}"};
        for (String ride : some) {
            FairHouse house = run("power 500;" + last + ride, 1);
            Check.due("shed: " + ride, Check.log(house), "/3 1 1 1/2 1 7 1");
            Check.due("these become 0", Check.measures(house, 1).matches("-?\\d+ 0 \\d+ 0 0 0 0 \\d+"), true);
        }
        // A DRAW above 0, but nothing that is not 0: it slows down, and is not shed.
        FairHouse slow = run("power 100;ride a arch 100{wait 4;glow 100;wait 9;}ride b wheel 500 1 1{spin 4;wait 4;spin 0;wait 9;}", 5);
        // At 5 b draws 15 yet, with a GOAL of 0.
        Check.due("a alone", Check.log(slow), "/3 0 100 5/2 0 7 5");
        FairHouse down = run("power 9;ride a wheel 500 2 1{spin 1;until clock==2;spin 2;until clock==3;spin 0;wait 9;}", 1);
        Check.due("5 of 9", down.total(5) + " " + down.total(4), "5 0");
        down.tick(1);
        Check.due("10 of 9", Check.log(down), "/3 0 10 2/2 0 7 2");
        // HEIGHT at its GOAL draws nothing, though the GOAL is not 0.
        FairHouse tower = run("power 1;ride a arch 500{wait 2;glow 100;wait 9;}ride b tower 1 9 1{lift 9;wait 9;}", 3);
        Check.due("a alone", Check.log(tower), "/3 0 500 3/2 0 7 3");
        Check.due("b keeps its GOAL", tower.measure(1, 4), 9);
        // A tail draws, but has no GOAL: its LEADER is shed.
        FairHouse tail = run("power 24;ride a wheel 100 20 1{spin 20;wait 9;}ride b tail 50 1 1 a{wait 9;}", 1);
        Check.due("the LEADER", Check.log(tail), "/3 0 20 1/2 0 7 1");
    }

    /** Its SCRIPT STALLS (7; not if it is over or DOWN). */
    private static void shedIsOverOrDown() {
        FairHouse house = run("power 9;ride a arch 100{glow 10;}ride b arch 100{glow 11;r0=1/0;}ride c arch 100{guard{glow 12;wait 9;}"
                + "on{r0=why;}}", 1);
        Check.due("log", Check.log(house), "/6 0 1 1/2 1 6 1/3 2 12 1/1 2 7 1/3 1 11 1/3 0 10 1");
        Check.due("states", house.script(0, 0) + " " + house.script(1, 0) + " " + house.script(2, 0), "1 2 0");
        Check.due("dark", house.measure(0, 6) + " " + house.measure(1, 6) + " " + house.measure(2, 6), "0 0 0");
        house.tick(1);
        Check.due("why", house.script(2, 4), 7);
    }

    /** (5) one whose LIMIT is below WIND and of which a GOAL is not 0. */
    private static void windAboveTheLimit() {
        String[] rides = {"wheel 1 1 1", "swing 1 1 1 1 1", "organ 1 1", "star 1 1 1 1 1 1", "tower 1 1 1", "swing 1 1 1 1 1",
            "comet 1 1 1", "star 1 1 1 1 1 1"};
        String[] goals = {"spin 1;", "spin -1;", "spin -100;", "spin 100;", "lift 1;", "lift 1;", "lift 1000;", "lift 1;"};
        int[] limits = {80, 50, 80, 40, 60, 50, 60, 40};
        for (int i = 0; i < rides.length; i++) {
            String text = "ride a " + rides[i] + "{" + goals[i] + "wait 9;}";
            for (int force : new int[] {0, limits[i] - 1, limits[i]}) {
                FairHouse house = Check.fair(text);
                house.wind(force);
                Check.due(text + " in " + force, house.tick(2), 0);
            }
            for (int force : new int[] {limits[i] + 1, 199}) {
                FairHouse house = Check.fair(text);
                house.wind(force);
                Check.due(text + " in " + force, house.tick(1), 1);
                Check.due("log", Check.log(house), "/2 0 4 1");
                Check.due("GOALS", house.measure(0, 2) + " " + house.measure(0, 4), "0 0");
            }
        }
    }

    private static void windAndNoGoal() {
        String text = "ride a star 1 50 1 50 9 1{glow 50;sound 50;wait 9;}ride b tail 1 1 1 a{wait 9;}ride c arch 1{glow 9;wait 9;}"
                + "ride d wheel 1 9 1{spin 9;wait 1;spin 0;wait 9;}";
        FairHouse house = Check.fair(text);
        house.tick(1);
        house.wind(199);
        Check.due("no GOAL, no STALL", house.tick(5), 0);
        Check.due("lamps and sounds stay", house.measure(0, 6) + " " + house.measure(0, 7) + " " + house.measure(2, 6), "50 50 9");
        // Over: its GOALS become 0, without a STALL.
        FairHouse over = Check.fair("ride a swing 1 9 1 9 1{spin 90;lift 90;}");
        over.wind(51);
        Check.due("log", over.tick(1), 1);
        Check.due("log", Check.log(over), "/6 0 1 1");
        Check.due("measures", Check.measures(over, 0), "9 0 9 0 0 0 0 19");
        // A tail is not barred, whatever its LEADER does.
        FairHouse tail = Check.fair("ride a wheel 1 9 1{spin 9;wait 9;}ride b tail 1 1 1 a{wait 9;}");
        tail.wind(81);
        tail.tick(1);
        Check.due("the LEADER alone", Check.log(tail), "/2 0 4 1");
    }

    /** What was SHED in (4) has no GOAL in (5). */
    private static void shedThenWind() {
        FairHouse house = Check.fair("power 1;ride a wheel 100 9 1{guard{spin 9;wait 9;}on{r0=why;wait 9;}}ride b wheel 1 9 1{spin 9;wait 9;}");
        house.wind(81);
        house.tick(1);
        Check.due("log", Check.log(house), "/3 0 9 1/1 0 7 1/2 1 4 1");
    }

    /** (6) WEAR of each RIDE grows by its TEAR (9999 at most). */
    private static void wearHasAnEnd() {
        // 33 a tick come to 9999 just so, 34 would come to 10030.
        int[][] rows = {{33, 302, 9966}, {33, 303, 9999}, {33, 304, 9999}, {34, 294, 9996}, {34, 295, 9999}, {34, 296, 9999}};
        for (int[] row : rows) {
            FairHouse house = Check.fair("ride a wheel 1 50 1{spin " + row[0] + ";}");
            for (int left = row[1]; left > 0; left -= 100) {
                house.tick(Math.min(100, left));
            }
            Check.due("WEAR of " + row[0] + " at " + row[1], house.measure(0, 8), row[2]);
        }
        Check.due("none at rest", run("ride a wheel 1 50 1{}", 9).measure(0, 8), 0);
        Check.due("one of SPEED 1", run("ride a wheel 1 50 1{spin -1;}", 1).measure(0, 8), 1);
    }

    /** A ride that has this WEAR at its 22nd tick, and does this step then. */
    private static String worn(int wear, String step) {
        // 20 ticks of 50, then one of 0 or 1, while nothing is lifted.
        String text = "ride a swing 1 50 1 1 1{spin 50;wait 20;spin " + (wear - 1000) + ";wait 1;spin 0;wait 1;guard{" + step
                + "r0=7;}on{r0=why;}r1=wear;}";
        FairHouse house = run(text, 23);
        Check.due("WEAR", house.script(0, 5), wear);
        return house.script(0, 4) + " " + house.measure(0, 2) + " " + house.measure(0, 4);
    }

    /** spin, lift: 5 if WEAR is above 1000 (not for a GOAL of 0). */
    private static void wearTooMuchToMove() {
        Check.due("spin at 1000", worn(1000, "spin 9;"), "7 9 0");
        Check.due("spin at 1001", worn(1001, "spin 9;"), "5 0 0");
        Check.due("spin below 0 at 1000", worn(1000, "spin -1;"), "7 -1 0");
        Check.due("spin below 0 at 1001", worn(1001, "spin -1;"), "5 0 0");
        Check.due("spin 0 at 1001", worn(1001, "spin 0;"), "7 0 0");
        Check.due("lift at 1000", worn(1000, "lift 1;"), "7 0 1");
        Check.due("lift at 1001", worn(1001, "lift 1;"), "5 0 0");
        Check.due("lift 0 at 1001", worn(1001, "lift 0;"), "7 0 0");
        FairHouse house = run("ride a wheel 1 50 1{spin 50;wait 21;spin 0;wait 1;mend 1;spin 50;}", 24);
        Check.due("1050, then 1000: it spins", house.script(0, 0) + " " + house.measure(0, 2), "1 50");
        FairHouse little = run("ride a wheel 1 50 1{spin 1;wait 1;spin 50;wait 21;spin 0;wait 1;mend 1;spin 50;}", 25);
        Check.due("1051, then 1001: it does not", Check.log(little), "/2 0 5 25");
    }

    /** (looked at behind 2): what is beyond is 2, however worn it is. */
    private static void beyondComesFirst() {
        Check.due("spin 100", worn(1001, "spin 100;"), "5 0 0");
        Check.due("spin 101", worn(1001, "spin 101;"), "2 0 0");
        Check.due("spin -101", worn(1001, "spin -101;"), "2 0 0");
        Check.due("lift 1000", worn(1001, "lift 1000;"), "5 0 0");
        Check.due("lift 1001", worn(1001, "lift 1001;"), "2 0 0");
        Check.due("lift -1", worn(1001, "lift -1;"), "2 0 0");
        Check.due("by 0 ahead of both", worn(1001, "spin 101/0;"), "6 0 0");
    }

    /** load E: E ticks long (from this one on; below 1: none). */
    private static void loadOfTicks() {
        for (String e : new String[] {"-9999", "-1", "0", "1", "2", "3", MIN}) {
            int ticks = e.equals(MIN) ? 0 : Math.max(0, Integer.parseInt(e));
            FairHouse house = Check.fair("ride a wheel 1 1 60{load " + e + ";r0=clock;}");
            house.come(0, 60);
            house.tick(9);
            Check.due("the next STEP behind load " + e, house.script(0, 4), ticks + 1);
            Check.due("ABOARD", house.measure(0, 5), 5 * ticks);
            Check.due("counted", house.script(0, 3), 1 + Math.max(1, ticks));
        }
        // Below 1 nothing is asked: not CALM is no STALL.
        for (String e : new String[] {"0", "-1"}) {
            FairHouse house = run("ride a wheel 1 9 9{spin 9;wait 1;load " + e + ";mend " + e + ";r0=clock;}", 2);
            Check.due("not asked", house.script(0, 4) + " " + house.script(0, 0), "2 1");
        }
        FairHouse asked = run("ride a wheel 1 9 9{spin 9;wait 1;guard{load 1;}on{r0=why;}}", 2);
        Check.due("asked", asked.script(0, 4), 1);
    }

    /** At most 5 riders get on, as many as there are and PLACES left. */
    private static void loadOfRiders() {
        for (int riders = 0; riders <= 7; riders++) {
            for (int places = 1; places <= 7; places++) {
                FairHouse house = Check.fair("ride a wheel 1 1 " + places + "{load 1;}");
                if (riders > 0) {
                    house.come(0, riders);
                }
                house.tick(1);
                int on = Math.min(5, Math.min(riders, places));
                Check.due("ABOARD of " + riders + " for " + places, house.measure(0, 5), on);
                Check.due("queue", house.measure(0, 9), riders - on);
                Check.due("WAITED", house.total(3), on);
            }
        }
        // No PLACES left: it takes its ticks, and nobody gets on.
        FairHouse full = Check.fair("ride a wheel 1 1 5{load 1;load 2;r0=clock;}");
        full.come(0, 9);
        full.tick(4);
        Check.due("full", full.measure(0, 5) + " " + full.measure(0, 9) + " " + full.script(0, 4), "5 4 4");
        Check.due("WAITED by those who got on alone", full.total(3), 5);
    }

    /** In each: 1 if it is not CALM; its E is worked out once. */
    private static void loadInEachTick() {
        String text = "ride l wheel 1 9 1{wait 2;spin 9;wait 1;spin 0;wait 9;}ride a tail 1 1 60 l{guard{load 9;}on{r0=clock;}load 1;}";
        FairHouse house = Check.fair(text);
        house.come(1, 60);
        house.tick(3);
        // The LEADER turns in the third tick, behind the scripts; it is at rest again in the fourth.
        Check.due("three times five", house.measure(1, 5), 15);
        house.tick(1);
        Check.due("not CALM at 4", Check.log(house), "/1 1 1 4/2 1 1 4");
        Check.due("r0", house.script(1, 4), 4);
        FairHouse once = Check.fair("ride a wheel 1 1 60{load queue/20;r0=clock;}");
        once.come(0, 60);
        once.tick(4);
        Check.due("three ticks, as the queue was", once.script(0, 4) + " " + once.measure(0, 5), "4 15");
        // Left by a STALL it begins anew, with an E of its own.
        FairHouse anew = Check.fair("ride l wheel 1 9 1{wait 1;spin 9;wait 1;spin 0;wait 99;}"
                + "ride a tail 1 1 60 l{loop{guard{load 3;r1=clock;leave;}on{wait 2;}}}");
        anew.tick(9);
        // 1, 2; not CALM in 3; wait in 3 and 4; a further turn in 5: load in 5, 6, 7.
        Check.due("r1", anew.script(1, 5), 8);
    }

    /** unload: 1 if it is not CALM; all ABOARD leave (SERVED); in the LOG, of one rider at least. */
    private static void unloadOfRiders() {
        for (int riders : new int[] {0, 1, 5}) {
            FairHouse house = Check.fair("ride a wheel 1 1 9{load 1;unload;unload;r0=clock;}");
            if (riders > 0) {
                house.come(0, riders);
            }
            house.tick(2);
            Check.due("SERVED", house.total(1), riders);
            Check.due("ABOARD", house.measure(0, 5), 0);
            Check.due("it takes no tick", house.script(0, 4), 2);
            Check.due("log", Check.log(house), (riders > 0 ? "/5 0 " + riders + " 2" : "") + "/6 0 2 2");
        }
        for (int speed : new int[] {0, 1}) {
            FairHouse house = Check.fair("ride a wheel 1 9 9{load 1;spin " + speed + ";wait 1;guard{unload;}on{r0=why;}}");
            house.come(0, 3);
            house.tick(3);
            Check.due("CALM or not", house.script(0, 4) + " " + house.measure(0, 5) + " " + house.total(1),
                    speed == 0 ? "0 0 3" : "1 3 0");
        }
        // Not CALM is 1 also if nobody is ABOARD.
        Check.due("nobody ABOARD", run("ride a wheel 1 9 9{spin 1;wait 1;guard{unload;}on{r0=why;}}", 2).script(0, 4), 1);
    }

    /** mend: WEAR is 50 less (0 at least). */
    private static void mendOfWear() {
        // SPEED 50, then 1 or 0, then at rest.
        String[] wears = {"spin 0;wait 1;", "spin 49;wait 1;spin 0;wait 1;", "spin 50;wait 1;spin 0;wait 1;",
            "spin 50;wait 1;spin 1;wait 1;spin 0;wait 1;", "spin 50;wait 2;spin 0;wait 1;"};
        int[] before = {0, 49, 50, 51, 100};
        for (int i = 0; i < wears.length; i++) {
            FairHouse house = run("ride a wheel 1 50 1{" + wears[i] + "r0=wear;mend 1;r1=wear;}", 9);
            Check.due("WEAR", house.script(0, 4) + " " + house.script(0, 5), before[i] + " " + Math.max(0, before[i] - 50));
        }
    }

    /** mend E: E ticks long, in each: 1 if it is not CALM. */
    private static void mendOfTicks() {
        for (int e = -1; e <= 4; e++) {
            int ticks = Math.max(0, e);
            FairHouse house = run("ride a wheel 1 50 1{spin 50;wait 3;spin 0;wait 1;mend " + e + ";r0=clock;r1=wear;}", 12);
            Check.due("mend " + e, house.script(0, 4) + " " + house.script(0, 5), 5 + ticks + " " + Math.max(0, 150 - 50 * ticks));
        }
        FairHouse tail = run("ride l wheel 1 50 1{spin 50;wait 4;spin 0;wait 2;spin 1;wait 9;}ride a tail 1 1 1 l{wait 5;guard{mend 9;}"
                + "on{r0=clock;r1=wear;}}", 9);
        // At rest from 5 on: mended in 6 and 7; the LEADER turns in 7, behind the scripts.
        Check.due("not CALM any more", tail.script(1, 4) + " " + tail.script(1, 5), "8 " + (200 - 100 + 1));
    }

    /** wait E: it WAITS E ticks (below 1: none). */
    private static void waitOfTicks() {
        for (String e : new String[] {MIN, "-1", "0", "1", "2", "98"}) {
            int ticks = e.equals(MIN) ? 0 : Math.max(0, Integer.parseInt(e));
            FairHouse house = run(ARCH + "wait " + e + ";r0=clock;}", 100);
            Check.due("wait " + e, house.script(0, 4), ticks + 1);
        }
        // The greatest does not end; at rest it is looked at again in each tick.
        FairHouse house = run(ARCH + "wait " + MAX + ";r0=1;}", 100);
        Check.due("wait of the greatest", house.script(0, 3) + " " + house.script(0, 4), "100 0");
        // In the last tick of one that is last the SCRIPT is over.
        Check.due("log", Check.log(run(ARCH + "wait 1;}", 3)), "/6 0 1 1");
        Check.due("log", Check.log(run(ARCH + "wait 3;}", 3)), "/6 0 3 3");
        Check.due("log", Check.log(run(ARCH + "wait 0;}", 3)), "/6 0 1 1");
    }

    /** until C: it WAITS until C is true (asked each tick anew); behind it it follows in the same tick. */
    private static void untilItIsTrue() {
        for (int clock : new int[] {1, 2, 9}) {
            FairHouse house = run(ARCH + "until clock>=" + clock + ";r0=clock;}", 10);
            Check.due("until", house.script(0, 4) + " " + house.script(0, 3), clock + " " + (clock + 1));
        }
        // True for one tick alone: it must be asked in that one.
        Check.due("in that tick", run(ARCH + "until clock==5;r0=clock;}", 9).script(0, 4), 5);
        Check.due("never", run(ARCH + "wait 5;until clock==5;r0=clock;}", 9).script(0, 4), 0);
    }

    /** claim: 3 if it has two of these already; of each staff for itself. */
    private static void claimUpToTwo() {
        for (int claims = 1; claims <= 4; claims++) {
            FairHouse house = run("staff s 9;staff t 9;" + ARCH + "claim t;" + Check.repeat("claim s;", claims) + "wait 9;}", 1);
            Check.due(claims + " claims", house.script(0, 0), claims <= 2 ? 0 : 2);
            Check.due("free", house.free(0) + " " + house.free(1), claims <= 2 ? 9 - claims + " 8" : "9 9");
        }
        // Behind a free it may have it again.
        FairHouse again = run("staff s 9;" + ARCH + "claim s;claim s;free s;claim s;guard{claim s;}on{r0=why;}wait 9;}", 1);
        Check.due("again", again.script(0, 4) + " " + again.free(0), "3 7");
        // Two RIDES have two each.
        FairHouse two = run("staff s 4;" + ARCH + "claim s;claim s;wait 9;}ride b arch 1{claim s;claim s;wait 9;}", 1);
        Check.due("none is free", two.free(0), 0);
    }

    /** It WAITS until one of this staff is free, and has it. */
    private static void claimWhenNoneIsFree() {
        String text = "staff s 1;staff t 9;ride b arch 1{claim s;wait 3;free s;}" + ARCH + "claim s;r0=clock;}ride c arch 1{claim s;r0=clock;}";
        FairHouse house = Check.fair(text);
        for (int tick = 1; tick <= 3; tick++) {
            house.tick(1);
            Check.due("it waits", house.script(1, 0) + " " + house.script(1, 4) + " " + house.free(0), "0 0 0");
        }
        house.tick(1);
        Check.due("it has it", house.script(1, 0) + " " + house.script(1, 4) + " " + house.free(0), "1 4 0");
        // a keeps it, being over: c waits on.
        house.tick(50);
        Check.due("c waits on", house.script(2, 0), 0);
        // With two of these it does not wait, though none is free.
        Check.due("3 at once", Check.log(run("staff s 2;" + ARCH + "claim s;claim s;claim s;}", 1)), "/2 0 3 1");
        Check.due("it waits for a second", run("staff s 1;" + ARCH + "claim s;claim s;}", 5).script(0, 0), 0);
    }

    /** free: one that it has is free; 3 if it has none. */
    private static void freeOfWhatItHas() {
        for (int frees = 0; frees <= 3; frees++) {
            FairHouse house = run("staff s 5;" + ARCH + "claim s;claim s;guard{" + Check.repeat("free s;", frees) + "}on{r0=why;}wait 9;}", 1);
            Check.due(frees + " frees", house.free(0) + " " + house.script(0, 4), 3 + Math.min(2, frees) + " " + (frees == 3 ? 3 : 0));
        }
        Check.due("of none", Check.log(run("staff s 5;" + ARCH + "free s;}", 1)), "/2 0 3 1");
        // Of another staff, or another RIDE's.
        Check.due("of another staff", Check.log(run("staff s 5;staff t 5;" + ARCH + "claim s;free t;}", 1)), "/2 0 3 1");
        FairHouse other = run("staff s 5;ride b arch 1{claim s;wait 9;}" + ARCH + "free s;}", 1);
        Check.due("of another RIDE", Check.log(other) + " " + other.free(0), "/2 1 3 1 4");
    }

    private static void raiseAndLower() {
        FairHouse house = run("flag f;flag g;" + ARCH + "raise f;raise f;lower g;lower g;wait 1;lower f;raise g;}", 1);
        Check.due("flags", house.isUp(0) + " " + house.isUp(1), "true false");
        house.tick(1);
        Check.due("flags", house.isUp(0) + " " + house.isUp(1), "false true");
        // From outside it is lowered between two ticks.
        FairHouse outside = Check.fair("flag f;" + ARCH + "raise f;wait 1;if up f{r0=1;}else{r0=2;}}");
        outside.tick(1);
        Check.due("it was raised", outside.set(0, false), true);
        outside.tick(1);
        Check.due("lowered", outside.script(0, 4), 2);
    }

    /** repeat E: the BLOCK, E times (below 1: not at all). */
    private static void repeatOfTurns() {
        String[] es = {MIN, "-9999", "-1", "0", "1", "2", "3", "19"};
        int[] turns = {0, 0, 0, 0, 1, 2, 3, 19};
        for (int i = 0; i < es.length; i++) {
            FairHouse house = run(ARCH + "repeat " + es[i] + "{r0=r0+1;}}", 1);
            // The repeat, and for each turn its STEP, with a further turn ahead of all but the first.
            Check.due("repeat " + es[i], house.script(0, 4) + " " + house.script(0, 3), turns[i] + " " + Math.max(1, 2 * turns[i]));
        }
        FairHouse endless = run(ARCH + "repeat " + MAX + "{r0=r0+1;}}", 100);
        Check.due("the greatest", endless.script(0, 4) + " " + endless.script(0, 0), "2000 0");
    }

    private static void repeatIsWorkedOutOnce() {
        Check.due("more within", registersOf("r0=2;repeat r0{r0=9;r1=r1+1;}"), "9 2 0 0");
        Check.due("less within", registersOf("r0=3;repeat r0{r0=0;r1=r1+1;}"), "0 3 0 0");
        Check.due("anew in each turn of an outer one", registersOf("repeat 3{r0=r0+1;repeat r0{r1=r1+1;}}"), "3 6 0 0");
        Check.due("left early, then whole", registersOf("repeat 2{repeat 3{r0=r0+1;if r0==1{leave;}}}"), "4 0 0 0");
        Check.due("left by a STALL, then whole", registersOf("repeat 2{guard{repeat 3{r0=r0+1;r1=1/(r0-1);}}on{r2=r2+1;}}"),
                "4 0 1 0");
    }

    private static void loopWithoutEnd() {
        FairHouse house = run(ARCH + "loop{r0=r0+1;wait 1;}}", 100);
        Check.due("a turn in each tick", house.script(0, 4), 100);
        house.tick(100);
        Check.due("and so on", house.script(0, 4) + " " + house.script(0, 0), "200 0");
    }

    /** leave: behind the innermost repeat or loop. */
    private static void leaveTheInnermost() {
        Check.due("at once", registersOf("loop{leave;r0=1;}r1=1;"), "0 1 0 0");
        Check.due("the inner one", registersOf("repeat 2{repeat 2{r0=r0+1;leave;}r1=r1+1;}r2=1;"), "2 2 1 0");
        Check.due("out of BLOCKS of all sorts", registersOf("loop{if 1<2{guard{if 1>2{}else{leave;}}on{}}r0=1;}r1=1;"), "0 1 0 0");
        // Out of a guard: it holds no more.
        FairHouse house = run(ARCH + "loop{guard{leave;}on{r0=1;}}glow 101;}", 1);
        Check.due("DOWN", Check.log(house), "/2 0 2 1");
        // As the last of an outer loop's BLOCK: its further turn is next.
        String text = ARCH + "wait 1;loop{loop{wait 1;leave;}}}";
        FairHouse turn = run(text, 2);
        turn.tick(1);
        Check.due("in the next turn", Check.script(turn, 0), "0 0 " + text.indexOf("leave") + " " + (1 + 3 + 4));
    }

    /** stop: the SCRIPT is over. At the end of its BLOCK it is over, too (it keeps its staff and GOALS). */
    private static void stopAndTheEnd() {
        for (String end : new String[] {"stop;r0=1;", "loop{guard{if 1<2{stop;}r0=1;}on{r0=1;}r0=1;}r0=1;", ""}) {
            FairHouse house = run("staff s 3;ride a swing 1 9 1 9 1{claim s;spin 9;lift 9;" + end + "}", 1);
            Check.due("over", house.script(0, 0) + " " + house.script(0, 2) + " " + house.script(0, 4), "1 -1 0");
            Check.due("staff and GOALS", house.free(0) + " " + house.measure(0, 2) + " " + house.measure(0, 4), "2 9 9");
            Check.due("log", Check.log(house), "/6 0 1 1");
            Check.due("no more", house.tick(9), 0);
        }
        Check.due("stop alone", Check.script(run(ARCH + "stop;}", 1), 0), "1 0 -1 1");
        Check.due("without a STEP", Check.script(run(ARCH + "}", 1), 0), "1 0 -1 0");
    }

    /** As soon as a STEP is done, BLOCKS that end behind it are left. */
    private static void blocksThatEndAreLeft() {
        String[] heads = {"if 1<2{", "if 1>2{}else{", "guard{", "repeat 1{", "guard{r0=1/0;}on{"};
        String[] tails = {"}", "}", "}on{r3=9;}", "}", "}"};
        for (int i = 0; i < heads.length; i++) {
            FairHouse over = run(ARCH + heads[i] + "wait 2;" + tails[i] + "}", 1);
            Check.due("it goes on", over.script(0, 0), 0);
            over.tick(1);
            Check.due("over in the last tick of wait", over.script(0, 0) + " " + over.script(0, 2), "1 -1");
            String text = ARCH + heads[i] + "wait 2;" + tails[i] + "r1=clock;}";
            FairHouse next = run(text, 2);
            Check.due("the next STEP", next.script(0, 2), text.indexOf("r1="));
            String turn = ARCH + "loop{" + heads[i] + "wait 2;" + tails[i] + "}}";
            FairHouse loop = run(turn, 2);
            Check.due("a further turn", loop.script(0, 2), turn.indexOf("loop"));
            String deep = ARCH + "repeat 2{" + Check.repeat(heads[i], 8) + "wait 1;" + Check.repeat(tails[i], 8) + "}}";
            FairHouse repeat = run(deep, 1);
            Check.due("a further turn of two", repeat.script(0, 0) + " " + repeat.script(0, 2), "0 " + deep.indexOf("repeat 2"));
            repeat.tick(1);
            Check.due("without a further turn", repeat.script(0, 0), 1);
        }
    }

    /** BLOCKS without a STEP. */
    private static void emptyBlocks() {
        String[] steps = {"if 1<2{}", "if 1>2{}", "if 1>2{}else{}", "if 1<2{}else{r0=9;}", "if 1>2{r0=9;}", "guard{}on{}",
            "guard{}on{r0=9;}", "repeat 0{}", "repeat 1{}", "repeat 0{r0=9;}"};
        for (String step : steps) {
            FairHouse house = run(ARCH + step + "r1=clock;}", 1);
            Check.due(step, Check.script(house, 0) + " " + Check.registers(house, 0), "1 0 -1 2 0 1 0 0");
            Check.due("alone: " + step, Check.script(run(ARCH + step + "}", 1), 0), "1 0 -1 1");
            FairHouse inTurns = run(ARCH + "repeat 2{" + step + "}}", 1);
            Check.due("in turns: " + step, Check.script(inTurns, 0), "1 0 -1 4");
        }
        FairHouse stalls = run(ARCH + "guard{r0=1/0;}on{}r1=clock;}", 1);
        Check.due("an empty on-BLOCK", Check.script(stalls, 0) + " " + Check.registers(stalls, 0), "1 6 -1 3 0 1 0 0");
    }

    /** E: ints, which wrap; / cuts towards 0. */
    private static void wrapAround() {
        String[] es = {MAX, MIN, MAX + "+1", MIN + "-1", MAX + "*2", MIN + "*2", MAX + "*" + MAX, MIN + "*" + MIN, "-" + MIN,
            MIN + "/-1", MIN + "*-1", "-" + MAX, "-" + MAX + "-1", "0-" + MIN, MAX + "-" + MIN, MIN + "+" + MIN, MAX + "/" + MIN,
            MIN + "/" + MAX, "9999*9999*9999", "7/2", "-7/2", "7/-2", "-7/-2", "1/2", "-1/2", "9999/9999", "9998/9999", MIN + "/2",
            MAX + "+1-1", "--" + MIN, "9999*9999/9999"};
        int[] due = {GREATEST, LEAST, LEAST, GREATEST, -2, 0, 1, 0, LEAST, LEAST, LEAST, -GREATEST, LEAST, LEAST, -1, 0, 0, -1,
            9999 * 9999 * 9999, 3, -3, -3, 3, 0, 0, 1, 0, -1073741824, GREATEST, LEAST, 9999};
        for (int i = 0; i < es.length; i++) {
            FairHouse house = run(ARCH + "r0=" + es[i] + ";}", 1);
            Check.due(es[i], house.script(0, 4), due[i]);
        }
        // A register goes over the end as it counts.
        FairHouse counts = run(ARCH + "r0=" + MAX + "-2;loop{r0=r0+1;if r0<0{stop;}}}", 1);
        Check.due("past the greatest", counts.script(0, 4), LEAST);
        // Compared as they are, not by their difference.
        String[] ones = {MIN + "<" + MAX, MAX + ">" + MIN, MIN + "<=" + MIN, MAX + ">=" + MAX, MIN + "!=" + MAX, MIN + "<0", MAX + ">-1",
            MAX + "+1==" + MIN};
        for (String one : ones) {
            Check.due(one, registersOf("if " + one + "{r0=1;}"), "1 0 0 0");
            Check.due("not " + one, registersOf("if not " + one + "{r0=1;}"), "0 0 0 0");
        }
    }

    /** A number that wrapped is what it is then: fits, is beyond, or is below 1. */
    private static void wrappedWhereItIsUsed() {
        // The first is 7 behind 2 to the power of 32, the second -2 and 9.
        FairHouse fits = run("ride a star 1 50 1 1 1 1{glow 64*1024*1024*64+7;sound " + MAX + "*2+9;}", 1);
        Check.due("fits again", Check.measures(fits, 0), "0 0 0 0 0 7 7 0");
        for (String e : new String[] {MAX, MIN, MAX + "+1"}) {
            for (String step : new String[] {"spin", "lift", "glow", "sound"}) {
                FairHouse house = run("ride a star 1 1 1 1 1 1{guard{" + step + " " + e + ";}on{r0=why;}}", 1);
                Check.due(step + " " + e, house.script(0, 4), 2);
            }
        }
        for (String step : new String[] {"load", "mend", "wait"}) {
            FairHouse house = run("ride a wheel 1 1 1{" + step + " " + MAX + "+1;r0=clock;}", 1);
            Check.due(step + " of what went below 0", house.script(0, 4), 1);
        }
        Check.due("repeat of what went below 0", registersOf("repeat " + MAX + "+1{r0=1;}r1=1;"), "0 1 0 0");
    }

    /** / by 0 is 6, wherever it lies; 0 divided is 0. */
    private static void byZero() {
        String[] steps = {"spin @;", "lift @;", "glow @;", "sound @;", "load @;", "mend @;", "wait @;", "until @<1;", "until 1<@;",
            "r1=@;", "repeat @{}", "if @==1{}", "if 1!=@{}else{}", "until 1>2 or @>1;", "until 1<2 and @>1;", "until not @>1;"};
        for (String step : steps) {
            for (String e : new String[] {"1/0", "0/0", "1/(1-1)", "1/r3", "1/-0", "2*(1/speed)", "-(1/0)", "1/0*0", "1/(0/7)"}) {
                String text = "ride a star 1 1 1 1 1 1{glow 20;guard{" + step.replace("@", e) + "r1=9;}on{r0=why;}}";
                FairHouse house = run(text, 1);
                Check.due(text, house.script(0, 4) + " " + house.script(0, 5), "6 0");
            }
            // A divisor of 1, -1, or what it divides being 0, is none.
            for (String e : new String[] {"0/1", "0/-1", "1/1-1"}) {
                FairHouse house = run("ride a star 1 1 1 1 1 1{glow 20;guard{" + step.replace("@", e) + "}on{r0=why;}}", 1);
                Check.due(step + " of " + e, house.script(0, 4), 0);
            }
        }
    }

    /** All is worked out from the left, as far as it must be. */
    private static void whatMustBeWorkedOut() {
        String[] holds = {"1<2 or 1/0>1", "1>2 or 1<2 or 1/0>1", "not 1>2 or 1/0>1"};
        String[] fails = {"1>2 and 1/0>1", "1<2 and 1>2 and 1/0>1", "not 1<2 and 1/0>1"};
        String[] stalls = {"1<2 and 1/0>1", "1>2 or 1/0>1", "1/0>1 or 1<2", "1/0>1 and 1>2", "1<2 and 1<2 and 1/0>1",
            "1>2 or 1>2 or 1/0>1", "1<1/0", "1/0<1/0", "not 1/0>1"};
        for (String c : holds) {
            Check.due(c, registersOf("guard{if " + c + "{r0=1;}else{r0=2;}}on{r0=why;}"), "1 0 0 0");
        }
        for (String c : fails) {
            Check.due(c, registersOf("guard{if " + c + "{r0=1;}else{r0=2;}}on{r0=why;}"), "2 0 0 0");
        }
        for (String c : stalls) {
            Check.due(c, registersOf("guard{if " + c + "{r0=1;}else{r0=2;}}on{r0=why;}"), "6 0 0 0");
        }
    }

    // The STEP of each STALL that a script makes itself, by its number, on a worn swing that turns and has no t.
    private static final String[] OWN_STALLS = {"", "unload;", "spin 101;", "free t;", "", "lift 1;", "wait 1/0;"};

    /** A swing that has one of the staff s and turns from the first tick on; the script goes on as told. */
    private static String swing(String script) {
        return "staff s 2;staff t 2;ride a swing 9 50 9 1 9{claim s;spin 50;" + script + "}";
    }

    /** The on-BLOCK, why being the number (0 at first); GOALS become 0. */
    private static void stallsInAGuard() {
        for (int number = 1; number <= 6; number++) {
            if (number != 4) {
                String guarded = "guard{" + OWN_STALLS[number] + "r1=9;}on{r0=why;}";
                FairHouse house = run(swing("wait 21;r2=why;" + guarded + "r3=why;wait 9;"), 22);
                Check.due("STALL " + number, Check.registers(house, 0), number + " 0 0 " + number);
                Check.due("log", Check.log(house), "/1 0 " + number + " 22");
                Check.due("why", house.script(0, 0) + " " + house.script(0, 1), "0 " + number);
                Check.due("GOALS", house.measure(0, 2) + " " + house.measure(0, 4), "0 0");
                Check.due("it keeps its staff", house.free(0), 1);
            }
        }
        String guarded = swing("lift 9;guard{wait 21;}on{r0=why;wait 9;}");
        FairHouse wind = Check.fair(guarded);
        wind.wind(51);
        wind.tick(2);
        Check.due("STALL 4", Check.log(wind) + " " + wind.script(0, 4), "/1 0 4 1 4");
        FairHouse power = run("power 1;" + guarded, 2);
        Check.due("STALL 7", Check.log(power) + " " + power.script(0, 4), "/3 0 9 1/1 0 7 1 7");
        Check.due("GOALS", power.measure(0, 2) + " " + power.measure(0, 4), "0 0");
        Check.due("it keeps its staff", wind.free(0) + " " + power.free(0), "1 1");
    }

    /** Without one the RIDE is DOWN: its SCRIPT is over, its staff free. */
    private static void stallsWithoutAGuard() {
        for (int number = 1; number <= 6; number++) {
            if (number != 4) {
                FairHouse house = run(swing("wait 21;claim s;" + OWN_STALLS[number] + "r1=9;"), 22);
                Check.due("DOWN by " + number, Check.log(house), "/2 0 " + number + " 22");
                Check.due("script", house.script(0, 0) + " " + house.script(0, 2) + " " + house.script(0, 5), "2 -1 0");
                Check.due("staff", house.free(0) + " " + house.free(1), "2 2");
                Check.due("GOALS", house.measure(0, 2) + " " + house.measure(0, 4), "0 0");
                Check.due("no more", house.tick(9), 0);
            }
        }
        FairHouse wind = Check.fair(swing("claim t;wait 9;"));
        wind.wind(51);
        wind.tick(1);
        Check.due("DOWN by 4", Check.log(wind) + " " + wind.free(0) + wind.free(1), "/2 0 4 1 22");
        FairHouse power = run("power 1;" + swing("claim t;wait 9;"), 1);
        Check.due("DOWN by 7", Check.log(power) + " " + power.free(0) + power.free(1), "/3 0 4 1/2 0 7 1 22");
    }

    /** Of the innermost guard in whose first BLOCK it is. */
    private static void innermostGuard() {
        for (int guards = 1; guards <= 9; guards++) {
            // Each on-BLOCK but the innermost would add to r1.
            String text = ARCH + Check.repeat("guard{", guards) + "glow 101;" + "}on{r0=r0+1;}" + Check.repeat("}on{r1=r1+1;}", guards - 1) + "}";
            Check.due(guards + " guards", Check.registers(run(text, 1), 0), "1 0 0 0");
            // Each on-BLOCK STALLS in its turn: one guard takes it behind the other, the last leaves it DOWN.
            String chain = ARCH + Check.repeat("guard{", guards) + "glow 101;" + Check.repeat("}on{r0=r0+1;glow 101;}", guards) + "}";
            FairHouse house = run(chain, 1);
            Check.due("a chain of " + guards, house.script(0, 0) + " " + house.script(0, 4), "2 " + guards);
            Check.due("the LOG's count", house.total(4), guards + 1);
        }
        // Not of one that is next, or that it is behind, or in whose on-BLOCK it is.
        Check.due("ahead", Check.log(run(ARCH + "glow 101;guard{}on{r0=1;}}", 1)), "/2 0 2 1");
        Check.due("behind", Check.log(run(ARCH + "guard{r1=1;}on{r0=1;}glow 101;}", 1)), "/2 0 2 1");
        Check.due("in the on-BLOCK", Check.log(run(ARCH + "guard{glow 101;}on{glow 101;}}", 1)), "/1 0 2 1/2 0 2 1");
    }

    /** Behind either BLOCK of a guard it goes on behind it. */
    private static void behindAGuard() {
        Check.due("the first BLOCK", registersOf("guard{r0=1;}on{r1=1;}r2=1;r3=why;"), "1 0 1 0");
        Check.due("the on-BLOCK", registersOf("guard{r0=1;glow 101;r0=2;}on{r1=1;}r2=1;r3=why;"), "1 1 1 2");
        Check.due("an empty first BLOCK", registersOf("guard{}on{r1=1;}r2=1;"), "0 0 1 0");
        Check.due("an empty on-BLOCK", registersOf("guard{glow 101;}on{}r2=1;"), "0 0 1 0");
        Check.due("in a turn", registersOf("repeat 2{guard{r0=r0+1;glow 100*r0;}on{r1=r1+1;}r2=r2+1;}"), "2 1 2 0");
        Check.due("why is the latest", registersOf("guard{glow 101;}on{r0=why;guard{r3=1/0;}on{r1=why;}r2=why;}"), "2 6 6 0");
    }

    /** A STALL in (4) or (5): the on-BLOCK in the next tick. */
    private static void stallsBehindTheScripts() {
        String text = "ride a wheel 1 5 1{guard{spin 5;wait 9;}on{r0=clock;}r1=clock;wait 9;}";
        FairHouse wind = Check.fair(text);
        wind.wind(81);
        wind.tick(1);
        Check.due("next", Check.script(wind, 0) + " " + wind.script(0, 4), "0 4 " + text.indexOf("r0=") + " 3 0");
        wind.tick(1);
        Check.due("in the next tick", wind.script(0, 4) + " " + wind.script(0, 5), "2 2");
        // What was done of a wait is left: it does not count in the next one.
        FairHouse again = Check.fair("ride a wheel 1 5 1{loop{guard{spin 5;wait 3;r0=clock;stop;}on{wait 1;}}}");
        again.wind(81);
        again.tick(1);
        again.wind(80);
        again.tick(9);
        // The on-BLOCK in 2; a further turn in 3: wait in 3, 4, 5.
        Check.due("r0", again.script(0, 4), 6);
        // Done in its last tick: the guard is over, the STALL is of what is next.
        FairHouse last = Check.fair("ride a wheel 1 5 1{guard{guard{spin 5;wait 1;}on{r0=1;}r1=1;}on{r2=1;wait 9;}}");
        last.wind(81);
        last.tick(2);
        Check.due("the outer one", Check.registers(last, 0), "0 0 1 0");
        FairHouse over = Check.fair("ride a wheel 1 5 1{guard{spin 5;wait 1;}on{r0=1;}}");
        over.wind(81);
        over.tick(2);
        Check.due("over: no STALL", Check.log(over), "/6 0 1 1");
    }

    /** The earliest get on first, a GROUP perhaps in parts. */
    private static void groupsGetOnTheEarliestFirst() {
        FairHouse house = Check.fair("ride a wheel 1 1 60{until wind>0;load 3;wait 99;}");
        house.come(0, 4);
        house.tick(10);
        house.come(0, 4);
        house.tick(10);
        house.come(0, 100);
        house.wind(1);
        // At 21: 4 of 21 ticks, 1 of 11. At 22: 3 of 12, 2 of 2. At 23: 5 of 3.
        int[] waited = {4 * 21 + 11, 3 * 12 + 2 * 2, 5 * 3};
        int sum = 0;
        for (int i = 0; i < 3; i++) {
            house.tick(1);
            sum += waited[i];
            Check.due("WAITED at " + house.total(0), house.total(3), sum);
            Check.due("queue", house.measure(0, 9), 108 - 5 * (i + 1));
        }
        // What is left of a GROUP leaves by the GROUP's clock.
        house.tick(57);
        Check.due("at 80", house.measure(0, 9), 93);
        house.tick(1);
        Check.due("at 81", house.measure(0, 9) + " " + house.total(2), "0 93");
    }

    /** WAITED: CLOCK less that of their GROUP, each. */
    private static void waitedOfEach() {
        for (int ticks : new int[] {1, 2, 60}) {
            FairHouse house = Check.fair("ride a wheel 1 1 60{until clock==" + ticks + ";load 1;}");
            house.come(0, 3);
            house.tick(ticks);
            Check.due("WAITED " + ticks, house.total(3), 3 * ticks);
        }
        // Those who are GONE, or in the queue yet, are not of it.
        FairHouse house = Check.fair("ride a wheel 1 1 2{load 1;}ride b wheel 1 1 1{}");
        house.come(0, 9);
        house.come(1, 9);
        house.tick(61);
        Check.due("WAITED and GONE", house.total(3) + " " + house.total(2), "2 16");
    }

    /** A queue has 30 GROUPS at most: all of them get on, and make room. */
    private static void thirtyGroupsGetOn() {
        FairHouse house = Check.fair("ride a wheel 1 1 60{until wind>0;load 6;unload;loop{load 1;unload;}}");
        for (int i = 1; i <= 30; i++) {
            Check.due("group", house.come(0, 1), i);
            house.tick(1);
        }
        house.wind(1);
        house.tick(6);
        // Five at 31: of 31, 30, 29, 28, 27 ticks; each five of the next tick came five ticks later.
        Check.due("WAITED", house.total(3), 145 + 125 + 105 + 85 + 65 + 45);
        Check.due("empty", house.measure(0, 9), 0);
        for (int i = 1; i <= 30; i++) {
            Check.due("group again", house.come(0, 2), 2 * i);
        }
        Check.due("full again", house.come(0, 2), FairHouse.NONE);
        house.tick(12);
        Check.due("SERVED", house.total(1), 30 + 55);
    }

    /** THE LOG: each code with its RIDE, number and CLOCK. */
    private static void logOfAllCodes() {
        FairHouse house = Check.fair("power 50;ride a wheel 1 1 9{wait 59;load 1;unload;}"
                + "ride b arch 100{until clock==61;guard{glow 51;wait 9;}on{stop;}}ride c wheel 1 1 1{until clock==61;load 1/0;}");
        house.come(0, 3);
        house.tick(1);
        house.come(2, 7);
        house.tick(60);
        String first = "/5 0 3 61/6 0 61 61/2 2 6 61/3 1 51 61/1 1 7 61";
        Check.due("log", Check.log(house), first);
        house.tick(1);
        Check.due("log", Check.log(house), first + "/4 2 7 62/6 1 62 62");
    }

    /** The first 400 are kept, all are counted: also if the 400th is in the midst of a tick. */
    private static void logAcrossTheFourHundredth() {
        StringBuilder text = new StringBuilder();
        for (int i = 0; i < 12; i++) {
            text.append("ride x").append(i).append(" arch 1{loop{guard{r0=1/0;}on{wait 1;}}}");
        }
        FairHouse house = Check.fair(text.toString());
        Check.due("33 ticks", house.tick(33), 396);
        Check.due("the 34th", house.tick(1), 12);
        Check.due("counted", house.total(4), 408);
        Check.due("the 400th", house.log(399, 0) + " " + house.log(399, 1) + " " + house.log(399, 2) + " " + house.log(399, 3), "1 3 6 34");
        Check.throwsOnly("the 401st", Check.INDEX, () -> house.log(400, 0));
        Check.throwsOnly("the 408th", Check.INDEX, () -> house.log(407, 0));
        // 13, 13 and 14 of a RIDE in three ticks: the 400th is the 88th of the third, the fourth of RIDE 6.
        FairHouse many = Check.fair(text.toString().replace("on{wait 1;}", "on{}"));
        Check.due("three ticks", many.tick(1) + " " + many.tick(1) + " " + many.tick(1), "156 156 168");
        Check.due("the 400th", many.log(399, 1) + " " + many.log(399, 3), "6 3");
        Check.due("the 397th", many.log(396, 1) + " " + many.log(396, 3), "6 3");
        Check.due("the 396th", many.log(395, 1) + " " + many.log(395, 3), "5 3");
        Check.throwsOnly("the 401st", Check.INDEX, () -> many.log(400, 0));
    }
}
