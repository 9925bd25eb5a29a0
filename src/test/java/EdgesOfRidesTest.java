/**
 * "ABILITIES", sentence by sentence: the least and the greatest of each NUMBER and MEASURE, what is cut towards 0, each
 * limit that a RIDE has of its own, and how far it EASES: both sides of each.
 */
public final class EdgesOfRidesTest {
    private static final String[] KINDS = {"wheel 1 50 9", "tower 1 200 9", "swing 1 50 1 200 9", "organ 1 50", "arch 1",
        "comet 1 200 1", "ghost 9 1", "star 1 50 1 200 9 1", "tail 1 1 9 l"};
    // The LIMIT of each KIND, as the document tells it.
    private static final int[] LIMITS = {80, 60, 50, 80, 200, 60, 200, 40, 80};

    public static void main(String[] args) {
        allZeroAtFirst();
        goalsOfSpeed();
        goalsOfHeight();
        glowAndVolume();
        aboardUpToPlaces();
        greatestNumbers();
        drawOfTurns();
        drawOfLifts();
        drawOfLamps();
        drawOfSounds();
        noiseOfTurns();
        noiseOfLifts();
        noiseOfSounds();
        tear();
        calmOfSpeed();
        calmOfHeight();
        calmOfVolume();
        limits();
        whereNothingIsSaid();
        swingDrawsTheGreater();
        organIsCalmAndLouder();
        cometIsItsHeight();
        ghostIsHalfAsLoud();
        ghostIsCalmInTheLight();
        starDrawsTheGreaterOfBoth();
        starIsCalmInTheLight();
        tailDrawsHalf();
        speedEases();
        heightEases();
        swingIsHeldAboveThirty();
        swingBehindItsOwnEasing();
        organIsCut();
        cometFallsTwiceAsFast();
        starAheadOfTheTick();
        starByHalf();
        tailFollowsInTheSameTick();
        movedByTheLatestTick();
        Check.end();
    }

    private static FairHouse run(String ride, String script, int ticks) {
        FairHouse house = Check.fair("ride l wheel 1 50 9{}ride a " + ride + "{" + script + "}");
        house.tick(ticks);
        return house;
    }

    /** The ride's SPEED, HEIGHT, GLOW or VOLUME (measure's what) behind each of these ticks. */
    private static void each(FairHouse house, int what, int... due) {
        for (int i = 0; i < due.length; i++) {
            house.tick(1);
            Check.due("measure " + what + " at " + house.total(0), house.measure(1, what), due[i]);
        }
    }

    private static boolean has(int kind, String kinds) {
        return kinds.contains(KINDS[kind].substring(0, KINDS[kind].indexOf(' ')));
    }

    /** MEASURES (all 0 at first), also for those who ask them in an E. */
    private static void allZeroAtFirst() {
        for (int kind = 0; kind < KINDS.length; kind++) {
            FairHouse house = Check.fair("ride l wheel 1 50 9{}ride a " + KINDS[kind] + "{r0=speed+height+aboard+glow+volume;"
                    + "r1=wear+queue;r2=why+r3;}");
            Check.due("kind", house.measure(1, 0), kind);
            Check.due("measures of a " + KINDS[kind], Check.measures(house, 1), "0 0 0 0 0 0 0 0");
            Check.due("queue of a " + KINDS[kind], house.measure(1, 9), 0);
            house.tick(1);
            Check.due("registers of a " + KINDS[kind], Check.registers(house, 1), "0 0 0 0");
            Check.due("measures of a " + KINDS[kind], Check.measures(house, 1), "0 0 0 0 0 0 0 0");
        }
    }

    /** SPEED and its GOAL (-100 to 100). */
    private static void goalsOfSpeed() {
        for (int kind = 0; kind < KINDS.length; kind++) {
            if (!has(kind, "wheel swing organ star")) {
                continue;
            }
            for (int goal : new int[] {-100, -99, -1, 0, 1, 99, 100}) {
                FairHouse house = run(KINDS[kind], "spin " + goal + ";", 2);
                Check.due("GOAL", house.measure(1, 2), goal);
                Check.due("SPEED", house.measure(1, 1), goal);
                Check.due("over", house.script(1, 0), 1);
            }
            for (int goal : new int[] {-9999, -102, -101, 101, 102, 9999}) {
                FairHouse house = run(KINDS[kind], "guard{spin " + goal + ";}on{r0=why;}", 2);
                Check.due("GOAL", house.measure(1, 2), 0);
                Check.due("SPEED", house.measure(1, 1), 0);
                Check.due("why", house.script(1, 4), 2);
            }
        }
    }

    /** HEIGHT and its GOAL (0 to 1000). */
    private static void goalsOfHeight() {
        for (int kind = 0; kind < KINDS.length; kind++) {
            if (!has(kind, "tower swing comet star")) {
                continue;
            }
            for (int goal : new int[] {0, 1, 999, 1000}) {
                FairHouse house = run(KINDS[kind], "lift " + goal + ";", 5);
                Check.due("GOAL", house.measure(1, 4), goal);
                Check.due("HEIGHT", house.measure(1, 3), goal);
                house.tick(1);
                Check.due("HEIGHT stays", house.measure(1, 3), goal);
                Check.due("over", house.script(1, 0), 1);
            }
            for (int goal : new int[] {-9999, -2, -1, 1001, 1002, 9999}) {
                FairHouse house = run(KINDS[kind], "guard{lift " + goal + ";}on{r0=why;}", 5);
                Check.due("GOAL", house.measure(1, 4), 0);
                Check.due("HEIGHT", house.measure(1, 3), 0);
                Check.due("why", house.script(1, 4), 2);
            }
        }
    }

    /** GLOW (0 to 100), VOLUME (0 to 100). */
    private static void glowAndVolume() {
        for (int kind = 0; kind < KINDS.length; kind++) {
            for (int value : new int[] {0, 1, 99, 100}) {
                if (has(kind, "arch comet ghost star")) {
                    FairHouse house = run(KINDS[kind], "glow " + value + ";", 1);
                    Check.due("GLOW", house.measure(1, 6), value);
                    Check.due("over", house.script(1, 0), 1);
                }
                if (has(kind, "comet ghost star")) {
                    FairHouse house = run(KINDS[kind], "sound " + value + ";", 1);
                    Check.due("VOLUME", house.measure(1, 7), value);
                    Check.due("over", house.script(1, 0), 1);
                }
            }
            for (int value : new int[] {-9999, -2, -1, 101, 102, 9999}) {
                if (has(kind, "arch comet ghost star")) {
                    FairHouse house = run(KINDS[kind], "glow 7;guard{glow " + value + ";}on{r0=why;}", 1);
                    Check.due("GLOW stays, why", house.measure(1, 6) + " " + house.script(1, 4), "7 2");
                }
                if (has(kind, "organ comet ghost star")) {
                    FairHouse house = run(KINDS[kind], "sound 7;guard{sound " + value + ";}on{r0=why;r1=volume;}", 1);
                    Check.due("VOLUME stays, why", house.script(1, 5) + " " + house.script(1, 4), "7 2");
                }
            }
        }
    }

    /** ABOARD (0 to PLACES), PLACES (1 to 60). */
    private static void aboardUpToPlaces() {
        for (int places : new int[] {1, 4, 5, 6, 59, 60}) {
            FairHouse house = run("wheel 1 1 " + places, "until queue>0;load 13;wait 1;unload;", 1);
            house.come(1, 70);
            for (int i = 1; i <= 13; i++) {
                house.tick(1);
                Check.due("ABOARD of " + places + " at " + i, house.measure(1, 5), Math.min(places, 5 * i));
                Check.due("queue", house.measure(1, 9), 70 - Math.min(places, 5 * i));
            }
            Check.due("PLACES", house.measure(1, 10), places);
            house.tick(2);
            Check.due("none is ABOARD", house.measure(1, 5), 0);
        }
    }

    /** Each NUMBER at its greatest and at its least does what it says. */
    private static void greatestNumbers() {
        FairHouse most = run("star 500 50 500 200 60 500", "glow 100;sound 100;spin -100;lift 1000;wait 9;", 1);
        // SPEED 50 of 500: 250; LOAD 500; the greater one of 500 and 50.
        Check.due("says", Check.says(most, 1), "1250 100 60 0 40");
        Check.due("measures", Check.measures(most, 1), "-50 -100 200 1000 0 100 100 60");
        FairHouse least = run("star 1 1 1 1 1 1", "glow 100;sound 100;spin -100;lift 1000;wait 9;", 1);
        Check.due("says", Check.says(least, 1), "51 100 11 0 40");
        Check.due("measures", Check.measures(least, 1), "-1 -100 1 1000 0 100 100 11");
    }

    /** DRAW: TURNS: the size of SPEED * MASS / 100, cut towards 0. */
    private static void drawOfTurns() {
        int[][] rows = {{1, 99, 0}, {1, 100, 1}, {99, 1, 0}, {100, 1, 1}, {199, 1, 1}, {200, 1, 2}, {3, 33, 0}, {3, 34, 1},
            {500, 100, 500}, {500, 99, 495}, {499, 100, 499}, {7, 57, 3}, {7, 58, 4}, {500, 0, 0}};
        for (int[] row : rows) {
            for (int sign = -1; sign <= 1; sign += 2) {
                FairHouse house = run("wheel " + row[0] + " 50 1", "spin " + sign * row[1] + ";", 2);
                Check.due("SPEED", house.measure(1, 1), sign * row[1]);
                Check.due("DRAW of MASS " + row[0] + " at " + sign * row[1], house.says(1, 0), row[2]);
                Check.due("the size of it is in the total", house.total(5), row[2]);
            }
        }
    }

    /** LIFTS: LOAD if HEIGHT MOVED up, else 0. */
    private static void drawOfLifts() {
        for (int load : new int[] {1, 2, 499, 500}) {
            FairHouse house = Check.fair("ride l wheel 1 1 1{}ride a tower " + load + " 1 1{lift 1;wait 2;lift 0;wait 2;}");
            int[] draws = {load, 0, 0, 0};
            int[] heights = {1, 1, 0, 0};
            for (int i = 0; i < 4; i++) {
                house.tick(1);
                Check.due("HEIGHT", house.measure(1, 3), heights[i]);
                Check.due("DRAW", house.says(1, 0), draws[i]);
            }
        }
    }

    /** LAMPS: GLOW * WATTS / 100. */
    private static void drawOfLamps() {
        int[][] rows = {{99, 1, 0}, {100, 1, 1}, {1, 99, 0}, {1, 100, 1}, {1, 199, 1}, {1, 200, 2}, {33, 3, 0}, {34, 3, 1},
            {100, 500, 500}, {99, 500, 495}, {0, 500, 0}};
        for (int[] row : rows) {
            FairHouse house = run("arch " + row[1], "glow " + row[0] + ";", 1);
            Check.due("DRAW of GLOW " + row[0] + " by " + row[1], house.says(1, 0), row[2]);
        }
    }

    /** SOUNDS: VOLUME / 2. */
    private static void drawOfSounds() {
        int[][] rows = {{0, 0}, {1, 0}, {2, 1}, {3, 1}, {4, 2}, {99, 49}, {100, 50}};
        for (int[] row : rows) {
            Check.due("DRAW of a comet", run("comet 9 9 9", "sound " + row[0] + ";", 1).says(1, 0), row[1]);
            Check.due("DRAW of a ghost", run("ghost 9 9", "sound " + row[0] + ";", 1).says(1, 0), row[1]);
        }
        // Where several say something it is the sum of what each says: 1 of 1.98, 1 of 1.5.
        Check.due("DRAW", run("ghost 9 2", "glow 99;sound 3;", 1).says(1, 0), 2);
        Check.due("DRAW", run("organ 199 3", "spin 3;sound 3;wait 9;", 1).says(1, 0), 5 + 1);
    }

    /** NOISE: TURNS: the size of SPEED / 2. */
    private static void noiseOfTurns() {
        int[][] rows = {{0, 0}, {1, 0}, {2, 1}, {3, 1}, {99, 49}, {100, 50}};
        for (int[] row : rows) {
            for (int sign = -1; sign <= 1; sign += 2) {
                FairHouse house = run("wheel 1 50 1", "spin " + sign * row[0] + ";", 2);
                Check.due("NOISE at " + sign * row[0], house.says(1, 1), row[1]);
                Check.due("the greatest NOISE", house.total(6), row[1]);
            }
        }
    }

    /** LIFTS: 5 if HEIGHT MOVED, else 0; where several say something, the greatest. */
    private static void noiseOfLifts() {
        FairHouse house = Check.fair("ride l wheel 1 1 1{}ride a tower 9 1 1{lift 1;wait 2;lift 0;wait 2;}");
        for (int noise : new int[] {5, 0, 5, 0}) {
            house.tick(1);
            Check.due("NOISE at " + house.total(0), house.says(1, 1), noise);
        }
        int[][] rows = {{9, 5}, {10, 5}, {11, 5}, {12, 6}, {-9, 5}, {-12, 6}};
        for (int[] row : rows) {
            Check.due("NOISE of a swing at " + row[0], run("swing 1 50 1 1 1", "spin " + row[0] + ";lift 9;", 1).says(1, 1),
                    row[1]);
            // At its GOAL it moves no more.
            Check.due("NOISE of a swing at rest", run("swing 1 50 1 1 1", "spin " + row[0] + ";", 1).says(1, 1),
                    Math.abs(row[0]) / 2);
        }
    }

    /** SOUNDS: VOLUME. */
    private static void noiseOfSounds() {
        for (int volume : new int[] {0, 1, 4, 5, 6, 100}) {
            Check.due("NOISE of a comet", run("comet 9 9 9", "sound " + volume + ";", 1).says(1, 1), volume);
            Check.due("NOISE of one that moves", run("comet 9 9 9", "sound " + volume + ";lift 9;", 1).says(1, 1),
                    Math.max(5, volume));
            // SPEED 20 of a star: 10.
            Check.due("NOISE of a star", run("star 1 20 1 1 1 1", "sound " + volume + ";spin 20;", 1).says(1, 1),
                    Math.max(10, volume));
        }
    }

    /** TEAR: TURNS: the size of SPEED. LIFTS: 10 if HEIGHT MOVED, else 0. The sums. */
    private static void tear() {
        for (int speed : new int[] {-50, -1, 0, 1, 50}) {
            int size = Math.abs(speed);
            Check.due("TEAR of a wheel", run("wheel 1 50 1", "spin " + speed + ";", 1).says(1, 2), size);
            Check.due("TEAR of an organ", run("organ 1 50", "spin " + speed + ";", 1).says(1, 2), size);
            Check.due("TEAR of a swing", run("swing 1 50 1 1 1", "spin " + speed + ";", 1).says(1, 2), size);
            Check.due("TEAR of a swing that moves", run("swing 1 50 1 1 1", "spin " + speed + ";lift 1;", 1).says(1, 2), size + 10);
            Check.due("TEAR of a star that moves", run("star 1 50 1 1 1 1", "spin " + speed + ";lift 1;", 1).says(1, 2), size + 10);
        }
        FairHouse tower = Check.fair("ride l wheel 1 1 1{}ride a tower 9 1 1{lift 1;wait 2;lift 0;wait 2;}");
        FairHouse comet = Check.fair("ride l wheel 1 1 1{}ride a comet 9 1 1{lift 1;wait 2;lift 0;wait 2;}");
        for (int moved : new int[] {10, 0, 10, 0}) {
            tower.tick(1);
            comet.tick(1);
            Check.due("TEAR of a tower", tower.says(1, 2), moved);
            Check.due("TEAR of a comet is twice that", comet.says(1, 2), 2 * moved);
        }
        Check.due("TEAR of one without", run("ghost 9 500", "glow 100;sound 100;", 1).says(1, 2), 0);
    }

    /** CALM: TURNS: SPEED is 0. */
    private static void calmOfSpeed() {
        for (int speed : new int[] {-1, 0, 1, 50}) {
            for (String kind : new String[] {"wheel 1 50 1", "swing 1 50 1 1 1"}) {
                Check.due("CALM of a " + kind, run(kind, "spin " + speed + ";", 1).says(1, 3), speed == 0 ? 1 : 0);
            }
            Check.due("CALM of a star", run("star 1 50 1 1 1 1", "glow 20;spin " + speed + ";", 1).says(1, 3), speed == 0 ? 1 : 0);
        }
    }

    /** LIFTS: HEIGHT is 0. */
    private static void calmOfHeight() {
        for (int height : new int[] {0, 1, 9}) {
            for (String kind : new String[] {"tower 1 9 1", "swing 1 9 1 9 1", "comet 1 9 1", "star 1 9 1 9 1 1"}) {
                String light = kind.startsWith("star") ? "glow 20;" : "";
                Check.due("CALM of a " + kind, run(kind, light + "lift " + height + ";", 1).says(1, 3), height == 0 ? 1 : 0);
            }
        }
    }

    /** SOUNDS: VOLUME is at most 50. */
    private static void calmOfVolume() {
        for (int volume : new int[] {0, 49, 50, 51, 100}) {
            int calm = volume <= 50 ? 1 : 0;
            Check.due("CALM of a ghost", run("ghost 9 1", "glow 50;sound " + volume + ";", 1).says(1, 3), calm);
            Check.due("CALM of a star", run("star 1 9 1 9 1 1", "glow 20;sound " + volume + ";", 1).says(1, 3), calm);
        }
    }

    /** LIMIT (of wind): as much WIND does not bar it, one more does. */
    private static void limits() {
        for (int kind = 0; kind < KINDS.length; kind++) {
            String step = has(kind, "wheel swing organ star") ? "spin 1;" : has(kind, "tower comet") ? "lift 1;" : "";
            FairHouse house = Check.fair("ride l wheel 1 50 9{}ride a " + KINDS[kind] + "{" + step + "wait 99;}");
            Check.due("LIMIT of a " + KINDS[kind], house.says(1, 4), LIMITS[kind]);
            house.wind(Math.min(199, LIMITS[kind]));
            house.tick(1);
            int waits = house.script(1, 0);
            Check.due("as much WIND", waits, 0);
            Check.due("LIMIT is the same at work", house.says(1, 4), LIMITS[kind]);
            house.wind(Math.min(199, LIMITS[kind] + 1));
            house.tick(1);
            Check.due("one more: DOWN, if it has a GOAL", house.script(1, 0), step.isEmpty() ? 0 : 2);
        }
    }

    /** Where no ABILITY of a RIDE says anything: DRAW, NOISE, TEAR 0, CALM 1, LIMIT 200. */
    private static void whereNothingIsSaid() {
        Check.due("an arch at first", Check.says(Check.fair("ride l wheel 1 1 1{}ride a arch 500{}"), 1), "0 0 0 1 200");
        Check.due("an arch that shines", Check.says(run("arch 500", "glow 100;", 1), 1), "500 0 0 1 200");
        Check.due("a ghost", Check.says(run("ghost 60 500", "glow 100;sound 50;", 1), 1), "525 25 0 1 200");
    }

    /** swing: DRAW is the greater one of both; LIMIT is 50. */
    private static void swingDrawsTheGreater() {
        int[][] rows = {{49, 50}, {50, 50}, {51, 51}, {100, 100}, {1, 50}};
        for (int[] row : rows) {
            // SPEED 50 of MASS twice as much, HEIGHT moves up with LOAD 50.
            FairHouse house = run("swing " + 2 * row[0] + " 50 50 1 1", "spin 50;lift 9;", 1);
            Check.due("DRAW of " + row[0] + " and 50", Check.says(house, 1), row[1] + " 25 60 0 50");
        }
        Check.due("DRAW at its HEIGHT", run("swing 2 50 500 9 1", "spin 50;lift 9;", 2).says(1, 0), 1);
    }

    /** organ: CALM is 1; NOISE is VOLUME if SPEED is 0, else VOLUME + 10. */
    private static void organIsCalmAndLouder() {
        int[][] rows = {{0, 0, 0}, {0, 1, 10}, {0, -1, 10}, {1, 1, 11}, {1, -1, 11}, {50, 50, 60}, {100, 100, 110}, {9, 0, 0}};
        for (int[] row : rows) {
            FairHouse house = Check.fair("ride l wheel 1 1 1{}ride a organ 1 50{spin " + row[1] + ";wait 1;sound " + row[0] + ";}");
            house.tick(2);
            Check.due("NOISE at SPEED " + row[1] + ", VOLUME " + row[0], house.says(1, 1), row[2]);
            Check.due("CALM", house.says(1, 3), 1);
        }
    }

    /** comet: CALM is HEIGHT's alone; TEAR is twice what LIFTS says. */
    private static void cometIsItsHeight() {
        for (int volume : new int[] {0, 50, 51, 100}) {
            Check.due("says", Check.says(run("comet 9 9 9", "sound " + volume + ";", 1), 1), volume / 2 + " " + volume + " 0 1 60");
            Check.due("says", Check.says(run("comet 9 9 9", "sound " + volume + ";lift 1;", 1), 1),
                    9 + volume / 2 + " " + Math.max(5, volume) + " 20 0 60");
        }
    }

    /** ghost: NOISE is half of what SOUNDS says. */
    private static void ghostIsHalfAsLoud() {
        int[][] rows = {{0, 0}, {1, 0}, {2, 1}, {3, 1}, {99, 49}, {100, 50}};
        for (int[] row : rows) {
            FairHouse house = run("ghost 9 9", "sound " + row[0] + ";", 1);
            Check.due("NOISE of VOLUME " + row[0], house.says(1, 1), row[1]);
            Check.due("the greatest NOISE", house.total(6), row[1]);
        }
    }

    /** CALM is 1 if GLOW is at least 50 and SOUNDS says so. */
    private static void ghostIsCalmInTheLight() {
        for (int glow : new int[] {0, 1, 49, 50, 51, 100}) {
            for (int volume : new int[] {0, 50, 51}) {
                Check.due("CALM at " + glow + ", " + volume, run("ghost 9 9", "glow " + glow + ";sound " + volume + ";", 1).says(1, 3),
                        glow >= 50 && volume <= 50 ? 1 : 0);
            }
        }
    }

    /** star: DRAW is what TURNS and LIFTS say together, and the greater one of what LAMPS and SOUNDS say. */
    private static void starDrawsTheGreaterOfBoth() {
        int[][] rows = {{24, 50, 25}, {25, 50, 25}, {26, 50, 26}, {25, 49, 25}, {25, 51, 25}, {25, 52, 26}, {0, 1, 0}, {1, 1, 1}};
        for (int[] row : rows) {
            String shine = "glow " + row[0] + ";sound " + row[1] + ";";
            Check.due("DRAW at rest", run("star 1 1 1 1 1 100", shine, 1).says(1, 0), row[2]);
            // SPEED 50 of MASS 40: 20; LOAD 300.
            Check.due("DRAW", run("star 40 50 300 1 1 100", shine + "spin 50;lift 9;", 1).says(1, 0), 320 + row[2]);
        }
    }

    /** CALM as told, but GLOW must be at least 20, too; LIMIT is 40. */
    private static void starIsCalmInTheLight() {
        for (int glow : new int[] {0, 19, 20, 21, 100}) {
            FairHouse house = run("star 1 1 1 1 1 1", "glow " + glow + ";", 1);
            Check.due("CALM at " + glow, house.says(1, 3), glow >= 20 ? 1 : 0);
            Check.due("LIMIT", house.says(1, 4), 40);
        }
    }

    /** tail: DRAW is half of what TURNS says; NOISE 0. */
    private static void tailDrawsHalf() {
        int[][] rows = {{1, 0, 0}, {2, 50, 0}, {3, 50, 0}, {4, 50, 1}, {7, 50, 1}, {8, 50, 2}, {500, 50, 125}, {8, -50, 2}};
        for (int[] row : rows) {
            FairHouse house = Check.fair("ride l wheel 1 50 9{spin " + row[1] + ";}ride a tail " + row[0] + " 1 9 l{}");
            house.tick(1);
            Check.due("says of MASS " + row[0], Check.says(house, 1), row[2] + " 0 " + Math.abs(row[1]) + " "
                    + (row[1] == 0 ? 1 : 0) + " 80");
        }
    }

    /** SPEED goes to its GOAL by ACCEL at most. */
    private static void speedEases() {
        for (int sign = -1; sign <= 1; sign += 2) {
            each(run("wheel 1 7 1", "until clock>1;spin " + 6 * sign + ";", 1), 1, 6 * sign, 6 * sign);
            each(run("wheel 1 7 1", "until clock>1;spin " + 7 * sign + ";", 1), 1, 7 * sign, 7 * sign);
            each(run("wheel 1 7 1", "until clock>1;spin " + 8 * sign + ";", 1), 1, 7 * sign, 8 * sign, 8 * sign);
            each(run("wheel 1 1 1", "until clock>1;spin " + 2 * sign + ";", 1), 1, sign, 2 * sign, 2 * sign);
            each(run("wheel 1 50 1", "until clock>1;spin " + 100 * sign + ";", 1), 1, 50 * sign, 100 * sign, 100 * sign);
            // Past 0: from 3 to -4 are 7, to -5 are 8.
            each(run("wheel 1 7 1", "spin " + 3 * sign + ";wait 1;spin " + -4 * sign + ";", 1), 1, -4 * sign, -4 * sign);
            each(run("wheel 1 7 1", "spin " + 3 * sign + ";wait 1;spin " + -5 * sign + ";", 1), 1, -4 * sign, -5 * sign);
            each(run("wheel 1 7 1", "spin " + 7 * sign + ";wait 1;spin 0;", 1), 1, 0, 0);
        }
    }

    /** HEIGHT to its GOAL by PACE at most. */
    private static void heightEases() {
        each(run("tower 1 7 1", "until clock>1;lift 6;", 1), 3, 6, 6);
        each(run("tower 1 7 1", "until clock>1;lift 7;", 1), 3, 7, 7);
        each(run("tower 1 7 1", "until clock>1;lift 8;", 1), 3, 7, 8, 8);
        each(run("tower 1 1 1", "until clock>1;lift 2;", 1), 3, 1, 2, 2);
        each(run("tower 1 200 1", "until clock>1;lift 1000;", 1), 3, 200, 400, 600, 800, 1000, 1000);
        each(run("tower 1 7 1", "lift 7;wait 1;lift 1;", 1), 3, 1, 1);
        each(run("tower 1 7 1", "lift 7;wait 1;lift 0;", 1), 3, 0, 0);
        each(run("tower 1 7 1", "lift 14;wait 2;lift 6;", 2), 3, 7, 6, 6);
        each(run("tower 1 7 1", "lift 14;wait 2;lift 7;", 2), 3, 7, 7);
    }

    /** A swing's HEIGHT does not go down while the size of SPEED is above 30. */
    private static void swingIsHeldAboveThirty() {
        for (int speed : new int[] {-31, -30, 0, 30, 31, 50}) {
            boolean held = Math.abs(speed) > 30;
            each(run("swing 1 50 1 20 1", "spin " + speed + ";lift 20;wait 1;lift 0;", 1), 3, held ? 20 : 0);
            // It goes up all the same.
            each(run("swing 1 50 1 20 1", "spin " + speed + ";lift 20;wait 1;lift 50;", 1), 3, 40, 50, 50);
        }
        // Other RIDES are not held.
        each(run("star 1 50 1 20 1 1", "spin 50;lift 20;wait 1;lift 0;", 1), 3, 0);
    }

    /** (as SPEED is behind its own easing). */
    private static void swingBehindItsOwnEasing() {
        for (int sign = -1; sign <= 1; sign += 2) {
            // From 31 to 30 in the same tick: it goes down. From 30 to 31: it does not.
            each(run("swing 1 50 1 20 1", "spin " + 31 * sign + ";lift 20;wait 1;spin " + 30 * sign + ";lift 0;", 1), 3, 0);
            each(run("swing 1 50 1 20 1", "spin " + 30 * sign + ";lift 20;wait 1;spin " + 31 * sign + ";lift 0;", 1), 3, 20, 20);
            // From 32 to 31 it is held a tick longer.
            each(run("swing 1 1 1 20 1", "lift 20;spin " + 32 * sign + ";wait 32;spin 0;lift 0;", 32), 3, 20, 0);
        }
    }

    /** An organ's VOLUME is at most the size of SPEED behind it (what is more goes). */
    private static void organIsCut() {
        for (int sign = -1; sign <= 1; sign += 2) {
            for (int volume : new int[] {0, 9, 10, 11, 100}) {
                each(run("organ 1 10", "until clock>1;spin " + 50 * sign + ";sound " + volume + ";", 1), 7, Math.min(10, volume),
                        Math.min(10, volume));
            }
            // Behind the easing: it slows down from 20 to 10 in this tick.
            each(run("organ 1 10", "spin " + 20 * sign + ";wait 2;sound 20;spin 0;", 2), 7, 10, 0);
        }
        // Within the script it is what was set.
        FairHouse house = run("organ 1 1", "sound 100;r0=volume;", 1);
        Check.due("at once, then cut", house.script(1, 4) + " " + house.measure(1, 7), "100 0");
    }

    /** A comet falls by 2 * PACE at most. */
    private static void cometFallsTwiceAsFast() {
        each(run("comet 1 7 1", "until clock>1;lift 8;", 1), 3, 7, 8, 8);
        each(run("comet 1 7 1", "lift 21;wait 3;lift 8;", 3), 3, 8, 8);
        each(run("comet 1 7 1", "lift 21;wait 3;lift 7;", 3), 3, 7, 7);
        each(run("comet 1 7 1", "lift 21;wait 3;lift 6;", 3), 3, 7, 6, 6);
        each(run("comet 1 200 1", "lift 1000;wait 5;lift 0;", 5), 3, 600, 200, 0, 0);
        // The others fall as they rise.
        each(run("star 1 1 1 7 1 1", "lift 21;wait 3;lift 0;", 3), 3, 14, 7, 0, 0);
    }

    /** A star's SPEED goes by half of ACCEL at most while HEIGHT is above 0 (as HEIGHT is ahead of the tick). */
    private static void starAheadOfTheTick() {
        // HEIGHT 0 ahead of the tick in which it rises, 1 ahead of the tick in which it falls to 0.
        FairHouse house = run("star 1 8 1 1 1 1", "until clock>1;lift 1;spin 50;wait 2;lift 0;", 1);
        int[] speeds = {8, 12, 16, 24, 32};
        int[] heights = {1, 1, 0, 0, 0};
        for (int i = 0; i < speeds.length; i++) {
            house.tick(1);
            Check.due("SPEED at " + house.total(0), house.measure(1, 1), speeds[i]);
            Check.due("HEIGHT at " + house.total(0), house.measure(1, 3), heights[i]);
        }
        // A swing does not mind its HEIGHT.
        each(run("swing 1 8 1 1 1", "until clock>1;lift 1;spin 50;", 1), 1, 8, 16, 24);
    }

    /** Half of ACCEL (1 at least), cut towards 0; to its GOAL, if that is nearer. */
    private static void starByHalf() {
        int[][] rows = {{1, 1}, {2, 1}, {3, 1}, {4, 2}, {5, 2}, {49, 24}, {50, 25}};
        for (int[] row : rows) {
            for (int sign = -1; sign <= 1; sign += 2) {
                String script = "lift 1;wait 1;spin " + 100 * sign + ";";
                each(run("star 1 " + row[0] + " 1 1 1 1", script, 1), 1, sign * row[1], sign * 2 * row[1]);
            }
        }
        each(run("star 1 10 1 1 1 1", "lift 1;wait 1;spin 4;", 1), 1, 4, 4);
        each(run("star 1 10 1 1 1 1", "lift 1;wait 1;spin 5;", 1), 1, 5, 5);
        each(run("star 1 10 1 1 1 1", "lift 1;wait 1;spin 6;", 1), 1, 5, 6, 6);
    }

    /** A tail has its LEADER's SPEED as it is by then, its GOAL counts for nothing. */
    private static void tailFollowsInTheSameTick() {
        FairHouse house = Check.fair("ride l wheel 1 30 9{spin -100;wait 5;spin 0;}ride a tail 1 1 9 l{}ride b tail 1 50 9 l{}");
        int[] speeds = {-30, -60, -90, -100, -100, -70, -40, -10, 0, 0};
        for (int speed : speeds) {
            house.tick(1);
            for (int ride = 0; ride < 3; ride++) {
                Check.due("SPEED of " + ride + " at " + house.total(0), house.measure(ride, 1), speed);
            }
            Check.due("GOAL of a tail", house.measure(1, 2), 0);
        }
        // One that is DOWN follows, too, and so it does while its LEADER is DOWN.
        FairHouse down = Check.fair("ride l wheel 1 30 9{spin 60;wait 1;spin 101;}ride a tail 1 1 9 l{r0=1/0;}");
        each(down, 1, 30, 0, 0);
        // An organ leads with its SPEED, a star with its own half.
        FairHouse star = Check.fair("ride l star 1 50 1 1 1 1{lift 1;wait 1;spin 50;}ride a tail 1 1 9 l{}");
        each(star, 1, 0, 25, 50, 50);
    }

    /** MOVED, if the latest tick changed it: not by the one ahead of that, nor by one of an opening ahead. */
    private static void movedByTheLatestTick() {
        FairHouse house = Check.fair("ride l wheel 1 1 1{}ride a comet 70 9 1{lift 9;wait 2;lift 0;wait 2;}");
        String[] says = {"70 5 20 0 60", "0 0 0 0 60", "0 5 20 1 60", "0 0 0 1 60"};
        for (String due : says) {
            house.tick(1);
            Check.due("says at " + house.total(0), Check.says(house, 1), due);
        }
        house.open();
        Check.due("says at 0", Check.says(house, 1), "0 0 0 1 60");
        house.tick(1);
        Check.due("says at 1", Check.says(house, 1), says[0]);
        house.open();
        Check.due("nothing moved behind open()", Check.says(house, 1), "0 0 0 1 60");
        // By a script it is not: the GOAL alone changes.
        FairHouse again = Check.fair("ride l wheel 1 1 1{}ride a tower 70 9 1{lift 9;wait 1;r0=1;}");
        again.tick(1);
        Check.due("moved", again.says(1, 0), 70);
        Check.due("asked again", again.says(1, 0), 70);
    }
}
