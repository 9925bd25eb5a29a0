/** "ABILITIES": promises 10 measure, 11 says, and what EASES. */
public final class Part3AbilitiesTest {
    public static void main(String[] args) {
        atFirst();
        wrongAsked();
        wheel();
        tower();
        swing();
        swingIsHeld();
        organ();
        arch();
        comet();
        ghost();
        star();
        starTurnsSlowly();
        tail();
        tailsOfAStar();
        movedByTheLatestTick();
        wearHasAnEnd();
        Check.end();
    }

    /** One tick, then its measures (SPEED GOAL HEIGHT GOAL ABOARD GLOW VOLUME WEAR) and what it says. */
    private static void ticks(FairHouse house, int ride, String measures, String says) {
        house.tick(1);
        String when = "ride " + ride + " at " + house.total(0);
        Check.due("measures of " + when, Check.measures(house, ride), measures);
        Check.due("says of " + when, Check.says(house, ride), says);
    }

    private static void atFirst() {
        FairHouse house = Check.fair("ride a wheel 9 9 9{}ride b tower 9 9 8{}ride c swing 9 9 9 9 7{}ride d organ 9 9{}"
                + "ride e arch 9{}ride f comet 9 9 9{}ride g ghost 6 9{}ride h star 9 9 9 9 5 9{}ride i tail 9 9 4 a{}");
        int[] places = {9, 8, 7, 0, 0, 0, 6, 5, 4};
        String[] says = {"0 0 0 1 80", "0 0 0 1 60", "0 0 0 1 50", "0 0 0 1 80", "0 0 0 1 200", "0 0 0 1 60",
            "0 0 0 0 200", "0 0 0 0 40", "0 0 0 1 80"};
        for (int ride = 0; ride < 9; ride++) {
            Check.due("kind of " + ride, house.measure(ride, 0), ride);
            Check.due("measures of " + ride, Check.measures(house, ride), "0 0 0 0 0 0 0 0");
            Check.due("queue of " + ride, house.measure(ride, 9), 0);
            Check.due("places of " + ride, house.measure(ride, 10), places[ride]);
            Check.due("says of " + ride, Check.says(house, ride), says[ride]);
        }
    }

    private static void wrongAsked() {
        FairHouse house = Check.fair("ride a wheel 9 9 9{}ride b wheel 9 9 9{}");
        for (int ride : new int[] {-1, 2, 11, 12, Integer.MIN_VALUE, Integer.MAX_VALUE}) {
            Check.throwsOnly("measure", Check.INDEX, () -> house.measure(ride, 0));
            Check.throwsOnly("says", Check.INDEX, () -> house.says(ride, 0));
        }
        for (int what : new int[] {-1, 11, Integer.MIN_VALUE, Integer.MAX_VALUE}) {
            Check.throwsOnly("measure", Check.INDEX, () -> house.measure(1, what));
        }
        for (int what : new int[] {-1, 5, Integer.MIN_VALUE, Integer.MAX_VALUE}) {
            Check.throwsOnly("says", Check.INDEX, () -> house.says(1, what));
        }
    }

    private static void wheel() {
        FairHouse house = Check.fair("ride a wheel 250 30 6{spin 100;wait 4;spin -55;wait 9;}");
        ticks(house, 0, "30 100 0 0 0 0 0 30", "75 15 30 0 80");
        ticks(house, 0, "60 100 0 0 0 0 0 90", "150 30 60 0 80");
        ticks(house, 0, "90 100 0 0 0 0 0 180", "225 45 90 0 80");
        ticks(house, 0, "100 100 0 0 0 0 0 280", "250 50 100 0 80");
        ticks(house, 0, "70 -55 0 0 0 0 0 350", "175 35 70 0 80");
        ticks(house, 0, "40 -55 0 0 0 0 0 390", "100 20 40 0 80");
        ticks(house, 0, "10 -55 0 0 0 0 0 400", "25 5 10 0 80");
        ticks(house, 0, "-20 -55 0 0 0 0 0 420", "50 10 20 0 80");
        ticks(house, 0, "-50 -55 0 0 0 0 0 470", "125 25 50 0 80");
        ticks(house, 0, "-55 -55 0 0 0 0 0 525", "137 27 55 0 80");
        ticks(house, 0, "-55 -55 0 0 0 0 0 580", "137 27 55 0 80");
    }

    private static void tower() {
        FairHouse house = Check.fair("ride a tower 333 120 5{lift 250;wait 4;lift 0;wait 5;}");
        ticks(house, 0, "0 0 120 250 0 0 0 10", "333 5 10 0 60");
        ticks(house, 0, "0 0 240 250 0 0 0 20", "333 5 10 0 60");
        ticks(house, 0, "0 0 250 250 0 0 0 30", "333 5 10 0 60");
        ticks(house, 0, "0 0 250 250 0 0 0 30", "0 0 0 0 60");
        ticks(house, 0, "0 0 130 0 0 0 0 40", "0 5 10 0 60");
        ticks(house, 0, "0 0 10 0 0 0 0 50", "0 5 10 0 60");
        ticks(house, 0, "0 0 0 0 0 0 0 60", "0 5 10 1 60");
        ticks(house, 0, "0 0 0 0 0 0 0 60", "0 0 0 1 60");
    }

    private static void swing() {
        FairHouse house = Check.fair("ride a swing 100 50 60 100 1{spin 70;lift 300;wait 9;}");
        ticks(house, 0, "50 70 100 300 0 0 0 60", "60 25 60 0 50");
        ticks(house, 0, "70 70 200 300 0 0 0 140", "70 35 80 0 50");
        ticks(house, 0, "70 70 300 300 0 0 0 220", "70 35 80 0 50");
        ticks(house, 0, "70 70 300 300 0 0 0 290", "70 35 70 0 50");
        // NOISE: the greatest, where LIFTS says more.
        FairHouse slow = Check.fair("ride a swing 100 4 1 100 1{spin 4;lift 300;}");
        ticks(slow, 0, "4 4 100 300 0 0 0 14", "4 5 14 0 50");
    }

    private static void swingIsHeld() {
        FairHouse house = Check.fair("ride a swing 100 9 60 100 1{spin 40;lift 300;wait 6;lift 150;wait 2;spin 30;wait 1;"
                + "lift 400;spin -31;wait 8;lift 0;wait 2;spin -30;wait 1;}");
        house.tick(6);
        Check.due("measures", Check.measures(house, 0), "40 40 300 300 0 0 0 "
                + (9 + 18 + 27 + 36 + 40 + 40 + 30));
        ticks(house, 0, "40 40 300 150 0 0 0 240", "40 20 40 0 50");
        ticks(house, 0, "40 40 300 150 0 0 0 280", "40 20 40 0 50");
        // Its SPEED is 31 behind its easing: still held. Then 30: it goes down.
        ticks(house, 0, "31 30 300 150 0 0 0 311", "31 15 31 0 50");
        // It goes up in spite of any SPEED.
        ticks(house, 0, "22 -31 400 400 0 0 0 343", "60 11 32 0 50");
        house.tick(7);
        Check.due("measures", Check.measures(house, 0).startsWith("-31 -31 400 400"), true);
        house.tick(1);
        Check.due("held below 0, too", Check.measures(house, 0).startsWith("-31 -31 400 0"), true);
        house.tick(2);
        // In the second of these it spins at -30, its HEIGHT goes down in the same tick.
        Check.due("goes down", Check.measures(house, 0).startsWith("-30 -30 300 0"), true);
    }

    private static void organ() {
        FairHouse house = Check.fair("ride a organ 200 10{spin -35;sound 100;wait 1;wait 1;sound 100;wait 2;sound 20;"
                + "wait 1;spin 0;wait 9;}");
        ticks(house, 0, "-10 -35 0 0 0 0 10 10", "25 20 10 1 80");
        ticks(house, 0, "-20 -35 0 0 0 0 10 30", "45 20 20 1 80");
        ticks(house, 0, "-30 -35 0 0 0 0 30 60", "75 40 30 1 80");
        ticks(house, 0, "-35 -35 0 0 0 0 30 95", "85 40 35 1 80");
        ticks(house, 0, "-35 -35 0 0 0 0 20 130", "80 30 35 1 80");
        ticks(house, 0, "-25 0 0 0 0 0 20 155", "60 30 25 1 80");
        ticks(house, 0, "-15 0 0 0 0 0 15 170", "37 25 15 1 80");
        ticks(house, 0, "-5 0 0 0 0 0 5 175", "12 15 5 1 80");
        ticks(house, 0, "0 0 0 0 0 0 0 175", "0 0 0 1 80");
    }

    private static void arch() {
        FairHouse house = Check.fair("ride a arch 150{glow 33;wait 1;glow 100;wait 1;glow 0;}");
        ticks(house, 0, "0 0 0 0 0 33 0 0", "49 0 0 1 200");
        ticks(house, 0, "0 0 0 0 0 100 0 0", "150 0 0 1 200");
        ticks(house, 0, "0 0 0 0 0 0 0 0", "0 0 0 1 200");
    }

    private static void comet() {
        FairHouse house = Check.fair("ride a comet 70 50 10{lift 120;glow 55;sound 77;wait 3;sound 3;wait 1;lift 10;"
                + "wait 2;lift 0;sound 100;wait 9;}");
        ticks(house, 0, "0 0 50 120 0 55 77 20", "113 77 20 0 60");
        ticks(house, 0, "0 0 100 120 0 55 77 40", "113 77 20 0 60");
        ticks(house, 0, "0 0 120 120 0 55 77 60", "113 77 20 0 60");
        ticks(house, 0, "0 0 120 120 0 55 3 60", "6 3 0 0 60");
        // It falls twice as fast.
        ticks(house, 0, "0 0 20 10 0 55 3 80", "6 5 20 0 60");
        ticks(house, 0, "0 0 10 10 0 55 3 100", "6 5 20 0 60");
        // CALM is HEIGHT's alone, whatever SOUNDS says.
        ticks(house, 0, "0 0 0 0 0 55 100 120", "55 100 20 1 60");
        ticks(house, 0, "0 0 0 0 0 55 100 120", "55 100 0 1 60");
    }

    private static void ghost() {
        FairHouse house = Check.fair("ride a ghost 3 100{glow 50;sound 50;wait 1;glow 49;wait 1;glow 50;sound 51;wait 1;"
                + "glow 100;sound 99;wait 1;sound 0;}");
        ticks(house, 0, "0 0 0 0 0 50 50 0", "75 25 0 1 200");
        ticks(house, 0, "0 0 0 0 0 49 50 0", "74 25 0 0 200");
        ticks(house, 0, "0 0 0 0 0 50 51 0", "75 25 0 0 200");
        ticks(house, 0, "0 0 0 0 0 100 99 0", "149 49 0 0 200");
        ticks(house, 0, "0 0 0 0 0 100 0 0", "100 0 0 1 200");
    }

    private static void star() {
        FairHouse house = Check.fair("ride a star 50 5 40 100 4 200{glow 20;sound 50;wait 1;glow 19;wait 1;glow 20;"
                + "sound 51;wait 1;sound 90;glow 22;wait 1;sound 0;lift 250;spin 20;wait 9;}");
        ticks(house, 0, "0 0 0 0 0 20 50 0", "40 50 0 1 40");
        ticks(house, 0, "0 0 0 0 0 19 50 0", "38 50 0 0 40");
        ticks(house, 0, "0 0 0 0 0 20 51 0", "40 51 0 0 40");
        ticks(house, 0, "0 0 0 0 0 22 90 0", "45 90 0 0 40");
        ticks(house, 0, "5 20 100 250 0 22 0 15", "86 5 15 0 40");
        ticks(house, 0, "7 20 200 250 0 22 0 32", "87 5 17 0 40");
        ticks(house, 0, "9 20 250 250 0 22 0 51", "88 5 19 0 40");
        ticks(house, 0, "11 20 250 250 0 22 0 62", "49 5 11 0 40");
        ticks(house, 0, "13 20 250 250 0 22 0 75", "50 6 13 0 40");
    }

    private static void starTurnsSlowly() {
        // Half of ACCEL, but 1 at least; as HEIGHT is ahead of the tick.
        FairHouse house = Check.fair("ride a star 1 1 1 100 1 1{lift 100;spin 9;wait 2;lift 0;wait 9;}"
                + "ride b star 1 7 1 100 1 1{lift 100;spin 90;wait 2;lift 0;spin -90;wait 9;}");
        int[] first = {1, 2, 3, 4, 5};
        int[] second = {7, 10, 7, 0, -7};
        for (int i = 0; i < 5; i++) {
            house.tick(1);
            Check.due("speed of a", house.measure(0, 1), first[i]);
            Check.due("speed of b", house.measure(1, 1), second[i]);
            Check.due("height", house.measure(1, 3), i < 2 ? 100 : 0);
        }
    }

    private static void tail() {
        FairHouse house = Check.fair("ride a wheel 1 30 1{spin 50;wait 2;spin 0;wait 9;}ride b tail 303 1 1 a{}"
                + "ride c tail 1 1 1 a{wait 9;}");
        ticks(house, 1, "30 0 0 0 0 0 0 30", "45 0 30 0 80");
        ticks(house, 1, "50 0 0 0 0 0 0 80", "75 0 50 0 80");
        Check.due("the other one", Check.measures(house, 2), "50 0 0 0 0 0 0 80");
        ticks(house, 1, "20 0 0 0 0 0 0 100", "30 0 20 0 80");
        ticks(house, 1, "0 0 0 0 0 0 0 100", "0 0 0 1 80");
    }

    private static void tailsOfAStar() {
        // A speed below 0 as well; half of 3 * 33 / 100 is 0.
        FairHouse house = Check.fair("ride a organ 1 33{spin -66;}ride b arch 1{}ride c tail 10 1 1 a{}");
        ticks(house, 2, "-33 0 0 0 0 0 0 33", "1 0 33 0 80");
        ticks(house, 2, "-66 0 0 0 0 0 0 99", "3 0 66 0 80");
    }

    private static void movedByTheLatestTick() {
        FairHouse house = Check.fair("ride a tower 100 10 1{lift 20;}");
        house.tick(1);
        Check.due("DRAW", house.says(0, 0), 100);
        Check.due("DRAW, asked again", house.says(0, 0), 100);
        Check.due("all", house.total(5), 100);
        house.open();
        Check.due("says behind open()", Check.says(house, 0), "0 0 0 1 60");
        house.tick(2);
        Check.due("DRAW", house.says(0, 0), 100);
        house.tick(1);
        Check.due("DRAW", house.says(0, 0), 0);
    }

    private static void wearHasAnEnd() {
        FairHouse house = Check.fair("ride a swing 1 50 1 1 1{spin 100;}");
        house.tick(100);
        Check.due("wear", house.measure(0, 8), 9950);
        house.tick(1);
        Check.due("wear", house.measure(0, 8), 9999);
        house.tick(1);
        Check.due("wear", house.measure(0, 8), 9999);
    }
}
