/** "3. RUNNING": promises 9 tick, 12 script, 17 log; the STEPS, the STALLS, the order of a tick. */
public final class Part5RunningTest {
    public static void main(String[] args) {
        wrongTicks();
        wrongScript();
        emptyScripts();
        overAtTheEnd();
        arithmetic();
        conditions();
        conditionsFromTheLeft();
        values();
        otherRides();
        stepsAtOnce();
        fortySteps();
        waiting();
        until();
        claims();
        claimsAreServedInOrder();
        repeats();
        emptyBlocks();
        loopsAndLeave();
        blocksAreLeftAtOnce();
        ifs();
        stops();
        loading();
        unloading();
        mending();
        beyond();
        worn();
        byZero();
        notCalm();
        staffStalls();
        guards();
        guardsInOneAnother();
        guardsAndTurns();
        stallInTheOnBlock();
        goesOnWithTheSameCount();
        down();
        shedding();
        sheddingFromTheLast();
        shedThatIsOver();
        shedIntoAGuard();
        windBars();
        windIntoAGuard();
        guardIsOverAtTheLastTick();
        emptyOnBlock();
        orderOfATick();
        theLog();
        fourHundred();
        firstRideOfAFormula();
        wornByOne();
        shedDrawsNothing();
        slowOnes();
        Check.end();
    }

    /** Runs one arch's script for a tick and gives its registers. */
    private static String registersOf(String script) {
        FairHouse house = Check.fair("ride a arch 1{" + script + "}");
        house.tick(1);
        return Check.registers(house, 0);
    }

    /** The place of a mark in a text. */
    private static int at(String text, String mark) {
        return text.indexOf(mark);
    }

    private static void wrongTicks() {
        FairHouse house = Check.fair("ride a arch 1{}");
        for (int n : new int[] {0, -1, 101, Integer.MIN_VALUE, Integer.MAX_VALUE}) {
            Check.throwsOnly("tick(" + n + ")", Check.ARGUMENT, () -> house.tick(n));
        }
        Check.due("clock", house.total(0), 0);
        Check.due("script", Check.script(house, 0), "0 0 -1 0");
        Check.due("tick(100)", house.tick(100), 1);
        Check.due("clock", house.total(0), 100);
        Check.due("tick(1)", house.tick(1), 0);
        Check.due("clock", house.total(0), 101);
    }

    private static void wrongScript() {
        FairHouse house = Check.fair("ride a arch 1{}");
        for (int ride : new int[] {-1, 1, 12, Integer.MIN_VALUE, Integer.MAX_VALUE}) {
            Check.throwsOnly("script", Check.INDEX, () -> house.script(ride, 0));
        }
        for (int what : new int[] {-1, 8, Integer.MIN_VALUE, Integer.MAX_VALUE}) {
            Check.throwsOnly("script", Check.INDEX, () -> house.script(0, what));
        }
    }

    private static void emptyScripts() {
        FairHouse house = Check.fair("ride a arch 1{}ride b arch 1{}");
        Check.due("before", Check.script(house, 0), "0 0 -1 0");
        Check.due("tick", house.tick(1), 2);
        Check.due("behind", Check.script(house, 0), "1 0 -1 0");
        Check.due("log", Check.log(house), "/6 0 1 1/6 1 1 1");
    }

    private static void overAtTheEnd() {
        String text = "staff s 2;ride a wheel 10 10 1{claim s;spin 50;}";
        FairHouse house = Check.fair(text);
        Check.due("before", Check.script(house, 0), "0 0 " + at(text, "claim") + " 0");
        house.tick(1);
        Check.due("over", Check.script(house, 0), "1 0 -1 2");
        house.tick(5);
        // It keeps its staff and GOALS.
        Check.due("speed", house.measure(0, 1), 50);
        Check.due("goal", house.measure(0, 2), 50);
        Check.due("free", house.free(0), 1);
        Check.due("counted", house.script(0, 3), 2);
        Check.due("log", Check.log(house), "/6 0 1 1");
    }

    private static void arithmetic() {
        Check.due("+ -", registersOf("r0=1+2-3-4;r1=1-(2-3);r2=10-2*3;r3=2*3+4*5;"), "-4 2 4 26");
        Check.due("* /", registersOf("r0=7/2;r1=-7/2;r2=7/-2;r3=7*3/2;"), "3 -3 -3 10");
        Check.due("/ *", registersOf("r0=7/2*2;r1=100/5/2;r2=-(-7)/2;r3=--7;"), "6 10 3 7");
        Check.due("signs", registersOf("r0=-1--1;r1=1---1;r2=-(1+2)*-3;r3=-2*3;"), "0 0 9 -6");
        Check.due("wrap", registersOf("r0=9999*9999*99;r1=r0*9;r2=65*1024*1024*32;r3=r2-1;"),
                (9999 * 9999 * 99) + " " + (9999 * 9999 * 99 * 9) + " " + (65 * 1024 * 1024 * 32) + " "
                + (65 * 1024 * 1024 * 32 - 1));
        Check.due("least", registersOf("r0=1024*1024*2048;r1=r0/-1;r2=-r0;r3=r0-1;"),
                "-2147483648 -2147483648 -2147483648 2147483647");
        Check.due("deep", registersOf("r0=1+(2*(3-(4/(5-(6-(3)))))-(-(-(2))));"), Integer.toString(1 + 2 * 1 - 2)
                + " 0 0 0");
        Check.due("in itself", registersOf("r0=5;r0=r0*r0;r1=r0;r0=r1+r0;r3=r2;"), "50 25 0 0");
        Check.due("numbers", registersOf("r0=0000;r1=0010;r2=9999;r3=1;"), "0 10 9999 1");
    }

    private static boolean holds(String condition) {
        FairHouse house = Check.fair("flag f;flag g;ride a arch 1{raise f;if " + condition + "{r0=1;}else{r0=2;}}");
        house.tick(1);
        int answer = house.script(0, 4);
        Check.due("one of both: " + condition, answer == 1 || answer == 2, true);
        return answer == 1;
    }

    private static void conditions() {
        String[] signs = {"<", "<=", ">", ">=", "==", "!="};
        String[] want = {"100", "110", "001", "011", "010", "101"};
        for (int i = 0; i < signs.length; i++) {
            Check.due("1" + signs[i] + "2", holds("1" + signs[i] + "2"), want[i].charAt(0) == '1');
            Check.due("2" + signs[i] + "2", holds("2" + signs[i] + "2"), want[i].charAt(1) == '1');
            Check.due("3" + signs[i] + "2", holds("3" + signs[i] + "2"), want[i].charAt(2) == '1');
            Check.due("not 3" + signs[i] + "2", holds("not 3" + signs[i] + "2"), want[i].charAt(2) != '1');
        }
        Check.due("up f", holds("up f"), true);
        Check.due("up g", holds("up g"), false);
        Check.due("not up g", holds("not up g"), true);
        Check.due("not not up g", holds("not not up g"), false);
        Check.due("not not not up g", holds("not not not up g"), true);
        Check.due("and", holds("up f and 1<2 and 2<3"), true);
        Check.due("and", holds("up f and 1<2 and 2<2"), false);
        Check.due("and", holds("up g and 1<2 and 2<3"), false);
        Check.due("and", holds("up f and 1<1 and 2<3"), false);
        Check.due("or", holds("up g or 1<1 or 2<3"), true);
        Check.due("or", holds("up g or 1<2 or 2<2"), true);
        Check.due("or", holds("up f or 1<1 or 2<2"), true);
        Check.due("or", holds("up g or 1<1 or 2<2"), false);
        // not belongs to its ONE alone.
        Check.due("not", holds("not up g and up g"), false);
        Check.due("not", holds("not up f or up f"), true);
        Check.due("far apart", holds("-1024*1024*2048<1024*1024*2047"), true);
        Check.due("far apart", holds("1024*1024*2047>1024*1024*2048"), true);
    }

    /** What need not be worked out is not: no / by 0 behind what decides. */
    private static void conditionsFromTheLeft() {
        Check.due("and", holds("1<1 and 1/0<1"), false);
        Check.due("or", holds("1<2 or 1/0<1"), true);
        Check.due("and", holds("1<2 and 1<1 and 1/0<1"), false);
        Check.due("not", holds("not 1<1 or 1/0<1"), true);
        for (String by : new String[] {"1/0<1 and 1<1", "1/0<1 or 1<2", "1<2 and 1/0<1", "1<1 or 1<1/0", "not 1/0<1"}) {
            FairHouse house = Check.fair("ride a arch 1{if " + by + "{r0=1;}else{r0=2;}}");
            house.tick(1);
            Check.due("down by " + by, Check.script(house, 0), "2 0 -1 1");
            Check.due("r0", house.script(0, 4), 0);
            Check.due("log", Check.log(house), "/2 0 6 1");
        }
    }

    private static void values() {
        FairHouse house = Check.fair("ride a star 1 7 1 100 9 1{wait 2;glow 33;load 1;r0=aboard*100+queue;"
                + "r1=clock*1000+wind;sound 44;lift 500;spin 50;wait 2;r2=speed*1000*10+height;r3=glow*1000*10+volume*100+wear;"
                + "guard{r0=r0/(r0-r0);}on{r0=r0*10+why;}}");
        house.come(0, 8);
        house.wind(17);
        house.tick(3);
        house.tick(1);
        Check.due("r0 r1", house.script(0, 4) + " " + house.script(0, 5), "503 4017");
        house.tick(2);
        // SPEED 7 then 7+3, HEIGHT 200; WEAR 17 + 20.
        Check.due("all", Check.registers(house, 0), "5036 4017 100200 334437");
        Check.due("why", house.script(0, 1), 6);
        // A MEASURE without the ABILITY is 0; so is why at first.
        Check.due("none", registersOf("r0=speed+height+aboard+volume+wear+queue+glow+why;r1=clock;r2=wind;"), "0 1 0 0");
    }

    private static void otherRides() {
        FairHouse house = Check.fair("ride a arch 1{r0=b.speed;r1=b.queue*100+b.aboard;r2=c.glow;r3=b.wear;wait 1;"
                + "r0=b.speed;r1=b.queue*100+b.aboard;r2=c.glow+c.volume;r3=b.wear+b.height;}"
                + "ride b wheel 1 9 5{spin 9;}ride c ghost 3 3{glow 7;r0=b.speed;r1=a.speed+a.height;sound 80;}");
        house.come(1, 6);
        house.tick(1);
        // a comes first, so it sees nothing yet; GLOW is at once, SPEED is eased behind all scripts.
        Check.due("a", Check.registers(house, 0), "0 600 0 0");
        Check.due("c", Check.registers(house, 2), "0 0 0 0");
        house.tick(1);
        Check.due("a", Check.registers(house, 0), "9 600 87 9");
    }

    private static void stepsAtOnce() {
        String text = "flag f;flag g;ride a star 1 50 1 100 1 1{spin 9;lift 8;glow 7;sound 6;raise f;raise g;lower f;"
                + "spin -100;lift 1000;glow 100;sound 100;wait 1;spin 100;lift 0;glow 0;sound 0;lower g;}";
        FairHouse house = Check.fair(text);
        house.tick(1);
        Check.due("measures", Check.measures(house, 0), "-50 -100 100 1000 0 100 100 60");
        Check.due("f g", house.isUp(0) + " " + house.isUp(1), "false true");
        Check.due("script", Check.script(house, 0), "0 0 " + at(text, "spin 100") + " 12");
        house.tick(1);
        Check.due("measures", Check.measures(house, 0), "-25 100 0 0 0 0 0 95");
        Check.due("g", house.isUp(1), false);
        Check.due("script", Check.script(house, 0), "1 0 -1 17");
    }

    private static void fortySteps() {
        String steps = Check.repeat("r0=r0+1;", 100);
        String text = "ride a arch 1{" + steps + "}";
        FairHouse house = Check.fair(text);
        house.tick(1);
        Check.due("40 of them", Check.registers(house, 0), "40 0 0 0");
        Check.due("the 41st is next", Check.script(house, 0), "0 0 " + (14 + 40 * 8) + " 40");
        house.tick(1);
        Check.due("80", Check.script(house, 0), "0 0 " + (14 + 80 * 8) + " 80");
        house.tick(1);
        Check.due("over", Check.script(house, 0), "1 0 -1 100");
        // With the 40th it is over in that tick.
        FairHouse forty = Check.fair("ride a arch 1{" + Check.repeat("r0=r0+1;", 40) + "}");
        Check.due("log", forty.tick(1), 1);
        Check.due("over", Check.script(forty, 0), "1 0 -1 40");
        // stop as the 40th ends it, as the 41st only in the next tick.
        FairHouse stop = Check.fair("ride a arch 1{" + Check.repeat("r0=r0+1;", 39) + "stop;stop;}");
        stop.tick(1);
        Check.due("over", Check.script(stop, 0), "1 0 -1 40");
        // Each further turn counts one: 1 + 2 * (39 / 2) and half a turn.
        String loop = "ride a arch 1{loop{r0=r0+1;}}";
        FairHouse turns = Check.fair(loop);
        turns.tick(1);
        Check.due("r0", turns.script(0, 4), 20);
        Check.due("a further turn is next", Check.script(turns, 0), "0 0 " + at(loop, "loop") + " 40");
        turns.tick(1);
        Check.due("r0", turns.script(0, 4), 40);
        Check.due("counted", turns.script(0, 3), 80);
        // What waits at the 40th takes that tick as one of its own.
        FairHouse waits = Check.fair("ride a arch 1{" + Check.repeat("r0=r0+1;", 39) + "wait 2;r1=clock;}");
        waits.tick(3);
        Check.due("r1", waits.script(0, 5), 3);
        FairHouse later = Check.fair("ride a arch 1{" + Check.repeat("r0=r0+1;", 40) + "wait 2;r1=clock;}");
        later.tick(4);
        Check.due("r1", later.script(0, 5), 4);
        Check.due("counted", later.script(0, 3), 43);
    }

    private static void waiting() {
        String text = "ride a arch 1{r0=clock;wait 3;r1=clock;wait 1;r2=clock;wait 0;wait -5;r3=clock;wait 2;}";
        FairHouse house = Check.fair(text);
        house.tick(1);
        Check.due("begun", Check.script(house, 0), "0 0 " + at(text, "wait 3") + " 2");
        house.tick(1);
        Check.due("again", Check.script(house, 0), "0 0 " + at(text, "wait 3") + " 3");
        house.tick(1);
        Check.due("done, the next STEP is for the next tick", Check.script(house, 0), "0 0 " + at(text, "r1=") + " 4");
        house.tick(1);
        Check.due("r1", house.script(0, 5), 4);
        Check.due("wait 1 is done", Check.script(house, 0), "0 0 " + at(text, "r2=") + " 6");
        house.tick(1);
        Check.due("none at all", Check.registers(house, 0), "1 4 5 5");
        Check.due("the last one", Check.script(house, 0), "0 0 " + at(text, "wait 2") + " 11");
        Check.due("log", house.tick(1), 1);
        Check.due("over with its last tick", Check.script(house, 0), "1 0 -1 12");
        // E is worked out once, as it begins.
        FairHouse once = Check.fair("flag f;ride a arch 1{wait 3-clock;r0=clock;wait wind;r1=clock;}");
        once.wind(2);
        once.tick(3);
        Check.due("r0", once.script(0, 4), 3);
        once.wind(0);
        once.tick(2);
        Check.due("r1", once.script(0, 5), 5);
    }

    private static void until() {
        String text = "flag f;ride a arch 1{until up f;r0=clock;until clock>4;r1=clock;until 1<2;until 2<1;}";
        FairHouse house = Check.fair(text);
        house.tick(2);
        Check.due("asked each tick", Check.script(house, 0), "0 0 " + at(text, "until up") + " 2");
        house.set(0, true);
        house.tick(1);
        Check.due("goes on in the same tick", house.script(0, 4), 3);
        Check.due("counted", Check.script(house, 0), "0 0 " + at(text, "until clock") + " 5");
        house.tick(1);
        Check.due("r1", house.script(0, 5), 0);
        house.tick(1);
        Check.due("r1", house.script(0, 5), 5);
        Check.due("counted", Check.script(house, 0), "0 0 " + at(text, "until 2") + " 10");
        // At the end the script is over in the tick in which it is true.
        FairHouse last = Check.fair("ride a arch 1{until clock==2;}");
        Check.due("log", last.tick(1), 0);
        Check.due("log", last.tick(1), 1);
        // A C that comes to a / by 0 later on stalls then.
        FairHouse zero = Check.fair("ride a arch 1{until 6/(3-clock)<0;}");
        zero.tick(2);
        Check.due("waits", zero.script(0, 0), 0);
        zero.tick(1);
        Check.due("down", Check.script(zero, 0), "2 0 -1 3");
    }

    private static void claims() {
        String text = "staff s 1;staff t 3;ride a arch 1{claim s;claim t;r0=clock;wait 2;free s;r1=clock;free t;claim t;}"
                + "ride b arch 1{claim s;r0=clock;claim t;claim t;free t;free t;claim t;}";
        FairHouse house = Check.fair(text);
        house.tick(1);
        Check.due("a", Check.script(house, 0), "0 0 " + at(text, "wait") + " 4");
        Check.due("b waits", Check.script(house, 1), "0 0 " + (at(text, "ride b") + 14) + " 1");
        Check.due("free", house.free(0) + " " + house.free(1), "0 2");
        house.tick(1);
        Check.due("b waits", Check.script(house, 1), "0 0 " + (at(text, "ride b") + 14) + " 2");
        house.tick(1);
        // a frees it ahead of b, in the same tick; b goes on at once.
        Check.due("r1 of a", house.script(0, 5), 3);
        Check.due("r0 of b", house.script(1, 4), 3);
        Check.due("b", Check.script(house, 1), "1 0 -1 9");
        Check.due("free", house.free(0) + " " + house.free(1), "0 1");
    }

    private static void claimsAreServedInOrder() {
        // The ride told first looks first, however long the other one has waited.
        FairHouse house = Check.fair("staff s 1;ride a arch 1{wait 2;claim s;r0=clock;}"
                + "ride b arch 1{claim s;wait 1;wait 1;free s;r0=clock;}ride c arch 1{claim s;r0=clock;}");
        house.tick(3);
        Check.due("c has it: behind b in the same tick", house.script(2, 4), 3);
        Check.due("a has not", house.script(0, 4), 0);
        FairHouse other = Check.fair("staff s 1;ride a arch 1{wait 3;claim s;r0=clock;}"
                + "ride b arch 1{claim s;wait 2;free s;wait 1;claim s;r0=clock;}");
        other.tick(4);
        Check.due("a", other.script(0, 4), 4);
        Check.due("b waits", other.script(1, 4), 0);
    }

    private static void repeats() {
        Check.due("times", registersOf("repeat 3{r0=r0+1;repeat 2{r1=r1+1;}}repeat 0{r2=1;}repeat -1{r2=1;}"), "3 6 0 0");
        // E is worked out once.
        Check.due("once", registersOf("r0=2;repeat r0{r0=9;r1=r1+1;}"), "9 2 0 0");
        // repeat, then STEPS and further turns: 1 + 3 + 2.
        String text = "ride a arch 1{repeat 3{r0=r0+1;}r1=5;}";
        FairHouse house = Check.fair(text);
        house.tick(1);
        Check.due("counted", Check.script(house, 0), "1 0 -1 7");
        // A further turn is next like a STEP; behind the last one it goes on behind.
        String waits = "ride a arch 1{repeat 2{wait 1;}r0=clock;}";
        FairHouse slow = Check.fair(waits);
        slow.tick(1);
        Check.due("a further turn", Check.script(slow, 0), "0 0 " + at(waits, "repeat") + " 2");
        slow.tick(1);
        Check.due("none is left", Check.script(slow, 0), "0 0 " + at(waits, "r0") + " 4");
        slow.tick(1);
        Check.due("over", Check.script(slow, 0), "1 0 -1 5");
        Check.due("r0", slow.script(0, 4), 3);
        // A repeat that is begun again, or was left, turns as often as the first time.
        Check.due("again", registersOf("repeat 2{repeat 3{r0=r0+1;if r0==2{leave;}}r1=r1+1;}"), "5 2 0 0");
        FairHouse open = Check.fair("ride a arch 1{repeat 3{r0=r0+1;wait 1;}}");
        open.tick(2);
        open.open();
        open.tick(3);
        Check.due("r0 behind open()", Check.script(open, 0) + " " + open.script(0, 4), "1 0 -1 9 3");
        FairHouse many = Check.fair("ride a arch 1{repeat 1024*1024*2047{r0=r0+1;}}");
        many.tick(100);
        Check.due("many turns", many.script(0, 4), 2000);
    }

    private static void emptyBlocks() {
        // The first turn is the repeat's own, each further one counts.
        FairHouse house = Check.fair("ride a arch 1{repeat 5{}}");
        house.tick(1);
        Check.due("repeat 5", Check.script(house, 0), "1 0 -1 5");
        String loop = "ride a arch 1{loop{}}";
        FairHouse endless = Check.fair(loop);
        endless.tick(2);
        Check.due("loop", Check.script(endless, 0), "0 0 " + at(loop, "loop") + " 80");
        FairHouse others = Check.fair("ride a arch 1{if 1<2{}if 2<1{}else{}guard{}on{}repeat 1{}repeat 0{}r0=1;}");
        others.tick(1);
        Check.due("others", Check.script(others, 0), "1 0 -1 6");
        FairHouse nested = Check.fair("ride a arch 1{repeat 3{if 1<2{}}repeat 2{repeat 2{}}}");
        nested.tick(1);
        // 1 + 3 ifs + 2 turns; 1 + 2 * (1 + 1) + 1 turn.
        Check.due("nested", Check.script(nested, 0), "1 0 -1 12");
    }

    private static void loopsAndLeave() {
        Check.due("leave", registersOf("loop{r0=r0+1;if r0==5{leave;}r1=r1+1;}r2=7;"), "5 4 7 0");
        Check.due("innermost", registersOf("repeat 2{loop{r0=r0+1;leave;r3=1;}r1=r1+1;}"), "2 2 0 0");
        Check.due("out of a guard", registersOf("loop{guard{leave;}on{r3=1;}}r0=1;"), "1 0 0 0");
        Check.due("out of an on-BLOCK", registersOf("loop{guard{r0=1/0;}on{leave;}r3=1;}r0=r0+2;"), "2 0 0 0");
        Check.due("the last in a loop", registersOf("repeat 3{repeat 9{r0=r0+1;leave;}}"), "3 0 0 0");
        String text = "ride a arch 1{loop{wait 2;}}";
        FairHouse house = Check.fair(text);
        int loop = at(text, "loop");
        int wait = at(text, "wait");
        int[] places = {wait, loop, wait, loop, wait};
        int[] counted = {2, 3, 5, 6, 8};
        for (int i = 0; i < places.length; i++) {
            house.tick(1);
            Check.due("at " + i, Check.script(house, 0), "0 0 " + places[i] + " " + counted[i]);
        }
    }

    private static void blocksAreLeftAtOnce() {
        // As soon as the wait is done all BLOCKS that end behind it are left, and the SCRIPT is over.
        FairHouse house = Check.fair("ride a arch 1{guard{if 1<2{repeat 1{wait 2;}}}on{}}");
        house.tick(1);
        Check.due("waits", house.script(0, 0), 0);
        Check.due("log", house.tick(1), 1);
        Check.due("over", Check.script(house, 0), "1 0 -1 5");
        Check.due("log", Check.log(house), "/6 0 2 2");
        String text = "ride a arch 1{loop{if 1<2{guard{wait 1;}on{}}}}";
        FairHouse loop = Check.fair(text);
        loop.tick(1);
        Check.due("a further turn of the loop", Check.script(loop, 0), "0 0 " + at(text, "loop") + " 4");
    }

    private static void ifs() {
        Check.due("then", registersOf("if 1<2{r0=1;r1=1;}r2=1;"), "1 1 1 0");
        Check.due("not then", registersOf("if 1>2{r0=1;r1=1;}r2=1;"), "0 0 1 0");
        Check.due("else", registersOf("if 1>2{r0=1;}else{r1=1;}r2=1;"), "0 1 1 0");
        Check.due("not else", registersOf("if 1<2{r0=1;}else{r1=1;}r2=1;"), "1 0 1 0");
        Check.due("inner else", registersOf("if 1<2{if 1>2{r0=1;}else{r1=1;}}"), "0 1 0 0");
        Check.due("outer else", registersOf("if 1>2{if 1>2{r0=1;}}else{r1=1;}"), "0 1 0 0");
        FairHouse house = Check.fair("ride a arch 1{if 1>2{r0=1;}else{r1=1;}r2=1;}");
        house.tick(1);
        Check.due("counted", house.script(0, 3), 3);
    }

    private static void stops() {
        FairHouse house = Check.fair("staff s 1;ride a wheel 1 9 1{claim s;spin 9;loop{guard{if 1<2{stop;}}on{}}r0=1;}");
        Check.due("log", house.tick(1), 1);
        Check.due("over", Check.script(house, 0), "1 0 -1 6");
        Check.due("log", Check.log(house), "/6 0 1 1");
        Check.due("it keeps its staff", house.free(0), 0);
        Check.due("it keeps its GOAL", house.measure(0, 2), 9);
        Check.due("no more", house.tick(3), 0);
        Check.due("r0", house.script(0, 4), 0);
    }

    private static void loading() {
        String text = "ride a wheel 1 1 12{load 3;r0=clock;load 0;load -1;r1=clock;load 1;}";
        FairHouse house = Check.fair(text);
        house.come(0, 11);
        house.tick(1);
        Check.due("five", house.measure(0, 5) + " " + house.measure(0, 9), "5 6");
        house.tick(1);
        Check.due("five more", house.measure(0, 5) + " " + house.measure(0, 9), "10 1");
        house.tick(1);
        Check.due("one more", house.measure(0, 5) + " " + house.measure(0, 9), "11 0");
        Check.due("done", Check.script(house, 0), "0 0 " + at(text, "r0") + " 3");
        house.come(0, 9);
        Check.due("log", house.tick(1), 1);
        Check.due("as many as PLACES", house.measure(0, 5) + " " + house.measure(0, 9), "12 8");
        Check.due("registers", Check.registers(house, 0), "4 4 0 0");
        Check.due("waited", house.total(3), 5 + 10 + 3 + 1);
        // Nobody there: it takes its ticks all the same.
        FairHouse empty = Check.fair("ride a wheel 1 1 1{load 2;r0=clock;}");
        empty.tick(3);
        Check.due("r0", empty.script(0, 4), 3);
        // E is worked out once: the queue of then.
        FairHouse once = Check.fair("ride a ghost 60 1{glow 50;load queue;r0=clock;}");
        once.come(0, 2);
        once.tick(3);
        Check.due("r0", once.script(0, 4), 3);
    }

    private static void unloading() {
        FairHouse house = Check.fair("ride a wheel 1 1 9{load 2;unload;r0=clock;unload;load 1;unload;}");
        house.come(0, 7);
        house.tick(2);
        Check.due("aboard", house.measure(0, 5), 7);
        Check.due("served", house.total(1), 0);
        // An unload of nobody is not in the LOG; and it takes no tick.
        Check.due("log", house.tick(1), 1);
        Check.due("served", house.total(1), 7);
        Check.due("aboard", house.measure(0, 5), 0);
        Check.due("r0", house.script(0, 4), 3);
        house.come(0, 2);
        house.tick(1);
        Check.due("log", Check.log(house), "/5 0 7 3/6 0 4 4");
        FairHouse twice = Check.fair("ride a wheel 1 1 9{load 1;unload;load 1;unload;}");
        twice.come(0, 3);
        twice.tick(1);
        twice.come(0, 4);
        twice.tick(2);
        Check.due("served", twice.total(1), 7);
        Check.due("log", Check.log(twice), "/5 0 3 2/5 0 4 3/6 0 3 3");
    }

    private static void mending() {
        FairHouse house = Check.fair("ride a wheel 1 50 1{spin 50;wait 3;spin 0;wait 2;mend 2;r0=wear;mend 9;r1=wear;"
                + "mend 0;r2=clock;}");
        house.tick(3);
        Check.due("wear", house.measure(0, 8), 150);
        // spin 0 is taken in tick 4: SPEED is 0 then.
        house.tick(2);
        Check.due("wear", house.measure(0, 8), 150);
        house.tick(1);
        Check.due("wear", house.measure(0, 8), 100);
        house.tick(1);
        Check.due("wear", house.measure(0, 8), 50);
        house.tick(1);
        Check.due("wear", house.measure(0, 8), 0);
        house.tick(9);
        Check.due("wear is 0 at least", Check.registers(house, 0), "50 0 17 0");
        // A ride without SEATS mends as well.
        FairHouse comet = Check.fair("ride a comet 1 50 1{lift 50;wait 1;lift 0;wait 1;mend 1;}");
        comet.tick(2);
        Check.due("wear", comet.measure(0, 8), 40);
        comet.tick(1);
        Check.due("wear", comet.measure(0, 8), 0);
    }

    private static void beyond() {
        String[] good = {"spin 100;", "spin -100;", "lift 0;", "lift 1000;", "glow 0;", "glow 100;", "sound 0;", "sound 100;"};
        String[] bad = {"spin 101;", "spin -101;", "lift -1;", "lift 1001;", "glow -1;", "glow 101;", "sound -1;",
            "sound 101;", "spin 9999*9999;", "lift -9999*9999;"};
        for (String step : good) {
            FairHouse house = Check.fair("ride a star 1 1 1 1 1 1{" + step + "}");
            house.tick(1);
            Check.due(step, house.script(0, 0), 1);
        }
        for (String step : bad) {
            FairHouse house = Check.fair("ride a star 1 50 1 100 1 1{spin 40;lift 300;glow 30;sound 20;" + step + "}");
            house.tick(1);
            Check.due(step, Check.script(house, 0), "2 0 -1 5");
            Check.due(step, Check.log(house), "/2 0 2 1");
            // GOALS become 0, GLOW and VOLUME stay.
            Check.due(step, Check.measures(house, 0), "0 0 0 0 0 30 20 0");
        }
    }

    private static void worn() {
        FairHouse house = Check.fair("ride a swing 1 50 1 1 1{spin 100;until wear>=950;spin 50;until wear>=1000;spin 50;r0=1;"
                + "until wear>1000;guard{spin 1;}on{r1=why;}guard{lift 1;}on{r2=why;}spin 0;lift 0;"
                + "guard{spin 101;}on{r3=why;}wait 2;mend 1;spin 2;}");
        // 50, 150, .. 950; then 50 each: 1000 is not above 1000.
        house.tick(10);
        Check.due("wear", house.measure(0, 8), 950);
        house.tick(1);
        Check.due("wear", house.measure(0, 8), 1000);
        house.tick(1);
        Check.due("registers", Check.registers(house, 0), "1 0 0 0");
        Check.due("wear", house.measure(0, 8), 1050);
        house.tick(1);
        // Looked at behind 2; not for a GOAL of 0.
        Check.due("registers", Check.registers(house, 0), "1 5 5 2");
        Check.due("log", Check.log(house), "/1 0 5 13/1 0 5 13/1 0 2 13");
        house.tick(3);
        Check.due("mended to 1000, it spins", Check.measures(house, 0), "2 2 0 0 0 0 0 1002");
        // glow and sound do not care.
        FairHouse star = Check.fair("ride a star 1 50 1 1 1 1{spin 100;wait 12;glow 9;sound 9;spin 100;}");
        star.tick(13);
        Check.due("down", Check.log(star), "/2 0 5 13");
        Check.due("measures", Check.measures(star, 0), "50 0 0 0 0 9 9 1200");
    }

    private static void byZero() {
        String[] steps = {"spin 1/0;", "lift 1/0;", "glow 1/(2-2);", "sound 0/0;", "load 1/0;", "mend 1/0;", "wait 1/0;",
            "until 1/0<1;", "r0=1/0;", "repeat 1/0{}", "if 1<1/0{}", "r0=1+2*(3-4/(1-1));", "r0=-(1/0);", "r0=0*(1/0);"};
        for (String step : steps) {
            FairHouse house = Check.fair("ride a star 1 1 1 1 1 1{glow 50;r0=7;guard{" + step + "r1=9;}on{r2=why;}r3=3;}");
            house.tick(1);
            Check.due(step, Check.registers(house, 0), "7 0 6 3");
            Check.due(step, Check.log(house), "/1 0 6 1/6 0 1 1");
            Check.due(step, Check.script(house, 0), "1 6 -1 6");
        }
        FairHouse other = Check.fair("ride a arch 1{guard{r0=1;r0=5/b.glow;}on{r1=1;}}ride b arch 1{}");
        other.tick(1);
        Check.due("what was worked out is left", Check.registers(other, 0), "1 1 0 0");
    }

    private static void notCalm() {
        for (String step : new String[] {"load 2;", "unload;", "mend 2;"}) {
            FairHouse house = Check.fair("ride a wheel 1 9 9{spin 9;wait 1;guard{" + step + "r1=9;}on{r0=why;}r2=clock;}");
            house.come(0, 3);
            house.tick(2);
            Check.due(step, Check.registers(house, 0), "1 0 2 0");
            Check.due(step, Check.measures(house, 0), "0 0 0 0 0 0 0 9");
            Check.due(step, Check.log(house), "/1 0 1 2/6 0 2 2");
            Check.due(step, house.measure(0, 9), 3);
        }
        // load and mend of no ticks ask nothing.
        FairHouse none = Check.fair("ride a wheel 1 9 9{spin 9;wait 1;load 0;mend 0;load -1;mend -1;r0=1;}");
        none.tick(2);
        Check.due("nothing is asked", Check.registers(none, 0), "1 0 0 0");
        // In each of its ticks: a tail's calm ends with its LEADER's.
        FairHouse tail = Check.fair("ride a wheel 1 9 9{wait 2;spin 9;wait 9;}ride b tail 1 1 60 a{guard{load 9;}on{r0=clock;}}");
        tail.come(1, 40);
        tail.tick(3);
        Check.due("aboard", tail.measure(1, 5), 15);
        tail.tick(1);
        Check.due("aboard", tail.measure(1, 5), 15);
        Check.due("r0", tail.script(1, 4), 4);
    }

    private static void staffStalls() {
        FairHouse house = Check.fair("staff s 9;staff t 9;ride a arch 1{claim s;claim s;guard{claim s;r0=9;}on{r0=why;}"
                + "claim t;free s;guard{free s;free s;r1=9;}on{r1=why;}free t;free t;}");
        house.tick(1);
        Check.due("registers", Check.registers(house, 0), "3 3 0 0");
        Check.due("log", Check.log(house), "/1 0 3 1/1 0 3 1/2 0 3 1");
        Check.due("free", house.free(0) + " " + house.free(1), "9 9");
        // Two at most, also when none is free: no waiting then.
        FairHouse two = Check.fair("staff s 2;ride a arch 1{claim s;claim s;claim s;}");
        two.tick(1);
        Check.due("down", Check.script(two, 0), "2 0 -1 3");
        Check.due("free", two.free(0), 2);
        // What another has cannot be freed.
        FairHouse other = Check.fair("staff s 2;ride a arch 1{claim s;wait 9;}ride b arch 1{free s;}");
        other.tick(1);
        Check.due("down", Check.log(other), "/2 1 3 1");
        Check.due("free", other.free(0), 1);
    }

    private static void guards() {
        String text = "ride a wheel 1 9 1{spin 9;guard{r0=1;r0=1/0;r0=2;}on{r1=why;wait 1;r2=why;}r3=clock;wait 1;}";
        FairHouse house = Check.fair(text);
        house.tick(1);
        Check.due("in the on-BLOCK", Check.script(house, 0), "0 6 " + at(text, "r2=") + " 6");
        Check.due("GOALS are 0", Check.measures(house, 0), "0 0 0 0 0 0 0 0");
        house.tick(1);
        // Behind either BLOCK it goes on behind the guard; why stays.
        Check.due("registers", Check.registers(house, 0), "1 6 6 2");
        Check.due("script", Check.script(house, 0), "1 6 -1 9");
        Check.due("log", Check.log(house), "/1 0 6 1/6 0 2 2");
        // Without a STALL the on-BLOCK is not gone into, and why is 0.
        Check.due("no stall", registersOf("guard{r0=1;}on{r1=1;}r2=2+why;"), "1 0 2 0");
        // In an if and a repeat in its first BLOCK it is in it, too.
        Check.due("deeper", registersOf("guard{repeat 3{if 1<2{r0=r0+1;r1=1/(2-r0);}}}on{r2=why;}r3=4;"), "2 1 6 4");
        // Ahead of it and behind it it is not.
        FairHouse ahead = Check.fair("ride a arch 1{r0=1/0;guard{r1=1;}on{r2=1;}}");
        ahead.tick(1);
        Check.due("ahead", Check.script(ahead, 0), "2 0 -1 1");
        FairHouse behind = Check.fair("ride a arch 1{guard{r1=1;}on{r2=1;}r0=1/0;}");
        behind.tick(1);
        Check.due("behind", Check.script(behind, 0), "2 0 -1 3");
    }

    private static void guardsInOneAnother() {
        Check.due("innermost", registersOf("guard{guard{r0=1/0;}on{r1=why;}r2=2;}on{r3=3;}"), "0 6 2 0");
        // In the on-BLOCK of the inner one the outer one holds.
        Check.due("outer", registersOf("guard{guard{glow 101;}on{r1=why;r0=1/0;r0=5;}r2=2;}on{r3=why;}"), "0 2 0 6");
        Check.due("a guard in an on-BLOCK", registersOf("guard{glow 101;}on{guard{r0=1/0;}on{r1=why;}r2=why;}r3=why;"),
                "0 6 6 6");
        Check.due("behind the inner one", registersOf("guard{guard{r0=1;}on{}r1=1/0;}on{r2=why;}"), "1 0 6 0");
    }

    private static void guardsAndTurns() {
        // A guard in a loop holds anew in each turn.
        Check.due("in a loop", registersOf("repeat 3{guard{r0=1/0;}on{r1=r1+1;}r2=r2+1;}"), "0 3 3 0");
        // A loop in a guard ends with a STALL.
        Check.due("of a loop", registersOf("guard{loop{r0=r0+1;if r0==3{r1=1/0;}}}on{r2=r0;}r3=1;"), "3 0 3 1");
        FairHouse house = Check.fair("ride a arch 1{loop{guard{glow 101;}on{}}}");
        // loop, guard, glow, then turn, guard, glow: 13 * 3 and a turn.
        Check.due("log", house.tick(1), 13);
        Check.due("counted", house.script(0, 3), 40);
    }

    private static void stallInTheOnBlock() {
        FairHouse house = Check.fair("staff s 3;ride a arch 1{claim s;guard{r0=1/0;}on{glow 200;}r1=1;}");
        house.tick(1);
        Check.due("down", Check.script(house, 0), "2 6 -1 4");
        Check.due("log", Check.log(house), "/1 0 6 1/2 0 2 1");
        Check.due("free", house.free(0), 3);
        Check.due("r1", house.script(0, 5), 0);
    }

    private static void goesOnWithTheSameCount() {
        String text = "ride a arch 1{" + Check.repeat("r0=r0+1;", 37) + "guard{glow 101;}on{r1=1;r2=2;}}";
        FairHouse house = Check.fair(text);
        house.tick(1);
        // 37, guard, glow, r1: the 41st waits.
        Check.due("the 41st", Check.script(house, 0), "0 2 " + at(text, "r2=") + " 40");
        // A STALL of the 40th: the on-BLOCK follows in the next tick.
        String last = "ride a arch 1{" + Check.repeat("r0=r0+1;", 38) + "guard{glow 101;}on{r1=clock;}}";
        FairHouse later = Check.fair(last);
        later.tick(1);
        Check.due("is next", Check.script(later, 0), "0 2 " + at(last, "r1=") + " 40");
        later.tick(1);
        Check.due("r1", later.script(0, 5), 2);
    }

    private static void down() {
        FairHouse house = Check.fair("staff s 2;staff t 1;ride a swing 100 10 1 50 5{claim s;claim s;claim t;load 1;"
                + "spin 20;lift 100;wait 2;unload;r0=1;}");
        house.come(0, 3);
        house.tick(3);
        Check.due("free", house.free(0) + " " + house.free(1), "0 0");
        Check.due("measures", Check.measures(house, 0), "20 20 100 100 3 0 0 50");
        Check.due("log", house.tick(1), 1);
        Check.due("log", Check.log(house), "/2 0 1 4");
        Check.due("script", Check.script(house, 0), "2 0 -1 9");
        Check.due("free", house.free(0) + " " + house.free(1), "2 1");
        // It eases, one that is DOWN, too; its riders stay aboard.
        Check.due("measures", Check.measures(house, 0), "10 0 50 0 3 0 0 70");
        house.tick(1);
        Check.due("measures", Check.measures(house, 0), "0 0 0 0 3 0 0 80");
        house.tick(5);
        Check.due("it stays so", Check.script(house, 0), "2 0 -1 9");
        Check.due("no more of the log", house.total(4), 1);
    }

    private static void shedding() {
        FairHouse house = Check.fair("power 100;ride a arch 101{glow 99;wait 1;glow 100;wait 1;r0=1;}");
        // 99 * 101 / 100 = 99; then 101 are above 100.
        house.tick(1);
        Check.due("log", house.total(4), 0);
        Check.due("log", house.tick(1), 2);
        Check.due("log", Check.log(house), "/3 0 101 2/2 0 7 2");
        Check.due("dark", Check.measures(house, 0), "0 0 0 0 0 0 0 0");
        Check.due("down", Check.script(house, 0), "2 0 -1 4");
        Check.due("draw", house.total(5), 0);
        // As much as there is does no harm.
        FairHouse just = Check.fair("power 100;ride a arch 100{glow 100;wait 9;}");
        just.tick(3);
        Check.due("log", just.total(4), 0);
        // Without power there are 9999: twelve arches of 500 are 6000, wheels add more.
        StringBuilder text = new StringBuilder();
        for (int i = 0; i < 12; i++) {
            text.append("ride a").append(i).append(" star 500 50 500 200 1 500{lift 1000;spin 100;glow 100;wait 99;}");
        }
        FairHouse many = Check.fair(text.toString());
        // Each draws 250 + 500 + 500 = 1250: eight make 10000, which is above 9999.
        many.tick(1);
        Check.due("five are shed", many.total(4), 10);
        Check.due("the last first", many.log(0, 1) + " " + many.log(8, 1), "11 7");
        Check.due("draw of each", many.log(0, 2), 1250);
    }

    private static void sheddingFromTheLast() {
        FairHouse house = Check.fair("power 150;ride a arch 100{glow 60;wait 9;}ride b arch 100{glow 100;wait 9;}"
                + "ride c arch 100{glow 5;wait 9;}ride d arch 100{wait 9;}ride e arch 100{glow 1;wait 9;}");
        // 166: e (1) and c (5) go, 160 is above; b goes; then a may stay. d draws nothing.
        house.tick(1);
        Check.due("log", Check.log(house), "/3 4 1 1/2 4 7 1/3 2 5 1/2 2 7 1/3 1 100 1/2 1 7 1");
        Check.due("a", house.measure(0, 6), 60);
        Check.due("d goes on", house.script(3, 0), 0);
        // One that draws but has no GOAL, GLOW or VOLUME is not shed: it slows down by itself.
        FairHouse slow = Check.fair("power 50;ride a wheel 100 50 1{spin 50;wait 1;spin 40;wait 9;}"
                + "ride b wheel 100 10 1{spin 0;wait 9;}ride c tail 200 1 1 a{}");
        slow.tick(1);
        // a draws 50, c half of 100, together 100: c cannot be shed, a is.
        Check.due("log", Check.log(slow), "/6 2 1 1/3 0 50 1/2 0 7 1");
        slow.tick(1);
        Check.due("draws", slow.total(5), 0);
        // VOLUME alone, and a GOAL alone, are shed.
        FairHouse sound = Check.fair("power 1;ride a ghost 1 1{sound 50;wait 9;}ride b wheel 50 4 1{spin 4;wait 9;}");
        sound.tick(1);
        Check.due("log", Check.log(sound), "/3 1 2 1/2 1 7 1/3 0 25 1/2 0 7 1");
        // One whose MEASURE falls to its GOAL of 0 is not, though its DRAW is too much.
        FairHouse falls = Check.fair("power 10;ride a wheel 500 50 1{spin 2;wait 1;spin 0;wait 9;}");
        falls.tick(2);
        Check.due("log", falls.total(4), 0);
    }

    private static void shedThatIsOver() {
        FairHouse house = Check.fair("power 9;ride a arch 100{glow 10;}ride b organ 100 10{spin 10;sound 10;r0=1/0;}");
        house.tick(1);
        // b is down by its own; its VOLUME is cut by its SPEED of 0. a is over and is shed all the same.
        Check.due("log", Check.log(house), "/6 0 1 1/2 1 6 1/3 0 10 1");
        Check.due("a", Check.script(house, 0), "1 0 -1 1");
        Check.due("dark", house.measure(0, 6), 0);
        FairHouse down = Check.fair("power 9;ride a ghost 1 100{glow 10;sound 4;r0=1/0;}");
        down.tick(2);
        Check.due("log", Check.log(down), "/2 0 6 1/3 0 12 1");
        Check.due("dark", down.measure(0, 6) + " " + down.measure(0, 7), "0 0");
    }

    private static void shedIntoAGuard() {
        String text = "power 50;ride a star 100 50 10 10 5 100{guard{glow 51;lift 100;sound 9;wait 5;r0=1;}"
                + "on{r1=clock;r2=why;r3=glow+volume;}wait 2;}";
        FairHouse house = Check.fair(text);
        house.tick(1);
        // 10 and the greater one of 51 and 4.
        Check.due("log", Check.log(house), "/3 0 61 1/1 0 7 1");
        Check.due("script", Check.script(house, 0), "0 7 " + at(text, "r1=") + " 5");
        // HEIGHT has risen in this tick; it falls from now on.
        Check.due("measures", Check.measures(house, 0), "0 0 10 0 0 0 0 10");
        house.tick(1);
        Check.due("registers", Check.registers(house, 0), "0 2 7 0");
        Check.due("script", Check.script(house, 0), "0 7 " + at(text, "wait 2") + " 9");
    }

    private static void windBars() {
        String[] rides = {"wheel 1 50 1", "tower 1 200 1", "swing 1 50 1 200 1", "organ 1 50", "comet 1 200 1",
            "star 1 50 1 200 1 1"};
        String[] steps = {"spin -50;", "lift 200;", "lift 200;", "spin 50;", "lift 200;", "spin 50;"};
        int[] limits = {80, 60, 50, 80, 60, 40};
        for (int i = 0; i < rides.length; i++) {
            FairHouse house = Check.fair("ride a " + rides[i] + "{wait 1;" + steps[i] + "wait 9;}");
            house.wind(limits[i]);
            house.tick(3);
            Check.due("as much as its limit", house.total(4), 0);
            Check.due("GOAL", house.measure(0, 2) + house.measure(0, 4) != 0, true);
            house.open();
            house.wind(limits[i] + 1);
            house.tick(1);
            Check.due("no GOAL yet", house.total(4), 0);
            Check.due("log", house.tick(1), 1);
            Check.due("log", Check.log(house), "/2 0 4 2");
            Check.due("GOALS", house.measure(0, 2) + " " + house.measure(0, 4), "0 0");
            // It eased ahead of that.
            Check.due("eased", Math.abs(house.measure(0, 1)) + house.measure(0, 3) != 0, true);
        }
        // A script that is over or DOWN is not in the LOG, but its GOALS go.
        FairHouse over = Check.fair("ride a wheel 1 5 1{spin 50;}ride b arch 1{glow 5;}ride c ghost 1 1{sound 9;wait 9;}");
        over.wind(199);
        over.tick(1);
        Check.due("log", Check.log(over), "/6 0 1 1/6 1 1 1");
        Check.due("measures", Check.measures(over, 0), "5 0 0 0 0 0 0 5");
        over.tick(1);
        Check.due("measures", Check.measures(over, 0), "0 0 0 0 0 0 0 5");
        Check.due("lamps stay", over.measure(1, 6) + " " + over.measure(2, 7), "5 9");
    }

    private static void windIntoAGuard() {
        String text = "ride a star 1 50 1 200 1 1{guard{spin 50;lift 500;glow 9;wait 3;r0=1;}on{r1=clock;r2=why;}wait 9;}";
        FairHouse house = Check.fair(text);
        house.tick(1);
        house.wind(41);
        house.tick(1);
        Check.due("log", Check.log(house), "/1 0 4 2");
        Check.due("script", Check.script(house, 0), "0 4 " + at(text, "r1=") + " 6");
        Check.due("measures", Check.measures(house, 0), "50 0 400 0 0 9 0 120");
        house.tick(1);
        Check.due("registers", Check.registers(house, 0), "0 3 4 0");
        Check.due("measures", Check.measures(house, 0), "25 0 200 0 0 9 0 155");
        Check.due("no more", house.total(4), 1);
    }

    private static void guardIsOverAtTheLastTick() {
        // The wait is done in tick 1, so the guard is over when the wind bars it.
        FairHouse house = Check.fair("ride a wheel 1 5 1{guard{spin 5;wait 1;}on{r0=1;}wait 9;}");
        house.wind(99);
        house.tick(1);
        Check.due("down", Check.log(house), "/2 0 4 1");
        FairHouse two = Check.fair("ride a wheel 1 5 1{guard{spin 5;wait 2;}on{r0=1;}wait 9;}");
        two.wind(99);
        two.tick(1);
        Check.due("guarded", Check.log(two), "/1 0 4 1");
        // A guard that is next, but not begun, does not hold.
        FairHouse next = Check.fair("ride a wheel 1 5 1{spin 5;wait 1;guard{wait 1;}on{r0=1;}}");
        next.wind(99);
        next.tick(1);
        Check.due("not begun", Check.log(next), "/2 0 4 1");
        // A further turn that is next lies in the guard of its loop, not in one within.
        FairHouse turn = Check.fair("ride a wheel 1 5 1{spin 5;guard{loop{guard{wait 1;}on{r0=1;}}}on{r1=1;wait 9;}}");
        turn.wind(99);
        turn.tick(2);
        Check.due("the outer one", Check.registers(turn, 0), "0 1 0 0");
        // Over with its last tick: nothing stalls.
        FairHouse over = Check.fair("ride a wheel 1 5 1{guard{spin 5;wait 1;}on{r0=1;}}");
        over.wind(99);
        over.tick(1);
        Check.due("over", Check.log(over), "/6 0 1 1");
        Check.due("GOAL", over.measure(0, 2), 0);
    }

    private static void emptyOnBlock() {
        // From (2): it goes on behind, in the same tick.
        Check.due("same tick", registersOf("guard{r0=1/0;}on{}r1=1;"), "0 1 0 0");
        FairHouse end = Check.fair("ride a arch 1{guard{r0=1/0;}on{}}");
        end.tick(1);
        Check.due("log", Check.log(end), "/1 0 6 1/6 0 1 1");
        // From (4) or (5): in the next one; what stands behind is next.
        String text = "ride a wheel 1 5 1{guard{spin 5;wait 9;}on{}r1=clock;}";
        FairHouse house = Check.fair(text);
        house.wind(99);
        house.tick(1);
        Check.due("next", Check.script(house, 0), "0 4 " + at(text, "r1=") + " 3");
        house.tick(1);
        Check.due("r1", house.script(0, 5), 2);
        overAtOnce();
    }

    /** A stall in (4) or (5) into an empty on-BLOCK with nothing behind it: the script is over in that tick. */
    private static void overAtOnce() {
        FairHouse wind = Check.fair("ride a wheel 1 5 1{guard{spin 5;wait 9;}on{}}");
        wind.wind(99);
        Check.due("wind", wind.tick(1), 2);
        Check.due("over", Check.script(wind, 0), "1 4 -1 3");
        Check.due("nothing more", wind.tick(3), 0);
        Check.due("log", Check.log(wind), "/1 0 4 1/6 0 1 1");
        // SHED: each ride's end stands behind its own stall; the last ride is the first one.
        String shedText = "{guard{glow 100;wait 9;}on{}}";
        FairHouse shed = Check.fair("power 1;ride a arch 9" + shedText + "ride b arch 9" + shedText);
        Check.due("shed", shed.tick(1), 6);
        Check.due("log", Check.log(shed), "/3 1 9 1/1 1 7 1/6 1 1 1/3 0 9 1/1 0 7 1/6 0 1 1");
        // All BLOCKS that end there are left: guards round it, an if, a repeat in its last turn. Staff is kept.
        String nestedText = "staff s 3;ride a wheel 1 5 1{claim s;"
                + "guard{repeat 2{if 1==1{guard{spin 5;wait 1;wait 9;}on{}}}}on{r0=1;}}";
        FairHouse nested = Check.fair(nestedText);
        nested.wind(99);
        nested.tick(1);
        Check.due("a further turn is next", Check.script(nested, 0), "0 4 " + at(nestedText, "repeat") + " 7");
        Check.due("then none", nested.tick(1), 2);
        Check.due("over", Check.script(nested, 0), "1 4 -1 12");
        Check.due("log", Check.log(nested), "/1 0 4 1/1 0 4 2/6 0 2 2");
        Check.due("staff", nested.free(0), 2);
        // What is over does not stall again, though it is shed.
        FairHouse both = Check.fair("power 1;ride a comet 9 9 500{guard{lift 50;glow 99;wait 9;}on{}}");
        both.wind(99);
        Check.due("shed, then no wind", both.tick(1), 3);
        Check.due("log", Check.log(both), "/3 0 504 1/1 0 7 1/6 0 1 1");
    }

    private static void orderOfATick() {
        // Gone (1), then the scripts (2) ride by ride, then shed (4) from the last, then wind (5).
        FairHouse house = Check.fair("power 10;ride a wheel 500 50 5{until clock==61;spin 2;wait 9;}"
                + "ride b wheel 1 50 5{until clock==61;guard{spin 50;wait 3;}on{wait 9;}}"
                + "ride c arch 1{until clock==61;stop;}ride d arch 500{until clock==61;glow 1;guard{wait 2;}on{wait 9;}}"
                + "ride e arch 1{until clock==61;r0=1/0;}ride f wheel 1 1 1{until clock==61;}");
        house.come(5, 3);
        house.come(0, 4);
        house.wind(99);
        house.tick(61);
        // a draws 10, b 0, d 5: d is shed, then 10 is not above 10.
        Check.due("log", Check.log(house), "/4 0 4 61/4 5 3 61/6 2 61 61/2 4 6 61/6 5 61 61/3 3 5 61/1 3 7 61"
                + "/2 0 4 61/1 1 4 61");
        // Wear is last: SPEED's of this tick.
        Check.due("wear", house.measure(0, 8) + " " + house.measure(1, 8), "2 50");
        // Flags and staff of an earlier ride are seen in the same tick, of a later one in the next.
        FairHouse flags = Check.fair("flag f;flag g;ride a arch 1{raise f;until up g;r0=clock;}"
                + "ride b arch 1{until up f;r0=clock;raise g;}");
        flags.tick(2);
        Check.due("a", flags.script(0, 4), 2);
        Check.due("b", flags.script(1, 4), 1);
        // CALM is asked in (2), as the tick before has left it.
        FairHouse calm = Check.fair("ride a wheel 1 5 5{spin 5;wait 1;spin 0;load 1;}ride b wheel 1 5 5{spin 5;wait 1;"
                + "spin 0;wait 1;load 1;}");
        calm.tick(3);
        Check.due("log", Check.log(calm), "/2 0 1 2/6 1 3 3");
    }

    private static void theLog() {
        FairHouse house = Check.fair("ride a arch 1{wait 2;}ride b arch 1{r0=1/0;}");
        Check.throwsOnly("none yet", Check.INDEX, () -> house.log(0, 0));
        Check.due("tick", house.tick(5), 2);
        Check.due("code", house.log(0, 0), 2);
        Check.due("ride", house.log(0, 1), 1);
        Check.due("number", house.log(0, 2), 6);
        Check.due("clock", house.log(0, 3), 1);
        Check.due("log", Check.log(house), "/2 1 6 1/6 0 2 2");
        for (int i : new int[] {-1, 2, 400, Integer.MIN_VALUE, Integer.MAX_VALUE}) {
            Check.throwsOnly("log", Check.INDEX, () -> house.log(i, 0));
        }
        for (int what : new int[] {-1, 4, Integer.MIN_VALUE, Integer.MAX_VALUE}) {
            Check.throwsOnly("log", Check.INDEX, () -> house.log(0, what));
        }
        house.open();
        Check.throwsOnly("none behind open()", Check.INDEX, () -> house.log(0, 0));
    }

    private static void fourHundred() {
        FairHouse house = Check.fair("ride a arch 1{loop{guard{r0=r0+1;r1=r1/0;}on{wait 1;}}}");
        // One STALL in each tick.
        Check.due("tick", house.tick(100), 100);
        house.tick(100);
        house.tick(100);
        house.tick(99);
        Check.throwsOnly("the 400th is not there", Check.INDEX, () -> house.log(399, 0));
        Check.due("tick", house.tick(1), 1);
        Check.due("the 400th", house.log(399, 3), 400);
        Check.due("tick", house.tick(50), 50);
        Check.due("all are counted", house.total(4), 450);
        Check.throwsOnly("the first 400 are kept", Check.INDEX, () -> house.log(400, 0));
        Check.due("the 400th stays", house.log(399, 3), 400);
        Check.due("the first stays", house.log(0, 3), 1);
    }

    private static void firstRideOfAFormula() {
        FairHouse house = Check.fair("ride a arch 1{until b.glow==7;r0=clock;}ride b arch 1{r0=a.speed;glow 7;}");
        house.tick(3);
        Check.due("b is asked", house.script(0, 4), 2);
        FairHouse first = Check.fair("ride a arch 1{glow 9;}ride b arch 1{r0=a.glow;r1=b.glow;}");
        first.tick(1);
        Check.due("a is asked", Check.registers(first, 1), "9 0 0 0");
        Check.due("not up f", holds("not up f"), false);
        Check.due("not up f and", holds("not up f and 1<2"), false);
        Check.due("not 1<2", holds("not 1<2"), false);
    }

    private static void wornByOne() {
        // 1001 is above 1000: 20 ticks of 50 and one of 1.
        FairHouse house = Check.fair("ride a wheel 1 49 1{spin 50;until wear>900;spin 1;until wear==1001;guard{spin 1;}on{r0=why;}}");
        // 49, then 50 each: 949 in tick 19; 950, 951 and so on by 1.
        house.tick(100);
        Check.due("why", Check.registers(house, 0), "5 0 0 0");
        Check.due("log", house.log(0, 2), 5);
        FairHouse just = Check.fair("ride a wheel 1 49 1{spin 50;until wear>900;spin 1;until wear==1000;guard{spin 1;}on{r0=why;}}");
        just.tick(100);
        Check.due("why", Check.registers(just, 0), "0 0 0 0");
    }

    private static void shedDrawsNothing() {
        // b shines, but too little to draw anything: it is not shed. c is over and has a GOAL: it is.
        FairHouse house = Check.fair("power 9;ride a arch 100{glow 30;wait 9;}ride b arch 1{glow 99;wait 9;}"
                + "ride c wheel 100 10 1{spin 50;}");
        house.tick(1);
        Check.due("log", Check.log(house), "/6 2 1 1/3 2 10 1/3 0 30 1/2 0 7 1");
        Check.due("b", house.measure(1, 6), 99);
        Check.due("c", Check.measures(house, 2), "10 0 0 0 0 0 0 10");
        house.tick(1);
        Check.due("c", Check.measures(house, 2), "0 0 0 0 0 0 0 10");
    }

    private static void slowOnes() {
        FairHouse house = Check.fair("ride a tower 77 1 1{lift 9;}ride b star 1 10 1 1 1 1{lift 1;wait 1;spin 50;}");
        house.tick(1);
        Check.due("moved up by 1", Check.says(house, 0), "77 5 10 0 60");
        house.tick(1);
        // Its HEIGHT was 1 ahead of the tick.
        Check.due("speed", house.measure(1, 1), 5);
    }
}
