/** "2. THE TEXT": promises 3 read, 4 fault, 5 count. In a text with a FAULT the @ marks its place. */
public final class Part2TextTest {
    private static final String WHEEL = "ride w wheel 1 1 1 ";

    public static void main(String[] args) {
        goodTexts();
        counts();
        wordsAndSigns();
        declarations();
        kindsAndNumbers();
        leaders();
        steps();
        expressions();
        conditions();
        namesThereAlready();
        namesNotThere();
        ridesInFormulas();
        tooMany();
        tooDeep();
        abilitiesOfSteps();
        ends();
        severalAtOneWord();
        longTexts();
        fullToTheLastByte();
        longNames();
        allNames();
        readsAgain();
        deepInEitherBlock();
        Check.end();
    }

    private static void goodTexts() {
        Check.fair("ride a wheel 1 1 1{}");
        Check.fair("ride\n\n a\nwheel\n500 50 60\n{\n}\n ");
        Check.fair("ride a tower 500 200 60{}");
        Check.fair("ride a swing 500 50 500 200 60{}");
        Check.fair("ride a organ 500 50{}");
        Check.fair("ride a arch 500{}");
        Check.fair("ride a comet 500 200 500{}");
        Check.fair("ride a ghost 60 500{}");
        Check.fair("ride a star 500 50 500 200 60 500{}");
        Check.fair("ride a wheel 1 1 1{} ride b tail 500 50 60 a{}");
        Check.fair("staff s 1;staff t 9;flag f;power 1;ride a wheel 0001 01 1{}");
        Check.fair("ride a wheel 1 1 1{}flag f;staff s 9;power 9999;");
        Check.fair("ride a star 1 1 1 1 1 1{spin 1;lift 1;glow 1;sound 1;load 1;unload;mend 1;wait 1;"
                + "until 1<2;r0=1;r1=2;r2=3;r3=4;repeat 2{leave;}loop{leave;}if 1<2{}if 1<2{}else{}"
                + "guard{}on{}stop;}");
        Check.fair("staff s 3;flag f;" + WHEEL + "{claim s;free s;raise f;lower f;until up f;until not up f;}");
        Check.fair(WHEEL + "{r0=r0+r1-r2*r3/why+clock-wind*queue/speed+height-aboard*glow/volume+wear;}");
        Check.fair(WHEEL + "{r0=w.speed+w.height+w.aboard+w.glow+w.volume+w.wear+w.queue;}");
        Check.fair(WHEEL + "{r0=w . speed;r0=-(-(1));r0=(1);wait(1);repeat(2){}until(1)<(2);}");
        Check.fair(WHEEL + "{until 1<2 and 1<=2 and 2>1 and 2>=1;until 1==1 or 1!=1 or not 1<2;}");
        Check.fair(WHEEL + "{loop{if 1<2{leave;}else{leave;}guard{leave;}on{leave;}}}");
    }

    private static void counts() {
        FairHouse house = Check.fair("staff a 1;staff b 2;flag c;flag d;flag e;power 77;"
                + "ride f arch 1{}ride g arch 1{}ride h arch 1{}ride i arch 1{}");
        Check.due("rides", house.count(0), 4);
        Check.due("staff", house.count(1), 2);
        Check.due("flags", house.count(2), 3);
        Check.due("power", house.count(3), 77);
        Check.due("bytes", house.count(4), 0);
        Check.due("free of a", house.free(0), 1);
        Check.due("free of b", house.free(1), 2);
        Check.due("power untold", Check.fair("ride f arch 1{}").count(3), 9999);
        // A fair that is read takes the place of the one before, with nothing left of it.
        Check.due("read anew", Check.read(house, "ride a star 1 1 1 1 1 1{}staff f 4;"), 0);
        Check.due("rides", house.count(0), 1);
        Check.due("staff", house.count(1), 1);
        Check.due("flags", house.count(2), 0);
        Check.due("power", house.count(3), 9999);
        Check.due("kind", house.measure(0, 0), 7);
        Check.due("read anew", Check.read(house, "ride a arch 1{}ride b arch 2 {"), 1);
        Check.due("place", house.fault(1), 30);
        Check.due("rides", house.count(0), 0);
    }

    private static void wordsAndSigns() {
        Check.fair("ride abcdefgh wheel 1 1 1{}");
        Check.fair("ride a1234567 wheel 1 1 1{}");
        Check.faults(1, "ride @abcdefghi wheel 1 1 1{}");
        Check.faults(1, "ride @a12345678 wheel 1 1 1{}");
        Check.faults(1, "@rideabcde wheel 1 1 1{}");
        Check.faults(1, "ride @1a wheel 1 1 1{}");
        Check.faults(1, "staff s 1@a;" + WHEEL + "{}");
        Check.faults(1, "staff s @00001;" + WHEEL + "{}");
        Check.faults(1, "power @12345;" + WHEEL + "{}");
        Check.fair("staff s 0001;" + WHEEL + "{}");
        Check.faults(1, "@Ride a wheel 1 1 1{}");
        Check.faults(1, "ride a@B wheel 1 1 1{}");
        Check.faults(1, "ride a@_ wheel 1 1 1{}");
        Check.faults(1, "ride@\ta wheel 1 1 1{}");
        Check.faults(1, "ride@\ra wheel 1 1 1{}");
        Check.faults(1, "ride @\u007f wheel 1 1 1{}");
        Check.faults(1, "ride @\u00e9 wheel 1 1 1{}");
        Check.faults(1, "ride @\u0000 wheel 1 1 1{}");
        Check.faults(1, WHEEL + "{}@\u00ff");
        for (char sign : "!\"#$%&',:?@A[\\]^_`|~".toCharArray()) {
            String text = WHEEL + "{r0=" + sign;
            FairHouse house = new FairHouse();
            Check.due("read of " + text, Check.read(house, text), 1);
            Check.due("place", house.fault(1), 23);
        }
        // Each as long as can be.
        Check.faults(1, WHEEL + "{r0@==1;}");
        Check.faults(1, WHEEL + "{until 1@=1;}");
        Check.faults(1, WHEEL + "{until 1<=@=1;}");
        Check.faults(1, WHEEL + "{until 1==@=1;}");
        Check.faults(1, WHEEL + "{until 1>@>1;}");
        Check.faults(1, WHEEL + "{until 1< @=1;}");
        Check.faults(1, WHEEL + "{until 1@! =1;}");
        Check.faults(1, WHEEL + "{until 1@=!1;}");
        Check.faults(1, WHEEL + "{until 1<@>1;}");
        Check.fair(WHEEL + "{until 1<-1;r0=-1;r0=1--1;r0=1- - -1;}");
    }

    private static void declarations() {
        Check.faults(1, "@");
        Check.faults(1, "  \n @");
        Check.faults(1, "@x");
        Check.faults(1, "@;" + WHEEL + "{}");
        Check.faults(1, "@spin 1;" + WHEEL + "{}");
        Check.faults(1, WHEEL + "{}@}");
        Check.faults(1, WHEEL + "{}@;");
        Check.faults(1, "power 5;staff s 1;flag f;@");
        Check.faults(1, "power@;" + WHEEL + "{}");
        Check.faults(1, "power @x;" + WHEEL + "{}");
        Check.faults(1, "power @-1;" + WHEEL + "{}");
        Check.faults(1, "power 1 @" + WHEEL + "{}");
        Check.faults(5, "power @0;" + WHEEL + "{}");
        Check.faults(5, "power @0000;" + WHEEL + "{}");
        Check.faults(4, "power 1;@power 1;" + WHEEL + "{}");
        Check.faults(4, "power 1;" + WHEEL + "{}@power 0;");
        Check.faults(1, "staff @5 5;" + WHEEL + "{}");
        Check.faults(1, "staff s@;" + WHEEL + "{}");
        Check.faults(1, "staff s @t;" + WHEEL + "{}");
        Check.faults(5, "staff s @0;" + WHEEL + "{}");
        Check.faults(5, "staff s @10;" + WHEEL + "{}");
        Check.faults(1, "staff s 5@}" + WHEEL + "{}");
        Check.faults(1, "flag @;" + WHEEL + "{}");
        Check.faults(1, "flag f @1;" + WHEEL + "{}");
        Check.faults(1, "flag f @g;" + WHEEL + "{}");
        Check.faults(1, "ride w wheel 1 1 1@;");
        Check.faults(1, "ride w wheel 1 1 1 @(");
        Check.faults(1, "ride w wheel 1 1 1 @x{}");
    }

    private static void kindsAndNumbers() {
        Check.faults(1, "ride a @b 1 1 1{}");
        Check.faults(1, "ride a @1 1 1{}");
        Check.faults(1, "ride a @ride 1 1 1{}");
        Check.faults(1, "ride a @power 1 1 1{}");
        Check.faults(1, "ride a @on 1 1 1{}");
        Check.faults(1, "ride a wheel @{}");
        Check.faults(1, "ride a wheel 1 1@{}");
        Check.faults(1, "ride a wheel 1 1 1 @1{}");
        Check.faults(1, "ride a wheel 1 @-1 1{}");
        Check.faults(1, "ride a arch @{}");
        Check.faults(1, "ride a arch 1 @2{}");
        Check.faults(1, "ride a organ 1 1 @1{}");
        Check.faults(1, "ride a star 1 1 1 1 1 @{}");
        // Each number's two edges, in the order of the abilities.
        Check.faults(5, "ride a wheel @0 1 1{}");
        Check.faults(5, "ride a wheel @501 1 1{}");
        Check.faults(5, "ride a wheel 1 @0 1{}");
        Check.faults(5, "ride a wheel 1 @51 1{}");
        Check.faults(5, "ride a wheel 1 1 @0{}");
        Check.faults(5, "ride a wheel 1 1 @61{}");
        Check.faults(5, "ride a tower @501 1 1{}");
        Check.faults(5, "ride a tower 1 @201 1{}");
        Check.faults(5, "ride a tower 1 1 @61{}");
        Check.faults(5, "ride a swing 1 1 @0 1 1{}");
        Check.faults(5, "ride a swing 1 @51 1 1 1{}");
        Check.faults(5, "ride a swing 1 1 1 @0 1{}");
        Check.faults(5, "ride a swing 1 1 1 1 @61{}");
        Check.faults(5, "ride a organ 1 @51{}");
        Check.faults(5, "ride a arch @0{}");
        Check.faults(5, "ride a arch @501{}");
        Check.faults(5, "ride a comet 1 @201 1{}");
        Check.faults(5, "ride a comet 1 1 @501{}");
        Check.faults(5, "ride a ghost @61 1{}");
        Check.faults(5, "ride a ghost 1 @501{}");
        Check.faults(5, "ride a star 500 50 500 200 60 @501{}");
        Check.faults(5, "ride a star 500 50 500 200 @61 500{}");
        Check.faults(5, "ride a star 500 @51 500 200 60 500{}");
        // The first that is met.
        Check.faults(5, "ride a wheel @0 0 x{}");
        Check.faults(1, "ride a wheel @12345 0 1{}");
    }

    private static void leaders() {
        String wheel = WHEEL + "{}";
        Check.fair(wheel + "ride t tail 1 1 1 w{}ride u tail 1 1 1 w{}");
        Check.fair("ride o organ 1 1{}ride t tail 1 1 1 o{}");
        Check.fair("ride o swing 1 1 1 1 1{}ride t tail 1 1 1 o{}");
        Check.fair("ride o star 1 1 1 1 1 1{}ride t tail 1 1 1 o{}");
        Check.faults(1, wheel + "ride t tail 1 1 1@{}");
        Check.faults(1, wheel + "ride t tail 1 1 1 @1{}");
        Check.faults(1, wheel + "ride t tail 1 1 @w{}");
        Check.faults(3, wheel + "ride t tail 1 1 1 @x{}");
        Check.faults(3, wheel + "ride t tail 1 1 1 @spin{}");
        Check.faults(3, wheel + "ride t tail 1 1 1 @wheel{}");
        Check.faults(3, wheel + "staff s 1;ride t tail 1 1 1 @s{}");
        Check.faults(3, wheel + "flag s;ride t tail 1 1 1 @s{}");
        Check.faults(3, "ride t tail 1 1 1 @w{}" + wheel);
        Check.faults(3, "ride t tail 1 1 1 @t{}");
        Check.faults(5, "ride w tower 1 1 1{}ride t tail 1 1 1 @w{}");
        Check.faults(5, "ride w arch 1{}ride t tail 1 1 1 @w{}");
        Check.faults(5, "ride w comet 1 1 1{}ride t tail 1 1 1 @w{}");
        Check.faults(5, "ride w ghost 1 1{}ride t tail 1 1 1 @w{}");
        Check.faults(5, wheel + "ride t tail 1 1 1 w{}ride u tail 1 1 1 @t{}");
        Check.faults(5, wheel + "ride t tail @501 1 1 w{}");
        Check.faults(5, wheel + "ride t tail 1 1 @61 w{}");
    }

    private static void steps() {
        Check.faults(1, WHEEL + "{@;}");
        Check.faults(1, WHEEL + "{@x;}");
        Check.faults(1, WHEEL + "{@1;}");
        Check.faults(1, WHEEL + "{@{}}");
        Check.faults(1, WHEEL + "{@ride a arch 1{}}");
        Check.faults(1, WHEEL + "{@else{}}");
        Check.faults(1, WHEEL + "{@on{}}");
        Check.faults(1, WHEEL + "{@why=1;}");
        Check.faults(1, WHEEL + "{@r4=1;}");
        Check.faults(1, WHEEL + "{@speed=1;}");
        Check.faults(1, WHEEL + "{@queue;}");
        Check.faults(1, WHEEL + "{@w.speed=1;}");
        Check.faults(1, WHEEL + "{spin@;}");
        Check.faults(1, WHEEL + "{spin 1@}");
        Check.faults(1, WHEEL + "{spin 1 @2;}");
        Check.faults(1, WHEEL + "{spin 1@<2;}");
        Check.faults(1, WHEEL + "{unload @1;}");
        Check.faults(1, WHEEL + "{stop@}");
        Check.faults(1, WHEEL + "{stop @(1);}");
        Check.faults(1, WHEEL + "{until@;}");
        Check.faults(1, WHEEL + "{until 1@;}");
        Check.faults(1, WHEEL + "{r0@;}");
        Check.faults(1, WHEEL + "{r0 @1;}");
        Check.faults(1, WHEEL + "{r0=@;}");
        Check.faults(1, WHEEL + "{repeat@{}}");
        Check.faults(1, WHEEL + "{repeat 1@;}");
        Check.faults(1, WHEEL + "{repeat 1{}@;}");
        Check.faults(1, WHEEL + "{loop @1{}}");
        Check.faults(1, WHEEL + "{loop@;}");
        Check.faults(1, WHEEL + "{loop{}@;}");
        Check.faults(1, WHEEL + "{if@{}}");
        Check.faults(1, WHEEL + "{if 1@{}}");
        Check.faults(1, WHEEL + "{if 1<2@;}");
        Check.faults(1, WHEEL + "{if 1<2{}else@;}");
        Check.faults(1, WHEEL + "{if 1<2{}else @if 1<2{}}");
        Check.faults(1, WHEEL + "{if 1<2{}else{}@else{}}");
        Check.faults(1, WHEEL + "{guard@;}");
        Check.faults(1, WHEEL + "{guard{}@}");
        Check.faults(1, WHEEL + "{guard{}@stop;}");
        Check.faults(1, WHEEL + "{guard{}on@;}");
        Check.faults(1, WHEEL + "{guard{}on{}@else{}}");
        Check.faults(5, WHEEL + "{@leave;}");
        Check.faults(5, WHEEL + "{if 1<2{@leave;}}");
        Check.faults(5, WHEEL + "{guard{@leave;}on{}}");
        Check.faults(5, WHEEL + "{guard{}on{@leave;}}");
        Check.faults(5, WHEEL + "{loop{}@leave;}");
        Check.faults(5, WHEEL + "{repeat 1{}@leave;}");
        Check.faults(5, WHEEL + "{loop{}}ride v arch 1{@leave;}");
        Check.faults(1, WHEEL + "{loop{leave@}}");
        Check.fair(WHEEL + "{loop{guard{}on{if 1<2{}else{leave;}}}}");
    }

    private static void expressions() {
        Check.faults(1, WHEEL + "{r0=@+1;}");
        Check.faults(1, WHEEL + "{r0=1+@;}");
        Check.faults(1, WHEEL + "{r0=1+@+1;}");
        Check.faults(1, WHEEL + "{r0=1*@*1;}");
        Check.faults(1, WHEEL + "{r0=(@);}");
        Check.faults(1, WHEEL + "{r0=(1@;}");
        Check.faults(1, WHEEL + "{r0=1@);}");
        Check.faults(1, WHEEL + "{r0=(1 @2);}");
        Check.faults(1, WHEEL + "{r0=(1@<2);}");
        Check.faults(1, WHEEL + "{r0=-@;}");
        Check.faults(1, WHEEL + "{r0=1 @r1;}");
        Check.faults(1, WHEEL + "{r0=r1@.speed;}");
        Check.faults(1, WHEEL + "{r0=speed@.speed;}");
        Check.faults(1, WHEEL + "{r0=1@.speed;}");
        String notOfFactor = "spin lift sound load unload mend wait until claim free raise lower repeat loop if guard"
                + " leave stop power staff flag ride wheel tower swing organ arch comet ghost star tail"
                + " on else up and or not";
        for (String word : notOfFactor.split(" ")) {
            Check.faults(1, WHEEL + "{r0=@" + word + ";}");
            Check.faults(1, WHEEL + "{r0=1+@" + word + ".speed;}");
            Check.faults(1, WHEEL + "{r0=w.@" + word + ";}");
        }
        for (String word : "r0 r1 r2 r3 why clock wind".split(" ")) {
            Check.fair(WHEEL + "{r0=" + word + ";}");
            Check.faults(1, WHEEL + "{r0=w.@" + word + ";}");
        }
        for (String word : "queue speed height aboard glow volume wear".split(" ")) {
            Check.fair(WHEEL + "{r0=" + word + ";}");
            Check.fair(WHEEL + "{r0=w." + word + ";}");
        }
    }

    private static void conditions() {
        String flag = "flag f;" + WHEEL;
        Check.fair(flag + "{until up f and not up f and 1<2;}");
        Check.fair(flag + "{until not not not up f or r0==r1;}");
        Check.faults(1, flag + "{until 1<2 and 1<2 @or 1<2;}");
        Check.faults(1, flag + "{until 1<2 or 1<2 @and 1<2;}");
        Check.faults(1, flag + "{until 1<2 and @;}");
        Check.faults(1, flag + "{until 1<2 and @and 1<2;}");
        Check.faults(1, flag + "{until 1<2 @not 1<2;}");
        Check.faults(1, flag + "{until 1<2@<3;}");
        Check.faults(1, flag + "{until (1@<2);}");
        Check.faults(1, flag + "{until not@;}");
        Check.faults(1, flag + "{until -@not 1<2;}");
        Check.faults(1, flag + "{until up@;}");
        Check.faults(1, flag + "{until up @1;}");
        Check.faults(1, flag + "{until up @(f);}");
        Check.faults(1, flag + "{until up f@<1;}");
        Check.faults(1, flag + "{until not not up@;}");
        Check.faults(1, flag + "{until 1+@up f;}");
        Check.faults(3, flag + "{until @f;}");
        Check.faults(3, flag + "{until up @w;}");
        Check.faults(3, flag + "{until up @g;}");
        Check.faults(3, flag + "{until up @not;}");
        Check.faults(3, flag + "{until up @up;}");
        Check.faults(3, WHEEL + "{until up @f;}flag f;");
        Check.faults(3, "staff f 1;" + WHEEL + "{until up @f;}");
    }

    private static void namesThereAlready() {
        String all = "spin lift glow sound load unload mend wait until claim free raise lower repeat loop if guard"
                + " leave stop power staff flag ride wheel tower swing organ arch comet ghost star tail"
                + " r0 r1 r2 r3 why clock wind queue speed height aboard volume wear on else up and or not";
        for (String word : all.split(" ")) {
            Check.faults(2, "ride @" + word + " arch 1{}");
            Check.faults(2, "staff @" + word + " 1;");
            Check.faults(2, "flag @" + word + ";");
        }
        for (String word : "r4 r r00 spins spi name block step e c one term factor measure".split(" ")) {
            Check.fair("ride " + word + " arch 1{}");
            Check.fair("flag " + word + ";ride a arch 1{}");
        }
        String[] told = {"staff x 1;", "flag x;", "ride x arch 1{}"};
        String[] again = {"staff @x 1;", "flag @x;", "ride @x arch 1{}"};
        for (String first : told) {
            for (String second : again) {
                Check.faults(2, first + second);
            }
        }
        // The name of a RIDE is there for all that comes behind.
        Check.faults(2, "ride a arch 1{}ride b arch 1{}ride @a wheel 0 0 0{}");
    }

    private static void namesNotThere() {
        String told = "staff s 1;flag f;ride a arch 1{}ride b arch 1";
        for (String step : new String[] {"claim", "free"}) {
            Check.fair(told + "{" + step + " s;}");
            for (String name : new String[] {"f", "a", "b", "x", "spin", "r0", "on", "glow"}) {
                Check.faults(3, told + "{" + step + " @" + name + ";}");
            }
            Check.faults(1, told + "{" + step + " @1;}");
            Check.faults(1, told + "{" + step + "@;}");
            Check.faults(1, told + "{" + step + " s @s;}");
            Check.faults(3, "ride a arch 1{" + step + " @s;}staff s 1;");
        }
        for (String step : new String[] {"raise", "lower"}) {
            Check.fair(told + "{" + step + " f;}");
            for (String name : new String[] {"s", "a", "b", "x", "up", "r0", "on", "glow"}) {
                Check.faults(3, told + "{" + step + " @" + name + ";}");
            }
            Check.faults(1, told + "{" + step + " @1;}");
            Check.faults(1, told + "{" + step + "@;}");
            Check.faults(3, "ride a arch 1{" + step + " @f;}flag f;");
        }
    }

    private static void ridesInFormulas() {
        Check.fair("ride a arch 1{r0=b.glow;}ride b arch 1{r0=a.glow+b.glow;}");
        Check.faults(3, "ride a arch 1{r0=@x.glow;}");
        Check.faults(3, "ride a arch 1{r0=a.glow;r0=@x.glow+y.glow;}");
        // Told behind all else: another FAULT further below is met first.
        Check.faults(1, "ride a arch 1{r0=x.glow;}@x");
        Check.faults(5, "ride a arch 1{r0=x.glow;@spin 1;}");
        Check.faults(3, "ride a arch 1{r0=x.glow;claim @y;}");
        Check.faults(2, "ride a arch 1{r0=x.glow;}ride @a arch 1{}");
        Check.faults(1, "ride a arch 1{r0=x.glow;@");
        // Below they may be told as something else: no RIDE of that name is anywhere.
        Check.faults(3, "ride a arch 1{r0=@x.glow;}staff x 1;");
        Check.faults(3, "ride a arch 1{r0=@x.glow;}flag x;");
        // The first one in the text, also within one E and over several RIDES.
        Check.faults(3, "ride a arch 1{r0=1*(@y.glow+x.glow);}ride b arch 1{r0=z.glow;}");
        Check.faults(3, "ride a arch 1{r0=b.wear;}ride b arch 1{until a.glow<@z.glow;}");
        // Staff and flags that were told above: at once, whatever stands behind.
        Check.faults(3, "staff s 1;ride a arch 1{r0=@s.glow;}");
        Check.faults(3, "flag s;ride a arch 1{r0=@s;x}");
        Check.faults(3, "flag s;ride a arch 1{r0=x.glow+@s.glow;}");
        // Without a . behind it: 1 at what stands there.
        Check.faults(1, "ride a arch 1{r0=x@;}");
        Check.faults(1, "ride a arch 1{r0=a@;}");
        Check.faults(1, "ride a arch 1{r0=a @glow;}");
        Check.faults(1, "ride a arch 1{r0=a.@;}");
        Check.faults(1, "ride a arch 1{r0=a.@1;}");
        Check.faults(1, "ride a arch 1{r0=a.@a;}");
        Check.faults(1, "ride a arch 1{r0=a.glow@.glow;}");
        Check.faults(1, "ride a arch 1{r0=a@(1);}");
        Check.faults(1, "ride a arch 1{r0=a.@");
        Check.faults(1, "ride a arch 1{r0=a@");
    }

    private static void tooMany() {
        StringBuilder rides = new StringBuilder();
        StringBuilder staff = new StringBuilder();
        StringBuilder flags = new StringBuilder();
        for (int i = 0; i < 12; i++) {
            rides.append("ride a").append(i).append(" arch 1{}");
        }
        for (int i = 0; i < 6; i++) {
            staff.append("staff s").append(i).append(" 1;");
        }
        for (int i = 0; i < 8; i++) {
            flags.append("flag f").append(i).append(";");
        }
        FairHouse house = Check.fair(rides + "" + staff + flags);
        Check.due("rides", house.count(0), 12);
        Check.due("staff", house.count(1), 6);
        Check.due("flags", house.count(2), 8);
        Check.faults(4, rides + "@ride b arch 1{}");
        Check.faults(4, staff + "@staff b 1;" + rides);
        Check.faults(4, flags + "@flag b;" + rides);
        // At ride, staff, flag: what stands behind is not looked at.
        Check.faults(4, rides + "@ride a0 arch 0{}");
        Check.faults(4, rides + "@ride");
        Check.faults(4, rides + "" + staff + "@staff s0 0;");
        Check.faults(4, rides + "" + flags + "@flag f0;");
        Check.faults(4, rides + "@ride b arch 1{}" + staff + "staff b 1;");
    }

    private static void tooDeep() {
        String stops = Check.repeat("stop;", 150);
        Check.fair(WHEEL + "{" + stops + "}");
        Check.faults(4, WHEEL + "{" + stops + "@stop;}");
        Check.faults(4, WHEEL + "{" + stops + "@r0=1;}");
        Check.faults(4, WHEEL + "{" + stops + "@spin");
        Check.faults(1, WHEEL + "{" + stops + "@x;}");
        Check.faults(1, WHEEL + "{" + stops + "@;}");
        Check.fair(WHEEL + "{" + stops + "}ride b arch 1{" + stops + "}");
        // A STEP with a BLOCK is one, those in it count as well.
        Check.fair(WHEEL + "{loop{" + Check.repeat("stop;", 149) + "}}");
        Check.faults(4, WHEEL + "{loop{" + Check.repeat("stop;", 149) + "}@loop{}}");
        Check.faults(4, WHEEL + "{loop{" + stops.substring(5) + "@stop;}}");
        Check.faults(4, WHEEL + "{if 1<2{" + Check.repeat("stop;", 74) + "}else{" + Check.repeat("stop;", 75) + "@stop;}}");

        String open = Check.repeat("loop{", 9);
        String close = Check.repeat("}", 9);
        Check.fair(WHEEL + "{" + open + close + "}");
        Check.faults(4, WHEEL + "{" + open + "loop@{" + close + "}}");
        Check.faults(4, WHEEL + "{" + open + "if 1<2@{}" + close + "}");
        Check.faults(4, WHEEL + "{" + open + "repeat 1@{}" + close + "}");
        Check.faults(4, WHEEL + "{" + open + "guard@{}on{}" + close + "}");
        Check.faults(1, WHEEL + "{" + open + "loop@;" + close + "}");
        String eight = Check.repeat("guard{", 8);
        Check.fair(WHEEL + "{" + eight + "if 1<2{}else{}" + Check.repeat("}on{}", 8) + "}");
        Check.faults(4, WHEEL + "{" + eight + "if 1<2{}else{loop@{}}" + Check.repeat("}on{}", 8) + "}");
        Check.fair(WHEEL + "{" + Check.repeat("loop{}", 100) + "}");

        String twelve = Check.repeat("(", 12);
        Check.fair(WHEEL + "{r0=" + twelve + "1" + Check.repeat(")", 12) + ";}");
        Check.faults(4, WHEEL + "{r0=" + twelve + "@(1" + Check.repeat(")", 13) + ";}");
        Check.faults(4, WHEEL + "{r0=" + twelve + "@-1" + Check.repeat(")", 12) + ";}");
        Check.fair(WHEEL + "{r0=" + Check.repeat("-", 12) + "1;}");
        Check.fair(WHEEL + "{r0=1" + Check.repeat("-", 13) + "1;}");
        Check.faults(4, WHEEL + "{r0=" + Check.repeat("-", 12) + "@-1;}");
        Check.faults(4, WHEEL + "{r0=1-" + Check.repeat("-", 12) + "@-1;}");
        Check.faults(4, WHEEL + "{r0=" + Check.repeat("-", 12) + "@(1);}");
        Check.fair(WHEEL + "{r0=" + Check.repeat("-(", 6) + "1" + Check.repeat(")", 6) + ";}");
        Check.faults(4, WHEEL + "{r0=" + Check.repeat("-(", 6) + "1+@-1" + Check.repeat(")", 6) + ";}");
        Check.faults(4, WHEEL + "{r0=" + Check.repeat("(-", 6) + "@(1)" + Check.repeat(")", 6) + ";}");
        // What does not lie in one another is not too deep; each E counts anew, both of a ONE.
        Check.fair(WHEEL + "{r0=" + Check.repeat("(1)+-", 30) + "1;}");
        Check.fair(WHEEL + "{r0=-(" + Check.repeat("-1*", 30) + "1);}");
        String deep = twelve + "1" + Check.repeat(")", 12);
        Check.fair(WHEEL + "{until " + deep + "<" + deep + " and " + deep + "<" + deep + ";}");
        Check.faults(4, WHEEL + "{until 1<" + twelve + "@(1;}");

        String nots = Check.repeat("not ", 12);
        Check.fair("flag f;" + WHEEL + "{until " + nots + "up f and " + nots + "1<2;}");
        Check.faults(4, WHEEL + "{until " + nots + "@not 1<2;}");
        Check.faults(4, WHEEL + "{until 1<2 or " + nots + "@not 1<2;}");
    }

    private static void abilitiesOfSteps() {
        String[] rides = {"wheel 1 1 1", "tower 1 1 1", "swing 1 1 1 1 1", "organ 1 1", "arch 1", "comet 1 1 1",
            "ghost 1 1", "star 1 1 1 1 1 1", "tail 1 1 1 l"};
        String[] steps = {"spin 1;", "lift 1;", "glow 1;", "sound 1;", "load 1;", "unload;"};
        String[] has = {"100011", "010011", "110011", "100100", "001000", "011100", "001111", "111111", "000011"};
        for (int ride = 0; ride < rides.length; ride++) {
            for (int step = 0; step < steps.length; step++) {
                String head = "ride l wheel 1 1 1{}ride a " + rides[ride] + "{";
                if (has[ride].charAt(step) == '1') {
                    Check.fair(head + steps[step] + "}");
                } else {
                    Check.faults(5, head + "@" + steps[step] + "}");
                    Check.faults(5, head + "loop{if 1<2{}@" + steps[step] + "}}");
                }
            }
            Check.fair("ride l wheel 1 1 1{}ride a " + rides[ride] + "{mend 1;wait 1;r0=speed+glow;}");
        }
    }

    private static void ends() {
        String whole = "staff s 1;flag f;power 9;ride a wheel 1 1 1{}ride b tail 1 1 1 a{"
                + "load 1;unload;until not up f and a.speed<(1+r0)*-2;claim s;raise f;r1=why;"
                + "repeat 2{leave;}if 1<2{}else{}guard{stop;}on{wait 1;}}";
        // Cut anywhere but between DECLS it ends too early; a word or number cut off may be another FAULT.
        for (int n = 0; n <= whole.length(); n++) {
            String part = whole.substring(0, n);
            boolean inWord = n > 0 && n < whole.length() && Character.isLetterOrDigit(whole.charAt(n - 1))
                    && Character.isLetterOrDigit(whole.charAt(n));
            if (inWord) {
                continue;
            }
            boolean good = n == whole.length() || n == whole.indexOf("ride b");
            FairHouse house = new FairHouse();
            Check.due("read of: " + part, Check.read(house, part), good ? 0 : 1);
            Check.due("place in: " + part, house.fault(1), good ? FairHouse.NONE : n);
        }
        // The text's length, not the end of its last word.
        Check.faults(1, "ride a arch 1{  \n @");
    }

    private static void severalAtOneWord() {
        Check.faults(4, "ride a arch 1{" + Check.repeat("stop;", 150) + "@spin 1;}");
        Check.faults(4, "ride a arch 1{" + Check.repeat("stop;", 150) + "@leave;}");
        Check.faults(1, "ride a arch 1{" + Check.repeat("stop;", 150) + "@why=1;}");
        // The first in the text counts, not the least number.
        Check.faults(5, "ride a arch @501{x}");
        Check.faults(3, "ride a arch 1{claim @x x;}");
        Check.faults(2, "flag a;ride @a x");
    }

    private static void longTexts() {
        // As many FACTORS as go into 4,000 bytes, and as many ONES.
        String sum = "ride a arch 1{r0=" + Check.repeat("1+", 1990) + "1;}";
        Check.due("bytes", sum.length(), 4000);
        FairHouse house = Check.fair(sum);
        house.tick(1);
        Check.due("sum", house.script(0, 4), 1991);
        String ones = "ride a arch 1{until " + Check.repeat("1<2and ", 567) + "1<2;}";
        FairHouse other = Check.fair(ones);
        other.tick(1);
        Check.due("until", other.script(0, 0), 1);
        FairHouse third = Check.fair("ride a arch 1{r0=" + Check.repeat("a.glow*", 560) + "clock;}");
        third.tick(1);
        Check.due("product", third.script(0, 4), 0);
        Check.faults(3, "ride a arch 1{r0=" + Check.repeat("a.glow*", 560) + "@b.glow;}");
    }

    /** The last byte of a full tape: nothing is looked at behind it, nor behind the n bytes of a read. */
    private static void fullToTheLastByte() {
        for (String end : new String[] {"until 1<", "until 1!", "r0=1", "r0=a", "r0=clock", "stop;", "r0=-", "r0=(", "until 1=="}) {
            String head = "ride a arch 1{";
            String text = head + Check.repeat(" ", 4000 - head.length() - end.length()) + end;
            int bad = end.endsWith("!") ? 1 : 0;
            Check.faults(1, text.substring(0, 4000 - bad) + "@" + text.substring(4000 - bad));
        }
        Check.faults(1, "@" + Check.repeat("(", 4000));
        Check.faults(1, "ride a arch 1{r0=@" + Check.repeat(")", 3983));
        Check.faults(4, "ride a arch 1{r0=" + Check.repeat("-", 12) + "@" + Check.repeat("-", 3971));
        FairHouse house = new FairHouse();
        Check.feed(house, "ride a arch 1{until 1<=2;}");
        Check.due("read", house.read(22), 1);
        Check.due("place", house.fault(1), 22);
        Check.feed(house, "ride a arch 1{r0=12;}abc");
        Check.due("read", house.read(21), 0);
        Check.feed(house, "ride a arch 1{}flags 1;");
        Check.due("read", house.read(19), 1);
        Check.due("place", house.fault(1), 19);
    }

    private static void longNames() {
        String told = "staff guide 2;staff guides 3;staff gside 4;flag night;flag light;flag nighty;ride wheels arch 1{}"
                + "ride wheelx arch 1{}ride whee organ 1 1{}";
        FairHouse house = Check.fair(told + "ride last tail 1 1 1 whee{claim guides;claim gside;raise light;r0=wheelx.glow;"
                + "r1=last.wear;until not up nighty;}");
        house.tick(1);
        Check.due("staff", house.free(0) + " " + house.free(1) + " " + house.free(2), "2 2 3");
        Check.due("flags", house.isUp(0) + " " + house.isUp(1) + " " + house.isUp(2), "false true false");
        for (String name : new String[] {"guide", "guides", "gside", "night", "nighty", "wheels", "wheelx", "whee"}) {
            Check.faults(2, told + "flag @" + name + ";");
            Check.faults(2, told + "staff @" + name + " 1;");
            Check.faults(2, told + "ride @" + name + " arch 1{}");
        }
        for (String name : new String[] {"guid", "guidex", "xuide", "ght", "wheely", "whe", "hee"}) {
            Check.fair(told + "flag " + name + ";");
            Check.faults(3, told + "ride z arch 1{claim @" + name + ";}");
            Check.faults(3, told + "ride z arch 1{raise @" + name + ";}");
            Check.faults(3, told + "ride z arch 1{r0=@" + name + ".glow;}");
            Check.faults(3, told + "ride z tail 1 1 1 @" + name + "{}");
        }
    }

    /** Twelve RIDES, six staff and eight flags: the last NAME of each is known as the first is. */
    private static void allNames() {
        StringBuilder text = new StringBuilder();
        for (int i = 0; i < 12; i++) {
            text.append("ride x").append(i).append(" ghost 1 1{glow ").append(i + 1)
                    .append(";wait 1;r0=x11.glow;r1=x0.glow;r2=x").append(11 - i).append(".glow;}");
        }
        FairHouse house = Check.fair(text.toString());
        house.tick(2);
        for (int i = 0; i < 12; i++) {
            Check.due("registers of " + i, Check.registers(house, i), "12 1 " + (12 - i) + " 0");
        }
        StringBuilder names = new StringBuilder();
        for (int i = 0; i < 11; i++) {
            names.append("ride x").append(i).append(" arch 1{}");
        }
        for (int i = 0; i < 6; i++) {
            names.append("staff s").append(i).append(" 9;");
        }
        for (int i = 0; i < 8; i++) {
            names.append("flag f").append(i).append(";");
        }
        FairHouse last = Check.fair(names + "ride x11 arch 1{claim s5;claim s0;raise f7;raise f0;glow 5;r0=x11.glow;}");
        last.tick(1);
        Check.due("staff", last.free(5) + " " + last.free(0) + " " + last.free(1), "8 8 9");
        Check.due("flags", last.isUp(7) + " " + last.isUp(0) + " " + last.isUp(1), "true true false");
        Check.due("x11", last.script(11, 4), 5);
        Check.faults(2, names + "ride @f7 arch 1{}");
        Check.faults(2, names + "ride @x10 arch 1{}");
    }

    private static void readsAgain() {
        FairHouse house = new FairHouse();
        String sum = "ride a arch 1{r0=" + Check.repeat("1+", 1990) + "1;}";
        Check.due("a full tape", Check.read(house, sum), 0);
        Check.due("another", Check.read(house, sum.replace("1+", "2+")), 0);
        house.tick(1);
        Check.due("its own sum", house.script(0, 4), 3981);
        Check.due("power", Check.read(house, "power 5;ride a wheel 9 9 9{}ride b tail 9 9 9 a{}ride c star 9 9 9 9 9 9{}"), 0);
        // Nothing is left of the fair before: its power, names, LEADER, PLACES.
        Check.due("power again", Check.read(house, "power 6;ride a wheel 9 9 8{spin 9;}ride b wheel 9 3 7{spin 9;}"
                + "ride c arch 1{}"), 0);
        Check.due("power", house.count(3), 6);
        house.tick(1);
        Check.due("b has no LEADER", house.measure(1, 1), 3);
        Check.due("places", house.measure(0, 10) + " " + house.measure(1, 10) + " " + house.measure(2, 10), "8 7 0");
        Check.due("a NAME of before", Check.read(house, "ride d arch 1{r0=b.glow;}"), 3);
        Check.due("power untold", Check.read(house, "ride d arch 1{}"), 0);
        Check.due("power", house.count(3), 9999);
        // A RIDE of before draws nothing and is not heard any more.
        Check.due("three", Check.read(house, "ride a arch 9{}ride b ghost 9 99{glow 99;sound 99;}ride c ghost 9 99{sound 99;}"), 0);
        house.tick(1);
        Check.due("DRAWS", house.total(5), 98 + 49 + 49);
        Check.due("one", Check.read(house, "ride a arch 9{}"), 0);
        house.tick(1);
        Check.due("DRAWS and NOISE", house.total(5) + " " + house.total(6), "0 0");
        // A second power is none behind a FAULT, too.
        Check.due("spoilt", Check.read(house, "power 5;x"), 1);
        Check.due("power", Check.read(house, "power 5;ride d arch 1{}"), 0);
    }

    private static void deepInEitherBlock() {
        // BLOCK 10 and 11 in an else and in an on, each beside a shallow first one.
        String open = Check.repeat("loop{", 8);
        String close = Check.repeat("}", 8);
        Check.fair(WHEEL + "{" + open + "if 1<2{}else{}" + close + "}");
        Check.fair(WHEEL + "{" + open + "guard{}on{}" + close + "}");
        Check.faults(4, WHEEL + "{" + open + "if 1<2{}else{loop@{}}" + close + "}");
        Check.faults(4, WHEEL + "{" + open + "guard{}on{loop@{}}" + close + "}");
        Check.faults(4, WHEEL + "{" + open + "if 1<2{loop@{}}" + close + "}");
        Check.faults(4, WHEEL + "{" + open + "guard{loop@{}}on{}" + close + "}");
    }
}
