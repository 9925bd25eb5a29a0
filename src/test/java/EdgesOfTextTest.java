/**
 * "2. THE TEXT", sentence by sentence: both sides of each least and greatest value, of what is too many and too deep,
 * and of the text's end. In a text with a FAULT the @ marks its place.
 */
public final class EdgesOfTextTest {
    private static final String ARCH = "ride a arch 1";
    private static final String STAR = "staff s 1;flag f;ride a star 1 1 1 1 1 1";
    // Each STEP with the least that stands in it, as a star may have it, for a loop.
    private static final String[] STEPS = {"spin 1;", "lift 1;", "glow 1;", "sound 1;", "load 1;", "unload;", "mend 1;",
        "wait 1;", "until 1<2;", "claim s;", "free s;", "raise f;", "lower f;", "r0=1;", "r1=1;", "r2=1;", "r3=1;",
        "repeat 1{}", "loop{}", "if 1<2{}", "if 1<2{}else{}", "guard{}on{}", "leave;", "stop;"};
    // The KINDS with their NUMBERS' greatest values, each with its LEADER where it has one.
    private static final String[] KINDS = {"wheel 500 50 60", "tower 500 200 60", "swing 500 50 500 200 60", "organ 500 50",
        "arch 500", "comet 500 200 500", "ghost 60 500", "star 500 50 500 200 60 500", "tail 500 50 60 l"};

    public static void main(String[] args) {
        bytesOfATextAndOthers();
        bytesAtMost();
        blanksStandOrNot();
        wordsOfEight();
        signsOfWords();
        numbersOfFour();
        valuesOfNumbers();
        signsAsLongAsCanBe();
        oneRideAtLeast();
        endsTooEarly();
        power();
        staffNumbers();
        rideNumbers();
        howManyNumbers();
        leaders();
        registers();
        rides();
        staff();
        flags();
        stepsOfARide();
        stepsInBlocksCount();
        blocksInOneAnother();
        blocksBesideOneAnother();
        nestedInAnE();
        eachECountsAnew();
        nots();
        whatComesFirstHolds();
        namesThatAreThere();
        namesFromTheStart();
        namesThatAreNot();
        ridesFurtherBelow();
        staffAndFlagsInAnE();
        abilitiesOfSteps();
        leaveInATurn();
        severalAtOneWord();
        longest();
        Check.end();
    }

    private static String steps(int number) {
        return Check.repeat("stop;", number);
    }

    /** Bytes: 10, 32 to 126. 10 and 32 alone are none of a word. */
    private static void bytesOfATextAndOthers() {
        for (char sign = 0; sign < 256; sign++) {
            if (sign == 10 || sign == 32) {
                Check.fair(sign + ARCH + "{}" + sign);
                Check.fair("ride" + sign + "a" + sign + "arch" + sign + "1{}");
                continue;
            }
            // None of these can stand ahead of a FAIR, nor behind it.
            if (sign != '@') {
                Check.faults(1, "@" + sign + ARCH + "{}");
                Check.faults(1, ARCH + "{}@" + sign);
            }
            boolean ofText = sign > 32 && sign < 127;
            if (!ofText) {
                // Nor in a word, a number, or where a name, a step, a factor or a sign is due.
                Check.faults(1, "ride@" + sign + " a arch 1{}");
                Check.faults(1, "@ri" + sign + "de a arch 1{}");
                Check.faults(1, "ride @" + sign + " arch 1{}");
                Check.faults(1, "ride a@" + sign + " arch 1{}");
                Check.faults(1, "ride a arch 1@" + sign + "{}");
                Check.faults(1, ARCH + "{@" + sign + "}");
                Check.faults(1, ARCH + "{r0=@" + sign + ";}");
                Check.faults(1, ARCH + "{r0=1@" + sign + ";}");
            }
        }
        for (String sign : new String[] {"!", "\"", "#", "$", "%", "&", "'", ",", ":", "?", "[", "\\", "]", "^", "_", "`", "|",
            "~", "A", "Z"}) {
            Check.faults(1, ARCH + "{r0=1@" + sign + ";}");
            Check.faults(1, ARCH + "{r0=@" + sign + ";}");
        }
    }

    /** At most 4,000 bytes: the last one is looked at, too. */
    private static void bytesAtMost() {
        Check.fair(Check.repeat(" ", 3985) + ARCH + "{}");
        Check.fair(ARCH + "{}" + Check.repeat("\n", 3985));
        Check.fair(ARCH + "{" + Check.repeat(" ", 3985) + "}");
        Check.faults(1, ARCH + "{" + Check.repeat(" ", 3986) + "@");
        Check.faults(1, ARCH + "{}" + Check.repeat(" ", 3984) + "@x");
        Check.faults(1, ARCH + "{}" + Check.repeat(" ", 3984) + "@}");
        Check.faults(1, Check.repeat(" ", 3999) + "@}");
        Check.faults(1, Check.repeat(" ", 4000) + "@");
    }

    /** 10 and 32 stand between words or not: only two words, or a word and a number behind it, need one. */
    private static void blanksStandOrNot() {
        String tokens = "power 9 ; staff s 1 ; flag f ; ride a star 1 1 1 1 1 1 { until not up f and ( 1 + a . speed ) * - 2"
                + " / r1 - 3 <= 4 ; r0 = 1 ; repeat 2 { leave ; } loop { } if 1 == 1 or 1 != 2 { claim s ; } else { } guard { }"
                + " on { } } ride t tail 1 1 1 a { }";
        Check.fair(tokens);
        Check.fair(tokens.replace(" ", "\n"));
        Check.fair(tokens.replace(" ", " \n  \n\n"));
        Check.fair("\n " + tokens + " \n");
        Check.fair(tokens.replaceAll(" ?([^a-z0-9 ]+) ?", "$1"));
        // A number ends where a letter stands: no blank is needed there.
        Check.fair(ARCH + "{until 1==1and 2==2and not 3==4;}");
        Check.faults(1, "@ridea arch 1{}");
        Check.faults(1, "ride aarch @1{}");
        Check.faults(1, "ride a @arch1{}");
        Check.faults(1, "ride a wheel 1 11@{}");
        Check.faults(1, ARCH + "{@wait1;}");
        Check.faults(1, ARCH + "{until 1==1 @andnot 1==1;}");
    }

    /** WORDS: 8 at most; of nine, at its first byte: 1, whatever could stand there. */
    private static void wordsOfEight() {
        for (int size = 1; size <= 12; size++) {
            String name = "zyxwv1234567".substring(0, size);
            if (size <= 8) {
                Check.fair("staff " + name + " 1;" + ARCH + "{claim " + name + ";free " + name + ";}");
                Check.fair("flag " + name + ";" + ARCH + "{raise " + name + ";until not up " + name + ";lower " + name + ";}");
                Check.fair("ride " + name + " wheel 1 1 1{r0=" + name + ".speed;}ride t tail 1 1 1 " + name + "{}");
                continue;
            }
            // Its first eight are a NAME; of nine they are none.
            String told = "staff zyxwv123 1;" + ARCH + "{";
            Check.faults(1, "staff @" + name + " 1;" + ARCH + "{}");
            Check.faults(1, "flag @" + name + ";" + ARCH + "{}");
            Check.faults(1, "ride @" + name + " arch 1{}");
            Check.faults(1, told + "claim @" + name + ";}");
            Check.faults(1, told + "free @" + name + ";}");
            Check.faults(1, told + "r0=@" + name + ".glow;}");
            Check.faults(1, told + "r0=a.@" + name + ";}");
            Check.faults(1, "flag zyxwv123;" + ARCH + "{raise @" + name + ";}");
            Check.faults(1, "flag zyxwv123;" + ARCH + "{until up @" + name + ";}");
            Check.faults(1, "ride zyxwv123 wheel 1 1 1{}ride t tail 1 1 1 @" + name + "{}");
            Check.faults(1, ARCH + "{@" + name + "}");
            Check.faults(1, "@" + name + " 1;" + ARCH + "{}");
            Check.faults(1, "ride a @" + name + " 1{}");
        }
        // Words that are there from the start have eight at most; with nine they are none.
        Check.faults(1, ARCH + "{@repeatttt 1{}}");
        Check.faults(1, ARCH + "{r0=@heighttttt;}");
        // As long as 4,000 bytes allow.
        Check.faults(1, "ride @" + Check.repeat("a", 3995));
    }

    /** A small letter, then small letters and digits: both ends of these, and what stands beside them in ASCII. */
    private static void signsOfWords() {
        for (String name : new String[] {"b", "z", "az", "za", "a0", "z9", "a0z9a0z9", "b0000000", "zzzzzzzz"}) {
            Check.fair("ride " + name + " arch 1{r0=" + name + ".glow;}");
        }
        for (String sign : new String[] {"`", "{", "/", ":", "A", "Z", "_", "-", "."}) {
            Check.faults(1, "ride b@" + sign + " arch 1{}");
            Check.faults(1, "ride @" + sign + "b arch 1{}");
        }
        for (String sign : new String[] {"0", "9"}) {
            Check.faults(1, "ride @" + sign + "b arch 1{}");
        }
        // NAMES that differ in their last sign, or in their size, are two.
        Check.fair("ride b arch 1{}ride b1 arch 1{}ride b11 arch 1{}ride c arch 1{}ride bcdefgh0 arch 1{}ride bcdefgh1 arch 1{}");
    }

    /** NUMBERS: one to four digits; of five, at its first byte: 1. */
    private static void numbersOfFour() {
        for (String number : new String[] {"1", "01", "001", "0001"}) {
            Check.fair("power " + number + ";staff s " + number + ";ride a wheel " + number + " " + number + " " + number + "{r0="
                    + number + ";}");
        }
        for (String number : new String[] {"00001", "00000", "10000", "99999", "123456"}) {
            Check.faults(1, "power @" + number + ";" + ARCH + "{}");
            Check.faults(1, "staff s @" + number + ";" + ARCH + "{}");
            Check.faults(1, "ride a wheel @" + number + " 1 1{}");
            Check.faults(1, "ride a wheel 1 1 @" + number + "{}");
            Check.faults(1, ARCH + "{r0=@" + number + ";}");
            Check.faults(1, ARCH + "{r0=1+@" + number + ";}");
        }
        // Four digits and then a letter are a NUMBER and a WORD.
        Check.faults(1, ARCH + "{r0=1234@a;}");
        Check.faults(1, ARCH + "{r0=@12345a;}");
        Check.faults(1, ARCH + "{r0=@" + Check.repeat("1", 3983));
    }

    private static void valuesOfNumbers() {
        String[] numbers = {"0", "0000", "1", "0009", "10", "0099", "100", "999", "1000", "0999", "9999"};
        int[] values = {0, 0, 1, 9, 10, 99, 100, 999, 1000, 999, 9999};
        for (int i = 0; i < numbers.length; i++) {
            FairHouse house = Check.fair(ARCH + "{r0=" + numbers[i] + ";}");
            house.tick(1);
            Check.due("value of " + numbers[i], house.script(0, 4), values[i]);
        }
    }

    /** SIGNS: each as long as can be. */
    private static void signsAsLongAsCanBe() {
        for (String sign : new String[] {"<", "<=", ">", ">=", "==", "!="}) {
            Check.fair(ARCH + "{until 1" + sign + "2;until 1 " + sign + " 2;until r0" + sign + "-r1;}");
            Check.faults(1, ARCH + "{until 1" + sign + "@<2;}");
            Check.faults(1, ARCH + "{until 1" + sign + "@!=2;}");
            Check.faults(1, ARCH + "{until 1" + sign + " @=2;}");
            if (sign.length() == 2) {
                Check.faults(1, ARCH + "{until 1" + sign + "@=2;}");
                Check.faults(1, ARCH + "{until 1" + sign + "@==2;}");
            }
        }
        Check.faults(1, ARCH + "{until 1@= =2;}");
        Check.faults(1, ARCH + "{until 1@! =2;}");
        Check.faults(1, ARCH + "{until 1@=2;}");
        Check.faults(1, ARCH + "{until 1@!2;}");
        Check.faults(1, ARCH + "{r0@==1;}");
        Check.faults(1, ARCH + "{r0@<=1;}");
        Check.faults(1, ARCH + "{r0= @=1;}");
        Check.fair(ARCH + "{r0=-1;r0=--1;r0=(-1)-1;}");
    }

    /** There must be one RIDE at least (1 at the text's end). */
    private static void oneRideAtLeast() {
        Check.faults(1, "@");
        Check.faults(1, " @");
        Check.faults(1, "\n\n@");
        Check.faults(1, "power 1;@");
        Check.faults(1, "staff s 1;flag f;power 1; \n @");
        Check.fair("power 1;staff s 1;flag f;" + ARCH + "{}");
        Check.fair(ARCH + "{}power 1;staff s 1;flag f;");
        // The text's end is where read() has it, not the tape's.
        FairHouse house = new FairHouse();
        Check.feed(house, "power 1;" + ARCH + "{}");
        Check.due("read of the power alone", house.read(8), 1);
        Check.due("its place", house.fault(1), 8);
    }

    /** The text's length where it ends too early. */
    private static void endsTooEarly() {
        for (String step : STEPS) {
            String head = STAR + "{loop{";
            String whole = head + step + "}}";
            Check.fair(whole);
            for (int n = head.length(); n < whole.length(); n++) {
                // Where a word is cut, what is left of it may be another one.
                boolean cuts = Character.isLetterOrDigit(whole.charAt(n - 1)) && Character.isLetterOrDigit(whole.charAt(n));
                if (!cuts) {
                    Check.faults(1, whole.substring(0, n) + "@");
                    Check.faults(1, whole.substring(0, n) + " \n@");
                }
            }
        }
        for (String part : new String[] {"power", "power 1", "staff", "staff s", "staff s 1", "flag", "flag f", "ride", "ride a",
            "ride a wheel", "ride a wheel 1 1", "ride a wheel 1 1 1", "ride a tail 1 1 1"}) {
            Check.faults(1, part + "@");
            Check.faults(1, part + "  @");
        }
    }

    /** A second power; power (1 to 9999) that is beyond, at it. */
    private static void power() {
        for (String number : new String[] {"1", "9999", "0001"}) {
            Check.due("power " + number, Check.fair("power " + number + ";" + ARCH + "{}").count(3), number.equals("9999") ? 9999 : 1);
        }
        Check.faults(5, "power @0;" + ARCH + "{}");
        Check.faults(5, "power @0000;" + ARCH + "{}");
        Check.faults(1, "power @10000;" + ARCH + "{}");
        Check.faults(1, "power @-1;" + ARCH + "{}");
        Check.due("none told", Check.fair(ARCH + "{}").count(3), 9999);
        Check.faults(4, "power 1;@power 2;" + ARCH + "{}");
        Check.faults(4, "power 1;" + ARCH + "{}@power");
        Check.faults(4, "power 1;@power 0;");
    }

    /** A NUMBER of staff (1 to 9) that is beyond, at it. */
    private static void staffNumbers() {
        for (int number = 0; number <= 11; number++) {
            boolean fits = number >= 1 && number <= 9;
            if (fits) {
                Check.due("staff", Check.fair("staff s " + number + ";" + ARCH + "{}").free(0), number);
            } else {
                Check.faults(5, "staff s @" + number + ";" + ARCH + "{}");
            }
        }
        Check.faults(5, "staff s @9999;" + ARCH + "{}");
        Check.faults(5, "staff s @0000;" + ARCH + "{}");
    }

    /** A NUMBER of a RIDE that is beyond, at it: each NUMBER of each KIND, at its least and its greatest. */
    private static void rideNumbers() {
        String head = "ride l wheel 1 1 1{}ride a ";
        for (String kind : KINDS) {
            String[] words = kind.split(" ");
            boolean tail = words[0].equals("tail");
            int numbers = words.length - (tail ? 2 : 1);
            Check.fair(head + kind + "{}");
            for (int i = 1; i <= numbers; i++) {
                Check.fair(head + with(words, i, "1") + "{}");
                Check.faults(5, head + with(words, i, "@0") + "{}");
                Check.faults(5, head + with(words, i, "@" + (Integer.parseInt(words[i]) + 1)) + "{}");
                Check.faults(5, head + with(words, i, "@9999") + "{}");
                Check.faults(1, head + with(words, i, "@-1") + "{}");
            }
        }
    }

    private static String with(String[] words, int i, String word) {
        String[] other = words.clone();
        other[i] = word;
        return String.join(" ", other);
    }

    /** Its NUMBERS, not one less and not one more. */
    private static void howManyNumbers() {
        String head = "ride l wheel 1 1 1{}ride a ";
        for (String kind : KINDS) {
            boolean tail = kind.startsWith("tail");
            String plain = tail ? kind.substring(0, kind.length() - 2) : kind;
            String behind = tail ? "l{}" : "{}";
            String less = plain.substring(0, plain.lastIndexOf(' ') + 1);
            Check.faults(1, head + less + "@" + behind);
            Check.faults(1, head + plain + " @1 " + behind);
        }
    }

    /** A LEADER that does not TURN or is HITCHED, at it; one that is not above: 3. */
    private static void leaders() {
        for (String kind : KINDS) {
            String name = kind.substring(0, kind.indexOf(' '));
            boolean leads = name.equals("wheel") || name.equals("swing") || name.equals("organ") || name.equals("star");
            String above = "ride l wheel 1 1 1{}ride b " + kind + "{}";
            if (leads) {
                Check.fair(above + "ride t tail 1 1 1 b{}ride u tail 1 1 1 b{}");
            } else {
                Check.faults(5, above + "ride t tail 1 1 1 @b{}");
                Check.faults(5, above + "ride t tail 1 1 1 @b;");
            }
            Check.faults(3, "ride t tail 1 1 1 @b{}" + above);
        }
        Check.faults(3, "ride l wheel 1 1 1{}ride t tail 1 1 1 @m{}");
        Check.faults(3, "ride l wheel 1 1 1{}staff s 1;ride t tail 1 1 1 @s{}");
        Check.faults(3, "ride l wheel 1 1 1{}flag s;ride t tail 1 1 1 @s{}");
        Check.faults(3, "ride l wheel 1 1 1{}ride t tail 1 1 1 @r0{}");
        Check.faults(1, "ride l wheel 1 1 1{}ride t tail 1 1 1 @0{}");
    }

    /** R: r0 to r3. */
    private static void registers() {
        for (String name : new String[] {"r0", "r1", "r2", "r3"}) {
            Check.fair(ARCH + "{" + name + "=" + name + "+1;}");
            Check.faults(2, "ride @" + name + " arch 1{}");
            Check.faults(1, ARCH + "{r0=" + name + "@.glow;}");
            Check.faults(1, ARCH + "{r0=a.@" + name + ";}");
        }
        for (String name : new String[] {"r4", "r9", "r", "r00", "r03"}) {
            Check.faults(1, ARCH + "{@" + name + "=1;}");
            Check.faults(1, ARCH + "{r0=" + name + "@;}");
            Check.fair("ride " + name + " arch 1{r0=" + name + ".glow;}");
        }
    }

    private static String many(String head, int number, String behind) {
        StringBuilder text = new StringBuilder();
        for (int i = 0; i < number; i++) {
            text.append(head).append(i).append(behind);
        }
        return text.toString();
    }

    /** A 13th RIDE, at ride. */
    private static void rides() {
        for (int number : new int[] {1, 11, 12}) {
            Check.due("rides", Check.fair(many("ride x", number, " arch 1{}")).count(0), number);
        }
        String twelve = many("ride x", 12, " arch 1{}");
        for (String behind : new String[] {" y arch 1{}", "", " x0 arch 1{}", ";", " y arch 0{}", " spin"}) {
            Check.faults(4, twelve + "@ride" + behind);
        }
        Check.faults(4, twelve + "flag f;staff s 1;power 1;@ride y arch 1{}");
        Check.fair(twelve + "flag f;staff s 1;power 1;");
    }

    /** A 7th staff, at staff. */
    private static void staff() {
        for (int number : new int[] {0, 1, 5, 6}) {
            Check.due("staff", Check.fair(ARCH + "{}" + many("staff x", number, " 1;")).count(1), number);
        }
        String six = many("staff x", 6, " 1;");
        for (String behind : new String[] {" y 1;", "", " x0 1;", ";", " y 0;", " spin"}) {
            Check.faults(4, six + "@staff" + behind);
            Check.faults(4, ARCH + "{}" + six + "@staff" + behind);
        }
        Check.fair(six + many("flag f", 8, ";") + ARCH + "{claim x5;}");
    }

    /** A 9th flag, at flag. */
    private static void flags() {
        for (int number : new int[] {0, 1, 7, 8}) {
            Check.due("flags", Check.fair(ARCH + "{}" + many("flag x", number, ";")).count(2), number);
        }
        String eight = many("flag x", 8, ";");
        for (String behind : new String[] {" y;", "", " x0;", ";", " spin"}) {
            Check.faults(4, eight + "@flag" + behind);
            Check.faults(4, ARCH + "{}" + eight + "@flag" + behind);
        }
        Check.fair(eight + many("staff s", 6, " 1;") + ARCH + "{raise x7;}");
    }

    /** The 151st STEP of a RIDE, whichever it is; each RIDE counts anew. */
    private static void stepsOfARide() {
        for (String step : STEPS) {
            String inTurn = STAR + "{loop{" + steps(148);
            Check.fair(inTurn + step + "}}");
            Check.faults(4, inTurn + "stop;@" + step + "}}");
        }
        Check.fair(ARCH + "{" + steps(150) + "}ride b arch 1{" + steps(150) + "}ride c arch 1{" + steps(150) + "}");
        Check.faults(4, ARCH + "{" + steps(150) + "}ride b arch 1{" + steps(150) + "@stop;}");
        Check.faults(4, ARCH + "{" + steps(1) + "}ride b arch 1{" + steps(150) + "@stop;}");
        Check.faults(4, ARCH + "{" + steps(150) + "@stop");
        Check.faults(4, ARCH + "{" + steps(150) + "@r0");
        Check.faults(1, ARCH + "{" + steps(150) + "@");
    }

    /** A STEP with BLOCKS is one, and so is each in them. */
    private static void stepsInBlocksCount() {
        String[] heads = {"repeat 1{", "loop{", "if 1<2{", "if 1<2{}else{", "guard{", "guard{}on{"};
        String[] tails = {"}", "}", "}", "}", "}on{}", "}"};
        for (int i = 0; i < heads.length; i++) {
            Check.fair(ARCH + "{" + heads[i] + steps(149) + tails[i] + "}");
            Check.faults(4, ARCH + "{" + heads[i] + steps(149) + "@stop;" + tails[i] + "}");
            Check.faults(4, ARCH + "{" + heads[i] + steps(149) + tails[i] + "@stop;}");
            Check.fair(ARCH + "{" + steps(149) + heads[i] + tails[i] + "}");
            Check.faults(4, ARCH + "{" + steps(149) + heads[i] + "@stop;" + tails[i] + "}");
        }
        Check.fair(ARCH + "{if 1<2{" + steps(74) + "}else{" + steps(75) + "}}");
        Check.faults(4, ARCH + "{if 1<2{" + steps(75) + "}else{" + steps(74) + "@stop;}}");
        Check.fair(ARCH + "{guard{" + steps(75) + "}on{" + steps(74) + "}}");
        Check.faults(4, ARCH + "{guard{" + steps(75) + "}on{" + steps(74) + "@stop;}}");
    }

    /** A BLOCK (at its {) that would be the 11th in one another (a RIDE's own is 1). */
    private static void blocksInOneAnother() {
        String[] heads = {"repeat 1{", "loop{", "if 1<2{", "if 1<2{}else{", "guard{", "guard{}on{"};
        String[] tails = {"}", "}", "}", "}", "}on{}", "}"};
        for (int i = 0; i < heads.length; i++) {
            String ten = ARCH + "{" + Check.repeat(heads[i], 9) + "stop;";
            String close = Check.repeat(tails[i], 9) + "}";
            Check.fair(ten + close);
            for (int j = 0; j < heads.length; j++) {
                int brace = heads[j].indexOf('{');
                Check.faults(4, ten + heads[j].substring(0, brace) + "@" + heads[j].substring(brace) + tails[j] + close);
                Check.faults(1, ten + heads[j].substring(0, brace) + "@;" + close);
            }
        }
        // All sorts in one another: nine of them and the RIDE's own.
        String mixed = "repeat 1{loop{if 1<2{}else{guard{if 1<2{guard{}on{repeat 1{loop{if 1<2{";
        Check.fair(ARCH + "{" + mixed + "}}}}}}on{}}}}}");
        Check.faults(4, ARCH + "{" + mixed + "loop@{}}}}}}}on{}}}}}");
        Check.faults(4, ARCH + "{" + Check.repeat("loop{", 9) + "loop@{");
    }

    /** Those that are not in one another are not too deep. */
    private static void blocksBesideOneAnother() {
        Check.fair(ARCH + "{" + Check.repeat("loop{}", 150) + "}");
        String nine = Check.repeat("loop{", 9) + Check.repeat("}", 9);
        Check.fair(ARCH + "{" + Check.repeat(nine, 16) + "}");
        Check.fair(ARCH + "{" + nine + "}ride b arch 1{" + nine + "}");
        Check.fair(ARCH + "{" + Check.repeat("loop{", 8) + "if 1<2{}else{}guard{}on{}" + Check.repeat("}", 8) + "}");
    }

    /** A 13th ( or - (of a FACTOR) that lies in twelve such of its E. */
    private static void nestedInAnE() {
        for (int minuses = 0; minuses <= 12; minuses++) {
            int open = 12 - minuses;
            String signs = Check.repeat("-", minuses) + Check.repeat("(", open);
            String close = Check.repeat(")", open);
            Check.fair(ARCH + "{r0=" + signs + "1" + close + ";}");
            Check.faults(4, ARCH + "{r0=" + signs + "@(1)" + close + ";}");
            Check.faults(4, ARCH + "{r0=" + signs + "@-1" + close + ";}");
            Check.faults(4, ARCH + "{r0=" + signs + "@--1" + close + ";}");
            String turned = Check.repeat("(", open) + Check.repeat("-", minuses);
            Check.fair(ARCH + "{r0=" + turned + "1" + close + ";}");
            Check.faults(4, ARCH + "{r0=" + turned + "@(1)" + close + ";}");
            Check.faults(4, ARCH + "{r0=" + turned + "@-1" + close + ";}");
        }
        String twelve = Check.repeat("(", 12);
        String close = Check.repeat(")", 12);
        // A - between TERMS is none of a FACTOR.
        Check.fair(ARCH + "{r0=" + twelve + "1-1+1" + close + "-1;}");
        Check.faults(4, ARCH + "{r0=" + twelve + "1-@-1" + close + ";}");
        Check.faults(4, ARCH + "{r0=" + twelve + "1+@(1)" + close + ";}");
        Check.faults(4, ARCH + "{r0=" + twelve + "1*@-1" + close + ";}");
        // What stands behind a ) or behind a FACTOR lies in it no more.
        Check.fair(ARCH + "{r0=" + twelve + "1" + close + "+" + twelve + "1" + close + ";}");
        Check.fair(ARCH + "{r0=" + Check.repeat("-", 12) + "1*" + Check.repeat("-", 12) + "1/" + twelve + "1" + close + ";}");
        Check.fair(ARCH + "{r0=-(-(" + Check.repeat("-", 8) + "1+" + Check.repeat("-", 8) + "1));}");
        Check.faults(4, ARCH + "{r0=-(-(" + Check.repeat("-", 8) + "1+" + Check.repeat("-", 8) + "@-1));}");
        Check.faults(1, ARCH + "{r0=" + twelve + "@);}");
        Check.faults(4, ARCH + "{r0=" + twelve + "@(");
        Check.faults(1, ARCH + "{r0=" + twelve + "1" + close + "@);}");
        Check.faults(1, ARCH + "{r0=" + twelve + "1" + Check.repeat(")", 11) + "@;}");
    }

    /** Of its E: in each E of each STEP. */
    private static void eachECountsAnew() {
        String deep = Check.repeat("(", 12) + "1" + Check.repeat(")", 12);
        String deeper = Check.repeat("(", 12) + "@(1" + Check.repeat(")", 13);
        for (String step : STEPS) {
            int one = step.indexOf('1');
            boolean named = step.startsWith("r1");
            if (one < 0 || named) {
                continue;
            }
            String ahead = STAR + "{loop{" + step.substring(0, one);
            String behind = step.substring(one + 1) + "}}";
            Check.fair(ahead + deep + behind);
            Check.faults(4, ahead + deeper + behind);
            int two = behind.indexOf('2');
            if (two >= 0) {
                Check.fair(ahead + deep + behind.substring(0, two) + deep + behind.substring(two + 1));
                Check.faults(4, ahead + deep + behind.substring(0, two) + deeper + behind.substring(two + 1));
            }
        }
    }

    /** A 13th not of a ONE: each ONE counts anew. */
    private static void nots() {
        String twelve = Check.repeat("not ", 12);
        for (String one : new String[] {"1<2", "up f"}) {
            for (String step : new String[] {"until @;", "if @{}"}) {
                String[] part = step.split("@");
                String head = STAR + "{" + part[0];
                Check.fair(head + twelve + one + part[1] + "}");
                Check.faults(4, head + twelve + "@not " + one + part[1] + "}");
                for (String joint : new String[] {" and ", " or "}) {
                    Check.fair(head + twelve + one + joint + twelve + one + joint + twelve + one + part[1] + "}");
                    Check.faults(4, head + twelve + one + joint + twelve + "@not " + one + part[1] + "}");
                    Check.faults(4, head + one + joint + one + joint + twelve + "@not " + one + part[1] + "}");
                }
            }
        }
        Check.faults(4, STAR + "{until " + twelve + "@not");
        Check.faults(1, STAR + "{until " + twelve + "@;}");
        // Twelve turn it over an even time, eleven an odd one.
        for (int number = 0; number <= 12; number++) {
            FairHouse house = Check.fair(ARCH + "{if " + Check.repeat("not ", number) + "1<2{r0=1;}else{r0=2;}}");
            house.tick(1);
            Check.due(number + " nots", house.script(0, 4), number % 2 == 0 ? 1 : 2);
        }
    }

    /** Not both: what comes first holds. */
    private static void whatComesFirstHolds() {
        Check.fair(ARCH + "{until 1<2;}");
        Check.fair(ARCH + "{until 1<2 and 1<2 and 1<2;until 1<2 or 1<2 or 1<2;}");
        Check.faults(1, ARCH + "{until 1<2 and 1<2 @or 1<2;}");
        Check.faults(1, ARCH + "{until 1<2 or 1<2 @and 1<2;}");
        Check.faults(1, ARCH + "{until 1<2 and 1<2 and 1<2 @or 1<2;}");
        // The next C begins anew.
        Check.fair(ARCH + "{until 1<2 and 1<2;until 1<2 or 1<2;if 1<2 and 1<2{until 1<2 or 1<2;}}");
    }

    /** 2: a NAME that is there already (of staff, flag, ride). */
    private static void namesThatAreThere() {
        String[] told = {"staff x 1;", "flag x;", "ride x arch 1{}"};
        String[] again = {"staff @x 1;", "flag @x;", "ride @x arch 1{}", "staff @x", "flag @x", "ride @x", "ride @x spin",
            "staff @x 0;"};
        for (String first : told) {
            for (String second : again) {
                Check.faults(2, first + second);
                Check.faults(2, "ride b arch 1{}" + first + "ride c arch 1{}" + second);
            }
            Check.fair(first + "staff y 1;flag z;ride b arch 1{}");
        }
        // A NAME of a FAULT's text is not there in the next one.
        FairHouse house = new FairHouse();
        Check.due("spoilt", Check.read(house, "staff x 1;flag y;ride z arch 1{}!"), 1);
        Check.due("the same NAMES", Check.read(house, "ride x arch 1{}staff y 1;flag z;"), 0);
        Check.due("and again", Check.read(house, "ride z arch 1{}staff x 1;flag y;"), 0);
    }

    /** The words that are there from the start: as a new NAME 2, where a NAME is used 3, in an E 1 but for a FACTOR's. */
    private static void namesFromTheStart() {
        String all = "power staff flag ride spin lift glow sound load unload mend wait until claim free raise lower repeat loop"
                + " if guard leave stop wheel tower swing organ arch comet ghost star tail why clock wind queue speed height"
                + " aboard volume wear r0 r1 r2 r3 on else up and or not";
        String factors = " why clock wind queue speed height aboard glow volume wear r0 r1 r2 r3 ";
        String measures = " queue speed height aboard glow volume wear ";
        String told = "staff s 1;flag f;" + ARCH + "{";
        for (String word : all.split(" ")) {
            Check.faults(2, "staff @" + word + " 1;");
            Check.faults(2, "flag @" + word + ";");
            Check.faults(2, "ride @" + word + " arch 1{}");
            for (String step : new String[] {"claim", "free", "raise", "lower", "until up"}) {
                Check.faults(3, told + step + " @" + word + ";}");
            }
            Check.faults(3, "ride l wheel 1 1 1{}ride t tail 1 1 1 @" + word + "{}");
            if (factors.contains(" " + word + " ")) {
                Check.fair(told + "r0=" + word + ";}");
            } else {
                Check.faults(1, told + "r0=@" + word + ";}");
            }
            if (measures.contains(" " + word + " ")) {
                Check.fair(told + "r0=a." + word + ";}");
            } else {
                Check.faults(1, told + "r0=a.@" + word + ";}");
            }
            // With a sign more it is there no more.
            String longer = word + "x";
            Check.fair("ride " + longer + " arch 1{}flag " + word + "9;staff " + word.charAt(0) + word + " 1;");
        }
    }

    /** 3: a NAME that isn't there (above), or not of that sort. */
    private static void namesThatAreNot() {
        String told = "staff s 1;flag f;ride b arch 1{}" + ARCH;
        for (String step : new String[] {"claim", "free"}) {
            Check.fair(told + "{" + step + " s;}");
            Check.faults(3, ARCH + "{" + step + " @s;}staff s 1;");
            for (String name : new String[] {"f", "b", "a", "x", "ss"}) {
                Check.faults(3, told + "{" + step + " @" + name + ";}");
            }
        }
        for (String step : new String[] {"raise", "lower", "until up"}) {
            Check.fair(told + "{" + step + " f;}");
            Check.faults(3, ARCH + "{" + step + " @f;}flag f;");
            for (String name : new String[] {"s", "b", "a", "x", "ff"}) {
                Check.faults(3, told + "{" + step + " @" + name + ";}");
            }
        }
    }

    /** RIDES in an E may be told further below; that are nowhere: 3 at the NAME, told behind all else. */
    private static void ridesFurtherBelow() {
        String twelve = "";
        for (int i = 0; i < 12; i++) {
            twelve += "ride x" + i + " arch 1{r0=x" + (11 - i) + ".glow+x0.glow+x11.glow;}";
        }
        Check.fair(twelve);
        Check.faults(3, ARCH + "{r0=@b.glow;}");
        Check.faults(3, ARCH + "{r0=@b.glow;}staff b 1;");
        Check.faults(3, ARCH + "{r0=@b.glow;}flag b;");
        Check.fair(ARCH + "{r0=b.glow;}staff c 1;flag d;ride b arch 1{}");
        // The first of them, in each place of an E and a C.
        for (String e : new String[] {"@b.glow+c.glow", "a.glow+@b.glow", "-(1*@b.glow)", "(a.glow)/@b.glow"}) {
            Check.faults(3, ARCH + "{r0=" + e + ";r1=d.glow;}");
            Check.faults(3, ARCH + "{until 1<2 and 1<" + e + ";}ride e arch 1{r0=d.glow;}");
            Check.faults(3, ARCH + "{repeat " + e + "{r0=d.glow;}}");
        }
        // Behind all else.
        String ahead = ARCH + "{r0=b.glow;";
        Check.faults(1, ahead + "@");
        Check.faults(1, ahead + "}@x");
        Check.faults(2, ahead + "}flag @a;");
        Check.faults(3, ahead + "claim @c;}");
        Check.faults(4, "power 1;" + ahead + "}@power 1;");
        Check.faults(5, ahead + "@leave;}");
        Check.faults(5, ahead + "}ride c arch @501{}");
    }

    /** Another WORD in an E is a NAME: 3 at once if it is staff or a flag, told above; without a . 1 at what stands there. */
    private static void staffAndFlagsInAnE() {
        for (String told : new String[] {"staff n 1;", "flag n;"}) {
            for (String behind : new String[] {".glow;}", ";}", "", ".", ".spin", " 1"}) {
                Check.faults(3, told + ARCH + "{r0=@n" + behind);
                Check.faults(3, told + ARCH + "{until 1<@n" + behind);
            }
            // Told below it is a NAME of a RIDE that is nowhere: behind all else.
            Check.faults(3, ARCH + "{r0=@n.glow;}" + told);
            Check.faults(1, ARCH + "{r0=n@;}" + told);
            Check.faults(1, ARCH + "{r0=n.glow;}" + told + "@x");
        }
        for (String name : new String[] {"a", "b", "x"}) {
            Check.faults(1, ARCH + "{r0=" + name + "@;}ride b arch 1{}");
            Check.faults(1, ARCH + "{r0=" + name + " @glow;}ride b arch 1{}");
            Check.faults(1, ARCH + "{r0=" + name + ".@;}ride b arch 1{}");
            Check.faults(1, ARCH + "{r0=" + name + ".@1;}ride b arch 1{}");
            Check.faults(1, ARCH + "{r0=" + name + ".@.glow;}ride b arch 1{}");
            Check.faults(1, ARCH + "{r0=" + name + "@");
            Check.faults(1, ARCH + "{r0=" + name + ".@");
        }
    }

    /** A STEP of a RIDE without that ABILITY (spin of a tail), at the STEP. */
    private static void abilitiesOfSteps() {
        String[] steps = {"spin", "lift", "glow", "sound", "load", "unload"};
        String[] able = {"wheel swing organ star", "tower swing comet star", "arch comet ghost star", "organ comet ghost star",
            "wheel tower swing ghost star tail", "wheel tower swing ghost star tail"};
        for (String kind : KINDS) {
            String name = kind.substring(0, kind.indexOf(' '));
            String head = "ride l wheel 1 1 1{}ride a " + kind + "{";
            for (int i = 0; i < steps.length; i++) {
                String e = i == 5 ? ";" : " 1;";
                if (able[i].contains(name)) {
                    Check.fair(head + steps[i] + e + "}");
                } else {
                    Check.faults(5, head + "@" + steps[i] + e + "}");
                    // At the STEP: what stands behind it is not looked at.
                    Check.faults(5, head + "@" + steps[i]);
                    Check.faults(5, head + "wait 1;loop{@" + steps[i] + " x");
                }
            }
            Check.fair(head + "mend 1;wait 1;r0=speed+height+aboard+glow+volume+wear+queue;}");
        }
    }

    /** Leave outside of a repeat or loop. */
    private static void leaveInATurn() {
        for (String turn : new String[] {"loop{", "repeat 1{"}) {
            Check.fair(ARCH + "{" + turn + "leave;}}");
            Check.fair(ARCH + "{" + turn + "if 1<2{leave;}else{guard{leave;}on{leave;}}leave;}}");
            Check.fair(ARCH + "{" + turn + Check.repeat("if 1<2{", 8) + "leave;" + Check.repeat("}", 8) + "}}");
            Check.faults(5, ARCH + "{" + turn + "}@leave;}");
            Check.faults(5, ARCH + "{" + turn + "}}ride b arch 1{@leave;}");
            Check.faults(5, ARCH + "{@leave;" + turn + "}}");
        }
        Check.faults(5, ARCH + "{" + Check.repeat("if 1<2{", 9) + "@leave;" + Check.repeat("}", 9) + "}");
        Check.faults(5, ARCH + "{guard{@leave;}on{}}");
        Check.faults(5, ARCH + "{guard{}on{@leave;}}");
        Check.faults(5, ARCH + "{@leave");
    }

    /** Of several at one word 1 is ahead of 4, 4 of 2, 2 of 3, 3 of 5. */
    private static void severalAtOneWord() {
        // 1 ahead of 4.
        for (String word : new String[] {"x", "why", "1", ";", "abcdefghi", "else", "on"}) {
            Check.faults(1, ARCH + "{" + steps(150) + "@" + word);
        }
        Check.faults(1, ARCH + "{r0=" + Check.repeat("(", 12) + "@abcdefghi");
        Check.faults(1, ARCH + "{" + Check.repeat("loop{", 9) + "loop @12345");
        Check.faults(1, many("ride x", 12, " arch 1{}") + "@rides y arch 1{}");
        Check.faults(1, "power 1;@power1 2;" + ARCH + "{}");
        // 1 ahead of 2 and 3: a WORD of nine whose first eight are a NAME.
        Check.faults(1, "staff abcdefgh 1;flag @abcdefghi;" + ARCH + "{}");
        // 4 ahead of 5.
        for (String step : new String[] {"spin 1;", "lift 1;", "sound 1;", "load 1;", "unload;", "leave;"}) {
            Check.faults(4, ARCH + "{" + steps(150) + "@" + step + "}");
            Check.faults(5, ARCH + "{" + steps(149) + "@" + step + "}");
        }
        // The first that is met, though the one behind has a smaller number.
        Check.faults(5, ARCH + "{@leave");
        Check.faults(5, "ride a arch @0;");
        Check.faults(2, "ride @spin spin");
        Check.faults(3, ARCH + "{claim @s s");
    }

    /** As much as 4,000 bytes hold: of each sort of what has no other limit. */
    private static void longest() {
        String plus = ARCH + "{r0=";
        String sum = plus + Check.repeat("1+", (4000 - plus.length() - 3) / 2) + "1;}";
        FairHouse house = Check.fair(sum);
        house.tick(1);
        Check.due("the sum", house.script(0, 4), (4000 - plus.length() - 3) / 2 + 1);
        FairHouse products = Check.fair(plus + Check.repeat("1*", (4000 - plus.length() - 3) / 2) + "7;}");
        products.tick(1);
        Check.due("the product", products.script(0, 4), 7);
        FairHouse pairs = Check.fair(plus + Check.repeat("(1)-", (4000 - plus.length() - 3) / 4) + "1;}");
        pairs.tick(1);
        Check.due("the difference", pairs.script(0, 4), 1 - (4000 - plus.length() - 3) / 4);
        String until = ARCH + "{until ";
        for (String joint : new String[] {"and ", "or "}) {
            int ones = (4000 - until.length() - 5) / (3 + joint.length());
            FairHouse conditions = Check.fair(until + Check.repeat("1<2" + joint, ones) + "1<2;}");
            conditions.tick(1);
            Check.due("it is true", conditions.script(0, 0), 1);
        }
        String head = "flag f;" + until;
        FairHouse flags = Check.fair(head + Check.repeat("up f or ", (4000 - head.length() - 8) / 8) + "1<2;}");
        flags.tick(1);
        Check.due("the last decides", flags.script(0, 0), 1);
    }
}
