import java.util.ArrayList;
import java.util.Arrays;
import java.util.HashMap;
import java.util.HashSet;
import java.util.List;
import java.util.Map;
import java.util.Set;

/**
 * The document once more, with the same face as the class, for SecondModelTest. It is plain and slow, and made otherwise:
 * the text is read word by word into formulas and lists of STEPS, a FAULT or a STALL is thrown, and where a SCRIPT stands
 * is a pile of BLOCKS, the outermost first.
 */
public final class Model {
    private static final String[] KINDS = {"wheel", "tower", "swing", "organ", "arch", "comet", "ghost", "star", "tail"};
    private static final String[] ABILITIES = {"turns seats", "lifts seats", "turns lifts seats", "turns sounds", "lamps",
        "lifts lamps sounds", "seats lamps sounds", "turns lifts seats lamps sounds", "turns seats hitched"};
    private static final Set<String> MEASURES = words("speed height aboard glow volume wear");
    private static final Set<String> THERE = words("power staff flag ride spin lift glow sound load unload mend wait until"
            + " claim free raise lower repeat loop if guard leave stop wheel tower swing organ arch comet ghost star tail why"
            + " clock wind queue speed height aboard glow volume wear r0 r1 r2 r3 on else up and or not");

    private final StringBuilder tape = new StringBuilder();
    private Reader fair;
    private int latestFault;
    private int latestPlace = -1;
    private int clock;
    private int wind;
    private int served;
    private int gone;
    private int waited;
    private final Map<String, Integer> free = new HashMap<>();
    private final Set<String> raised = new HashSet<>();
    private final List<int[]> log = new ArrayList<>();

    private static Set<String> words(String all) {
        return new HashSet<>(Arrays.asList(all.split(" ")));
    }

    private static final class Fault extends RuntimeException {
        private static final long serialVersionUID = 1L;
        final int number;
        final int place;

        Fault(int number, int place) {
            this.number = number;
            this.place = place;
        }
    }

    private static final class Stall extends RuntimeException {
        private static final long serialVersionUID = 1L;
        final int number;

        Stall(int number) {
            this.number = number;
        }
    }

    private interface Formula {
        int of(Ride ride);
    }

    private static final class Step {
        String word;
        int place;
        Formula formula;
        String name;
        List<Step> first;
        List<Step> second;
    }

    /** A BLOCK in which a SCRIPT is: its STEP (null: the RIDE), and which of its STEPS is next (all: a further turn). */
    private static final class Inside {
        final Step of;
        final List<Step> steps;
        int next;
        int turns;

        Inside(Step of, List<Step> steps) {
            this.of = of;
            this.steps = steps;
        }

        boolean turnsAgain() {
            return of != null && (of.word.equals("loop") || of.word.equals("repeat") && turns > 0);
        }
    }

    private static final class Ride {
        int index;
        int kind;
        final Map<String, Integer> numbers = new HashMap<>();
        Ride leader;
        List<Step> steps;
        final Map<String, Integer> measures = new HashMap<>();
        int goal;
        int heightGoal;
        int heightMoved;
        final int[] registers = new int[4];
        final List<int[]> queue = new ArrayList<>();
        int state;
        int why;
        int counted;
        final List<Inside> pile = new ArrayList<>();
        int ticksLeft;
        final Map<String, Integer> staff = new HashMap<>();

        boolean has(String ability) {
            return (" " + ABILITIES[kind] + " ").contains(" " + ability + " ");
        }

        boolean is(String name) {
            return KINDS[kind].equals(name);
        }

        int number(String name) {
            return numbers.getOrDefault(name, 0);
        }

        int get(String measure) {
            return measures.getOrDefault(measure, 0);
        }

        int size() {
            return Math.abs(get("speed"));
        }

        int queued() {
            int all = 0;
            for (int[] group : queue) {
                all += group[0];
            }
            return all;
        }

        int draw() {
            int turns = has("turns") ? Math.abs(get("speed") * number("mass") / 100) : 0;
            int lifts = has("lifts") && heightMoved > 0 ? number("load") : 0;
            int lamps = has("lamps") ? get("glow") * number("watts") / 100 : 0;
            int sounds = has("sounds") ? get("volume") / 2 : 0;
            if (is("swing")) {
                return turns > lifts ? turns : lifts;
            }
            if (is("star")) {
                return turns + lifts + (lamps > sounds ? lamps : sounds);
            }
            return is("tail") ? turns / 2 : turns + lifts + lamps + sounds;
        }

        int noise() {
            if (is("organ")) {
                return get("speed") == 0 ? get("volume") : get("volume") + 10;
            }
            if (is("ghost")) {
                return get("volume") / 2;
            }
            if (is("tail")) {
                return 0;
            }
            int most = 0;
            if (has("turns")) {
                most = size() / 2;
            }
            if (has("lifts") && heightMoved != 0 && most < 5) {
                most = 5;
            }
            return has("sounds") && most < get("volume") ? get("volume") : most;
        }

        int tear() {
            int lifts = has("lifts") && heightMoved != 0 ? 10 : 0;
            return is("comet") ? lifts * 2 : (has("turns") ? size() : 0) + lifts;
        }

        boolean calm() {
            boolean turns = !has("turns") || get("speed") == 0;
            boolean lifts = !has("lifts") || get("height") == 0;
            boolean sounds = !has("sounds") || get("volume") <= 50;
            if (is("organ")) {
                return true;
            }
            if (is("comet")) {
                return lifts;
            }
            if (is("ghost")) {
                return sounds && get("glow") >= 50;
            }
            return turns && lifts && sounds && (!is("star") || get("glow") >= 20);
        }

        int limit() {
            if (is("swing") || is("star")) {
                return is("star") ? 40 : 50;
            }
            if (has("lifts")) {
                return 60;
            }
            return has("turns") ? 80 : 200;
        }

        void ease() {
            int before = get("height");
            if (is("tail")) {
                measures.put("speed", leader.get("speed"));
            } else if (has("turns")) {
                int by = number("accel");
                if (is("star") && before > 0) {
                    by = by / 2 < 1 ? 1 : by / 2;
                }
                for (int i = 0; i < by && get("speed") != goal; i++) {
                    measures.put("speed", get("speed") < goal ? get("speed") + 1 : get("speed") - 1);
                }
            }
            if (has("lifts")) {
                boolean up = before < heightGoal;
                int by = !up && is("comet") ? number("pace") * 2 : number("pace");
                boolean held = is("swing") && !up && size() > 30;
                for (int i = 0; i < by && !held && get("height") != heightGoal; i++) {
                    measures.put("height", get("height") + (up ? 1 : -1));
                }
            }
            heightMoved = get("height") - before;
            if (is("organ") && get("volume") > size()) {
                measures.put("volume", size());
            }
        }
    }

    /** Reads the TEXT word by word. What it has read is the fair. */
    private final class Reader {
        final String text;
        int behind;
        String word;
        char sort;
        int place;
        int power = 9999;
        boolean powerTold;
        final List<String> staff = new ArrayList<>();
        final List<Integer> staffNumbers = new ArrayList<>();
        final List<String> flags = new ArrayList<>();
        final List<String> rideNames = new ArrayList<>();
        final List<Ride> rides = new ArrayList<>();
        final List<String> asked = new ArrayList<>();
        final List<Integer> askedAt = new ArrayList<>();
        int steps;

        Reader(String text) {
            this.text = text;
            next();
        }

        Fault fault(int number) {
            return new Fault(number, place);
        }

        char at(int i) {
            return i < text.length() ? text.charAt(i) : 0;
        }

        boolean small(char sign) {
            return sign >= 'a' && sign <= 'z';
        }

        boolean digit(char sign) {
            return sign >= '0' && sign <= '9';
        }

        /** The next one: w a WORD, n a NUMBER, s a SIGN, e the end, x what is none. */
        void next() {
            while (at(behind) == ' ' || at(behind) == '\n') {
                behind++;
            }
            place = behind;
            if (place == text.length()) {
                word = "";
                sort = 'e';
            } else if (small(at(place))) {
                while (small(at(behind)) || digit(at(behind))) {
                    behind++;
                }
                sort = behind - place <= 8 ? 'w' : 'x';
            } else if (digit(at(place))) {
                while (digit(at(behind))) {
                    behind++;
                }
                sort = behind - place <= 4 ? 'n' : 'x';
            } else {
                boolean two = at(place + 1) == '=' && "<>=!".indexOf(at(place)) >= 0;
                behind += two ? 2 : 1;
                sort = two || "{}();.+-*/=<>".indexOf(at(place)) >= 0 && at(place) > 0 ? 's' : 'x';
            }
            word = text.substring(place, behind);
        }

        boolean here(String what) {
            return sort != 'x' && word.equals(what);
        }

        void must(String what) {
            if (!here(what)) {
                throw fault(1);
            }
            next();
        }

        int number(int most) {
            if (sort != 'n') {
                throw fault(1);
            }
            int value = Integer.parseInt(word);
            if (value < 1 || value > most) {
                throw fault(5);
            }
            next();
            return value;
        }

        String newName() {
            if (sort != 'w') {
                throw fault(1);
            }
            if (THERE.contains(word) || staff.contains(word) || flags.contains(word) || rideNames.contains(word)) {
                throw fault(2);
            }
            String name = word;
            next();
            return name;
        }

        String nameOf(List<String> of) {
            if (sort != 'w') {
                throw fault(1);
            }
            if (!of.contains(word)) {
                throw fault(3);
            }
            String name = word;
            next();
            return name;
        }

        void fair() {
            while (sort != 'e') {
                if (here("power")) {
                    if (powerTold) {
                        throw fault(4);
                    }
                    powerTold = true;
                    next();
                    power = number(9999);
                    must(";");
                } else if (here("staff")) {
                    if (staff.size() == 6) {
                        throw fault(4);
                    }
                    next();
                    staff.add(newName());
                    staffNumbers.add(number(9));
                    must(";");
                } else if (here("flag")) {
                    if (flags.size() == 8) {
                        throw fault(4);
                    }
                    next();
                    flags.add(newName());
                    must(";");
                } else if (here("ride")) {
                    if (rides.size() == 12) {
                        throw fault(4);
                    }
                    next();
                    ride(newName());
                } else {
                    throw fault(1);
                }
            }
            if (rides.isEmpty()) {
                throw fault(1);
            }
            for (int i = 0; i < asked.size(); i++) {
                if (!rideNames.contains(asked.get(i))) {
                    throw new Fault(3, askedAt.get(i));
                }
            }
        }

        void ride(String name) {
            Ride ride = new Ride();
            ride.index = rides.size();
            ride.kind = sort == 'w' ? List.of(KINDS).indexOf(word) : -1;
            if (ride.kind < 0) {
                throw fault(1);
            }
            next();
            if (ride.has("turns")) {
                ride.numbers.put("mass", number(500));
                ride.numbers.put("accel", number(50));
            }
            if (ride.has("lifts")) {
                ride.numbers.put("load", number(500));
                ride.numbers.put("pace", number(200));
            }
            if (ride.has("seats")) {
                ride.numbers.put("places", number(60));
            }
            if (ride.has("lamps")) {
                ride.numbers.put("watts", number(500));
            }
            if (ride.has("hitched")) {
                int leaderAt = place;
                ride.leader = rides.get(rideNames.indexOf(nameOf(rideNames)));
                if (!ride.leader.has("turns") || ride.leader.has("hitched")) {
                    throw new Fault(5, leaderAt);
                }
            }
            rides.add(ride);
            rideNames.add(name);
            steps = 0;
            ride.steps = block(ride, 1, false);
        }

        List<Step> block(Ride ride, int depth, boolean turning) {
            if (here("{") && depth == 11) {
                throw fault(4);
            }
            must("{");
            List<Step> all = new ArrayList<>();
            while (!here("}")) {
                all.add(step(ride, depth, turning));
            }
            next();
            return all;
        }

        void fits(boolean fits) {
            if (!fits) {
                throw fault(5);
            }
        }

        void counts() {
            steps++;
            if (steps == 151) {
                throw fault(4);
            }
        }

        Step step(Ride ride, int depth, boolean turning) {
            Step step = new Step();
            step.word = sort == 'w' ? word : "";
            step.place = place;
            switch (step.word) {
                case "spin":
                    counts();
                    fits(ride.has("turns") && !ride.has("hitched"));
                    break;
                case "lift":
                    counts();
                    fits(ride.has("lifts"));
                    break;
                case "glow":
                    counts();
                    fits(ride.has("lamps"));
                    break;
                case "sound":
                    counts();
                    fits(ride.has("sounds"));
                    break;
                case "load":
                case "unload":
                    counts();
                    fits(ride.has("seats"));
                    break;
                case "leave":
                    counts();
                    fits(turning);
                    break;
                case "mend":
                case "wait":
                case "until":
                case "claim":
                case "free":
                case "raise":
                case "lower":
                case "repeat":
                case "loop":
                case "if":
                case "guard":
                case "stop":
                case "r0":
                case "r1":
                case "r2":
                case "r3":
                    counts();
                    break;
                default:
                    throw fault(1);
            }
            next();
            switch (step.word) {
                case "spin":
                case "lift":
                case "glow":
                case "sound":
                case "load":
                case "mend":
                case "wait":
                    step.formula = sum(0);
                    break;
                case "until":
                    step.formula = condition();
                    break;
                case "claim":
                case "free":
                    step.name = nameOf(staff);
                    break;
                case "raise":
                case "lower":
                    step.name = nameOf(flags);
                    break;
                case "r0":
                case "r1":
                case "r2":
                case "r3":
                    must("=");
                    step.formula = sum(0);
                    break;
                case "repeat":
                    step.formula = sum(0);
                    step.first = block(ride, depth + 1, true);
                    return step;
                case "loop":
                    step.first = block(ride, depth + 1, true);
                    return step;
                case "if":
                    step.formula = condition();
                    step.first = block(ride, depth + 1, turning);
                    step.second = new ArrayList<>();
                    if (here("else")) {
                        next();
                        step.second = block(ride, depth + 1, turning);
                    }
                    return step;
                case "guard":
                    step.first = block(ride, depth + 1, turning);
                    must("on");
                    step.second = block(ride, depth + 1, turning);
                    return step;
                default:
                    break;
            }
            must(";");
            return step;
        }

        Formula condition() {
            List<Formula> ones = new ArrayList<>();
            ones.add(one(0));
            String joint = here("and") || here("or") ? word : "";
            while (!joint.isEmpty() && here(joint)) {
                next();
                ones.add(one(0));
            }
            return ride -> {
                for (Formula one : ones) {
                    boolean holds = one.of(ride) == 1;
                    if (joint.equals("and") && !holds) {
                        return 0;
                    }
                    if (joint.equals("or") && holds) {
                        return 1;
                    }
                    if (joint.isEmpty()) {
                        return holds ? 1 : 0;
                    }
                }
                return joint.equals("and") ? 1 : 0;
            };
        }

        Formula one(int nots) {
            if (here("not")) {
                if (nots == 12) {
                    throw fault(4);
                }
                next();
                Formula other = one(nots + 1);
                return ride -> other.of(ride) == 1 ? 0 : 1;
            }
            if (here("up")) {
                next();
                String flag = nameOf(flags);
                return ride -> raised.contains(flag) ? 1 : 0;
            }
            Formula left = sum(0);
            String sign = sort == 's' ? word : "";
            if (!List.of("<", "<=", ">", ">=", "==", "!=").contains(sign)) {
                throw fault(1);
            }
            next();
            Formula right = sum(0);
            return ride -> {
                int a = left.of(ride);
                int b = right.of(ride);
                boolean holds = sign.equals("<") ? a < b : sign.equals("<=") ? a <= b : sign.equals(">") ? a > b
                        : sign.equals(">=") ? a >= b : sign.equals("==") ? a == b : a != b;
                return holds ? 1 : 0;
            };
        }

        Formula sum(int inside) {
            Formula sum = product(inside);
            while (here("+") || here("-")) {
                Formula left = sum;
                boolean plus = here("+");
                next();
                Formula right = product(inside);
                sum = ride -> {
                    int a = left.of(ride);
                    int b = right.of(ride);
                    return plus ? a + b : a - b;
                };
            }
            return sum;
        }

        Formula product(int inside) {
            Formula product = factor(inside);
            while (here("*") || here("/")) {
                Formula left = product;
                boolean times = here("*");
                next();
                Formula right = factor(inside);
                product = ride -> {
                    int a = left.of(ride);
                    int b = right.of(ride);
                    if (!times && b == 0) {
                        throw new Stall(6);
                    }
                    return times ? a * b : a / b;
                };
            }
            return product;
        }

        Formula factor(int inside) {
            if ((here("-") || here("(")) && inside == 12) {
                throw fault(4);
            }
            if (here("-")) {
                next();
                Formula other = factor(inside + 1);
                return ride -> -other.of(ride);
            }
            if (here("(")) {
                next();
                Formula other = sum(inside + 1);
                must(")");
                return other;
            }
            String what = word;
            int from = place;
            if (sort == 'n') {
                next();
                return ride -> Integer.parseInt(what);
            }
            if (sort != 'w') {
                throw fault(1);
            }
            if (MEASURES.contains(what)) {
                next();
                return ride -> ride.get(what);
            }
            switch (what) {
                case "r0":
                case "r1":
                case "r2":
                case "r3":
                    next();
                    return ride -> ride.registers[what.charAt(1) - '0'];
                case "why":
                    next();
                    return ride -> ride.why;
                case "clock":
                    next();
                    return ride -> clock;
                case "wind":
                    next();
                    return ride -> wind;
                case "queue":
                    next();
                    return Ride::queued;
                default:
                    break;
            }
            if (THERE.contains(what)) {
                throw fault(1);
            }
            if (staff.contains(what) || flags.contains(what)) {
                throw fault(3);
            }
            next();
            must(".");
            String measure = sort == 'w' ? word : "";
            if (!measure.equals("queue") && !MEASURES.contains(measure)) {
                throw fault(1);
            }
            next();
            asked.add(what);
            askedAt.add(from);
            return ride -> {
                Ride other = rides.get(rideNames.indexOf(what));
                return measure.equals("queue") ? other.queued() : other.get(measure);
            };
        }
    }

    // What runs.

    private void note(int code, Ride ride, int number) {
        log.add(new int[] {code, ride.index, number, clock});
    }

    private void begin() {
        clock = 0;
        wind = 0;
        served = 0;
        gone = 0;
        waited = 0;
        raised.clear();
        log.clear();
        for (int i = 0; i < fair.staff.size(); i++) {
            free.put(fair.staff.get(i), fair.staffNumbers.get(i));
        }
        for (Ride ride : fair.rides) {
            ride.measures.clear();
            ride.goal = 0;
            ride.heightGoal = 0;
            ride.heightMoved = 0;
            Arrays.fill(ride.registers, 0);
            ride.queue.clear();
            ride.state = 0;
            ride.why = 0;
            ride.counted = 0;
            ride.pile.clear();
            ride.pile.add(new Inside(null, ride.steps));
            ride.ticksLeft = 0;
            ride.staff.clear();
        }
    }

    private void oneTick() {
        clock++;
        for (Ride ride : fair.rides) {
            int left = 0;
            while (!ride.queue.isEmpty() && clock - ride.queue.get(0)[1] > 60) {
                left += ride.queue.remove(0)[0];
            }
            if (left > 0) {
                gone += left;
                note(4, ride, left);
            }
        }
        for (Ride ride : fair.rides) {
            script(ride);
        }
        for (Ride ride : fair.rides) {
            ride.ease();
        }
        power();
        for (Ride ride : fair.rides) {
            if (wind > ride.limit() && (ride.goal != 0 || ride.heightGoal != 0)) {
                ride.goal = 0;
                ride.heightGoal = 0;
                if (ride.state == 0) {
                    stall(ride, 4);
                }
            }
        }
        for (Ride ride : fair.rides) {
            ride.measures.put("wear", Math.min(9999, ride.get("wear") + ride.tear()));
        }
    }

    private void power() {
        int all = 0;
        for (Ride ride : fair.rides) {
            all += ride.draw();
        }
        for (int i = fair.rides.size() - 1; i >= 0; i--) {
            Ride ride = fair.rides.get(i);
            int draw = ride.draw();
            boolean on = ride.goal != 0 || ride.heightGoal != 0 || ride.get("glow") != 0 || ride.get("volume") != 0;
            if (all > fair.power && draw > 0 && on) {
                all -= draw;
                ride.goal = 0;
                ride.heightGoal = 0;
                ride.measures.remove("glow");
                ride.measures.remove("volume");
                note(3, ride, draw);
                if (ride.state == 0) {
                    stall(ride, 7);
                }
            }
        }
    }

    private Inside top(Ride ride) {
        return ride.pile.get(ride.pile.size() - 1);
    }

    private void drop(Ride ride) {
        ride.pile.remove(ride.pile.size() - 1);
    }

    /** BLOCKS that end here are left, but for one that has a further turn. */
    private void leaveEnded(Ride ride) {
        while (ride.state == 0 && top(ride).next == top(ride).steps.size() && !top(ride).turnsAgain()) {
            if (ride.pile.size() == 1) {
                over(ride);
            } else {
                drop(ride);
                top(ride).next++;
            }
        }
    }

    private void over(Ride ride) {
        ride.state = 1;
        note(6, ride, clock);
    }

    private void done(Ride ride) {
        top(ride).next++;
        leaveEnded(ride);
    }

    private void stall(Ride ride, int number) {
        ride.goal = 0;
        ride.heightGoal = 0;
        ride.ticksLeft = 0;
        for (int i = ride.pile.size() - 1; i > 0; i--) {
            Inside inside = ride.pile.get(i);
            if (inside.of.word.equals("guard") && inside.steps == inside.of.first) {
                while (ride.pile.size() > i) {
                    drop(ride);
                }
                ride.pile.add(new Inside(inside.of, inside.of.second));
                ride.why = number;
                note(1, ride, number);
                leaveEnded(ride);
                return;
            }
        }
        ride.state = 2;
        for (Map.Entry<String, Integer> has : ride.staff.entrySet()) {
            free.merge(has.getKey(), has.getValue(), Integer::sum);
        }
        ride.staff.clear();
        note(2, ride, number);
    }

    private void script(Ride ride) {
        leaveEnded(ride);
        boolean waits = false;
        for (int counted = 0; counted < 40 && ride.state == 0 && !waits; counted++) {
            ride.counted++;
            try {
                waits = step(ride);
            } catch (Stall stall) {
                stall(ride, stall.number);
            }
        }
    }

    private void calm(Ride ride) {
        if (!ride.calm()) {
            throw new Stall(1);
        }
    }

    private void into(Ride ride, Step step, List<Step> block, int turnsBehind) {
        Inside inside = new Inside(step, block);
        inside.turns = turnsBehind;
        ride.pile.add(inside);
        leaveEnded(ride);
    }

    private static int within(int value, int least, int most) {
        if (value < least || value > most) {
            throw new Stall(2);
        }
        return value;
    }

    private static void worn(Ride ride, int goal) {
        if (goal != 0 && ride.get("wear") > 1000) {
            throw new Stall(5);
        }
    }

    /** Begins a STEP, looks at it again, or makes a further turn: whether it WAITS. */
    private boolean step(Ride ride) {
        Inside inside = top(ride);
        if (inside.next == inside.steps.size()) {
            inside.turns--;
            inside.next = 0;
            leaveEnded(ride);
            return false;
        }
        Step step = inside.steps.get(inside.next);
        switch (step.word) {
            case "spin":
                int goal = within(step.formula.of(ride), -100, 100);
                worn(ride, goal);
                ride.goal = goal;
                break;
            case "lift":
                int heightGoal = within(step.formula.of(ride), 0, 1000);
                worn(ride, heightGoal);
                ride.heightGoal = heightGoal;
                break;
            case "glow":
                ride.measures.put("glow", within(step.formula.of(ride), 0, 100));
                break;
            case "sound":
                ride.measures.put("volume", within(step.formula.of(ride), 0, 100));
                break;
            case "load":
            case "mend":
            case "wait":
                return takesTicks(ride, step);
            case "unload":
                calm(ride);
                if (ride.get("aboard") > 0) {
                    served += ride.get("aboard");
                    note(5, ride, ride.get("aboard"));
                    ride.measures.put("aboard", 0);
                }
                break;
            case "until":
                if (step.formula.of(ride) == 0) {
                    return true;
                }
                break;
            case "claim":
                if (ride.staff.getOrDefault(step.name, 0) == 2) {
                    throw new Stall(3);
                }
                if (free.get(step.name) == 0) {
                    return true;
                }
                free.merge(step.name, -1, Integer::sum);
                ride.staff.merge(step.name, 1, Integer::sum);
                break;
            case "free":
                if (ride.staff.getOrDefault(step.name, 0) == 0) {
                    throw new Stall(3);
                }
                free.merge(step.name, 1, Integer::sum);
                ride.staff.merge(step.name, -1, Integer::sum);
                break;
            case "raise":
                raised.add(step.name);
                break;
            case "lower":
                raised.remove(step.name);
                break;
            case "repeat":
                int turns = step.formula.of(ride);
                if (turns >= 1) {
                    into(ride, step, step.first, turns - 1);
                    return false;
                }
                break;
            case "loop":
            case "guard":
                into(ride, step, step.first, 0);
                return false;
            case "if":
                into(ride, step, step.formula.of(ride) == 1 ? step.first : step.second, 0);
                return false;
            case "leave":
                while (top(ride).of == null || !top(ride).of.word.equals("loop") && !top(ride).of.word.equals("repeat")) {
                    drop(ride);
                }
                drop(ride);
                break;
            case "stop":
                over(ride);
                return false;
            default:
                ride.registers[step.word.charAt(1) - '0'] = step.formula.of(ride);
        }
        done(ride);
        return false;
    }

    private boolean takesTicks(Ride ride, Step step) {
        if (ride.ticksLeft == 0) {
            int ticks = step.formula.of(ride);
            if (ticks < 1) {
                done(ride);
                return false;
            }
            ride.ticksLeft = ticks;
        }
        if (!step.word.equals("wait")) {
            calm(ride);
        }
        if (step.word.equals("mend")) {
            ride.measures.put("wear", Math.max(0, ride.get("wear") - 50));
        }
        for (int i = 0; i < 5 && step.word.equals("load") && !ride.queue.isEmpty(); i++) {
            if (ride.get("aboard") < ride.number("places")) {
                int[] group = ride.queue.get(0);
                ride.measures.merge("aboard", 1, Integer::sum);
                waited += clock - group[1];
                group[0]--;
                if (group[0] == 0) {
                    ride.queue.remove(0);
                }
            }
        }
        ride.ticksLeft--;
        if (ride.ticksLeft == 0) {
            done(ride);
        }
        return true;
    }

    // The face.

    public int feed(int a, int b, int c, int d, int e) {
        if (tape.length() > 3980) {
            return -1;
        }
        for (int number : new int[] {a, b, c, d, e}) {
            tape.append((char) (number >>> 24)).append((char) (number >>> 16 & 255));
            tape.append((char) (number >>> 8 & 255)).append((char) (number & 255));
        }
        return tape.length();
    }

    public int read(int n) {
        if (n < 0 || n > tape.length()) {
            throw new IllegalArgumentException();
        }
        String text = tape.substring(0, n);
        tape.setLength(0);
        fair = null;
        latestFault = 0;
        latestPlace = -1;
        Reader reader = new Reader(text);
        try {
            reader.fair();
            fair = reader;
            begin();
        } catch (Fault fault) {
            latestFault = fault.number;
            latestPlace = fault.place;
        }
        return latestFault;
    }

    public int fault(int what) {
        index(what, 2);
        return what == 0 ? latestFault : latestPlace;
    }

    public int count(int what) {
        index(what, 5);
        if (what == 4) {
            return tape.length();
        }
        return fair == null ? 0 : new int[] {fair.rides.size(), fair.staff.size(), fair.flags.size(), fair.power}[what];
    }

    private static void index(int i, int most) {
        if (i < 0 || i >= most) {
            throw new IndexOutOfBoundsException();
        }
    }

    private void need() {
        if (fair == null) {
            throw new IllegalStateException();
        }
    }

    private Ride ride(int ride) {
        need();
        index(ride, fair.rides.size());
        return fair.rides.get(ride);
    }

    public void open() {
        need();
        begin();
    }

    public int come(int ride, int riders) {
        Ride to = ride(ride);
        if (riders < 1 || riders > 100 || !to.has("seats")) {
            throw new IllegalArgumentException();
        }
        if (to.queue.size() == 30) {
            return -1;
        }
        to.queue.add(new int[] {riders, clock});
        return to.queued();
    }

    public int wind(int force) {
        need();
        if (force < 0 || force > 199) {
            throw new IllegalArgumentException();
        }
        int was = wind;
        wind = force;
        return was;
    }

    public int tick(int n) {
        need();
        if (n < 1 || n > 100) {
            throw new IllegalArgumentException();
        }
        int was = log.size();
        for (int i = 0; i < n; i++) {
            oneTick();
        }
        return log.size() - was;
    }

    public int measure(int ride, int what) {
        Ride of = ride(ride);
        index(what, 11);
        return new int[] {of.kind, of.get("speed"), of.goal, of.get("height"), of.heightGoal, of.get("aboard"), of.get("glow"),
            of.get("volume"), of.get("wear"), of.queued(), of.number("places")}[what];
    }

    public int says(int ride, int what) {
        Ride of = ride(ride);
        index(what, 5);
        return new int[] {of.draw(), of.noise(), of.tear(), of.calm() ? 1 : 0, of.limit()}[what];
    }

    public int script(int ride, int what) {
        Ride of = ride(ride);
        index(what, 8);
        if (what != 2) {
            return what > 3 ? of.registers[what - 4] : new int[] {of.state, of.why, 0, of.counted}[what];
        }
        if (of.state != 0 || of.steps.isEmpty()) {
            return -1;
        }
        Inside inside = top(of);
        return inside.next < inside.steps.size() ? inside.steps.get(inside.next).place : inside.of.place;
    }

    public int free(int staff) {
        need();
        index(staff, fair.staff.size());
        return free.get(fair.staff.get(staff));
    }

    public boolean isUp(int flag) {
        need();
        index(flag, fair.flags.size());
        return raised.contains(fair.flags.get(flag));
    }

    public boolean set(int flag, boolean up) {
        need();
        index(flag, fair.flags.size());
        return up ? raised.add(fair.flags.get(flag)) : raised.remove(fair.flags.get(flag));
    }

    public int total(int what) {
        need();
        index(what, 8);
        int draws = 0;
        int noise = 0;
        for (Ride ride : fair.rides) {
            draws += ride.draw();
            noise = Math.max(noise, ride.noise());
        }
        return new int[] {clock, served, gone, waited, log.size(), draws, noise, wind}[what];
    }

    public int log(int i, int what) {
        need();
        index(i, Math.min(400, log.size()));
        index(what, 4);
        return log.get(i)[what];
    }
}
