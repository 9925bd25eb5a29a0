import java.lang.reflect.InvocationTargetException;
import java.lang.reflect.Method;
import java.util.ArrayList;
import java.util.HashMap;
import java.util.List;
import java.util.Map;
import java.util.Random;

/**
 * The class beside Model: made-up fairs and spoilt texts, the same calls to both, and the same answers. The numbers are
 * made from seeds, so each run of this test is the same; with two arguments it makes so many runs from a seed on.
 */
public final class SecondModelTest {
    // An object is used for at most 512 calls.
    private static final int CALLS = 512;
    private static final Map<String, Method[]> FACE = new HashMap<>();
    private static final String[] RIDES = {"wheel", "tower", "swing", "organ", "arch", "comet", "ghost", "star", "tail"};
    private static final String[] ABLE = {"TE", "LE", "TLE", "TO", "A", "LAO", "EAO", "TLEAO", "E"};
    private static final String[] WORDS = ("power staff flag ride wheel tower swing organ arch comet ghost star tail spin"
            + " lift glow sound load unload mend wait until claim free raise lower r0 r1 r2 r3 r4 repeat loop if else guard on"
            + " leave stop why clock wind queue speed height aboard volume wear and or not up x0 x1 x9 s0 s1 s5 f0 f1 f7 own"
            + " { } ( ) ; . + - * / = < <= > >= == != ! 0 1 2 9 10 60 61 100 200 201 500 501 9999 10000 abcdefgh abcdefghi A \t")
            .split(" ");

    private final Random random;
    private final FairHouse house = new FairHouse();
    private final Model model = new Model();
    private final StringBuilder done = new StringBuilder();
    private int calls;
    private boolean same = true;
    private int rides;
    private int staff;
    private int flags;
    private int budget;

    private SecondModelTest(long seed) {
        random = new Random(seed);
        done.append("seed ").append(seed).append(':');
    }

    public static void main(String[] args) {
        for (Method method : Model.class.getDeclaredMethods()) {
            if (java.lang.reflect.Modifier.isPublic(method.getModifiers())) {
                try {
                    Method of = FairHouse.class.getMethod(method.getName(), method.getParameterTypes());
                    FACE.put(method.getName(), new Method[] {of, method});
                } catch (NoSuchMethodException e) {
                    throw new IllegalStateException(e);
                }
            }
        }
        int runs = args.length == 2 ? Integer.parseInt(args[0]) : 800;
        long first = args.length == 2 ? Long.parseLong(args[1]) : 1;
        Check.due("calls of the face", FACE.size(), 16);
        for (long seed = first; seed < first + runs; seed++) {
            new SecondModelTest(seed).run((int) (seed % 5));
        }
        Check.end();
    }

    private void run(int sort) {
        if (sort == 0) {
            // Many texts, most of them spoilt.
            while (same && calls < CALLS - 250) {
                give(next(6) == 0 ? limits() : spoilt(fair(3, 4)));
                ask(3);
            }
            return;
        }
        give(fair(1 + next(sort == 1 ? 12 : 4), sort == 2 ? 12 : 5));
        if (sort == 3) {
            call("wind", 30 + next(100));
        }
        while (same && calls < CALLS - 4) {
            if (next(3) > 0) {
                call("tick", next(12) == 0 ? 1 + next(100) : 1 + next(next(2) == 0 ? 1 : 9));
            }
            if (next(sort == 4 ? 40 : 400) == 0) {
                call("open");
            }
            if (next(100) == 0) {
                // As many GROUPS as a queue can have, and some more.
                int ride = next(rides);
                for (int i = 0; i < 33; i++) {
                    call("come", ride, 1 + next(4));
                }
            }
            ask(1);
        }
    }

    private int next(int below) {
        return random.nextInt(below);
    }

    private String pick(String... of) {
        return of[next(of.length)];
    }

    // The calls.

    private static String answer(Object on, Method method, Object[] arguments) {
        try {
            return String.valueOf(method.invoke(on, arguments));
        } catch (InvocationTargetException e) {
            return "throws " + e.getCause().getClass().getName();
        } catch (IllegalAccessException e) {
            throw new IllegalStateException(e);
        }
    }

    private void call(String name, Object... arguments) {
        if (!same || calls >= CALLS) {
            return;
        }
        calls++;
        Method[] both = FACE.get(name);
        String got = answer(house, both[0], arguments);
        String due = answer(model, both[1], arguments);
        done.append(name.equals("feed") ? "" : "\n  " + name + java.util.Arrays.toString(arguments) + " " + due);
        same = got.equals(due);
        Check.due(same ? name : done.toString(), got, due);
    }

    private void give(String text) {
        done.append("\n").append(text);
        for (int from = 0; from < text.length(); from += 20) {
            Integer[] five = new Integer[5];
            for (int i = 0; i < 5; i++) {
                five[i] = 0;
                for (int k = 0; k < 4; k++) {
                    int at = from + i * 4 + k;
                    five[i] = five[i] << 8 | (at < text.length() ? text.charAt(at) & 255 : 32);
                }
            }
            call("feed", (Object[]) five);
        }
        call("read", next(30) == 0 ? next(text.length() + 30) - 3 : Math.min(4000, text.length()));
        call("fault", 0);
        call("fault", 1);
    }

    private int wild(int most) {
        return next(25) == 0 ? next(2) == 0 ? -1 : most + next(3) : next(most + 1);
    }

    private void ask(int times) {
        for (int i = 0; i < times; i++) {
            switch (next(16)) {
                case 0:
                    call("count", wild(4));
                    break;
                case 1:
                    call("come", wild(11) % (rides + 1), wild(100));
                    break;
                case 2:
                    call("come", next(rides + 1), 1 + next(12));
                    break;
                case 3:
                    call("wind", next(5) == 0 ? wild(199) : next(4) == 0 ? 30 + next(60) : 0);
                    break;
                case 4:
                case 5:
                case 6:
                    call("measure", wild(rides), wild(10));
                    break;
                case 7:
                case 8:
                    call("says", wild(rides), wild(4));
                    break;
                case 9:
                case 10:
                    call("script", wild(rides), wild(7));
                    break;
                case 11:
                    call("free", wild(staff));
                    break;
                case 12:
                    call("isUp", wild(flags));
                    break;
                case 13:
                    call("set", wild(flags), next(2) == 0);
                    break;
                case 14:
                    call("total", wild(7));
                    break;
                default:
                    call("log", wild(next(2) == 0 ? 20 : 420), wild(3));
            }
        }
    }

    // Fairs that have no FAULT, for the most part.

    private String fair(int number, int steps) {
        rides = number;
        staff = next(4);
        flags = 1 + next(3);
        budget = 3000 / number;
        StringBuilder text = new StringBuilder(next(2) == 0 ? "" : "power " + (1 + next(next(2) == 0 ? 60 : 900)) + ";");
        for (int i = 0; i < staff; i++) {
            text.append("staff s").append(i).append(' ').append(1 + next(3)).append(';');
        }
        for (int i = 0; i < flags; i++) {
            text.append("flag f").append(i).append(";\n");
        }
        List<String> leaders = new ArrayList<>();
        for (int i = 0; i < number; i++) {
            int kind = next(leaders.isEmpty() ? 8 : 9);
            text.append("ride x").append(i).append(' ').append(RIDES[kind]);
            String able = ABLE[kind];
            int[] most = {500, 50, 500, 200, 60, 500};
            String owners = "TTLLEA";
            for (int k = 0; k < 6; k++) {
                boolean has = able.indexOf(owners.charAt(k)) >= 0 || k < 2 && kind == 8;
                text.append(has ? " " + (1 + next(next(3) == 0 ? most[k] : most[k] / 5)) : "");
            }
            text.append(kind == 8 ? " " + leaders.get(next(leaders.size())) : "");
            if (able.indexOf('T') >= 0) {
                leaders.add("x" + i);
            }
            budget = 3000 / number;
            text.append(whole(able, steps));
        }
        return text.length() > 4000 ? fair(number, Math.max(1, steps / 2)) : text.toString();
    }

    private String whole(String able, int steps) {
        switch (next(9)) {
            case 0:
                return block(able, steps, 1, false);
            case 6:
            case 7:
            case 8:
                return "{loop{guard{" + rounds(able) + "}on{wait " + next(4) + ";" + calm(able) + blockOf(able, next(2), 3, true) + "}}}";
            case 1:
                return "{loop" + block(able, steps, 2, true) + "}";
            case 2:
                return "{loop{guard" + block(able, steps, 3, true) + "on" + block(able, 2, 3, true) + "}}";
            case 3:
                return "{repeat " + formula(1) + "{guard{" + blockOf(able, steps, 3, true) + "wait " + next(5) + ";}on{"
                        + blockOf(able, next(3), 3, true) + "}}" + blockOf(able, next(2), 1, false) + "}";
            case 4:
                return "{guard" + block(able, steps, 2, false) + "on" + block(able, next(3), 2, false) + "}";
            default:
                return "{guard{guard{" + blockOf(able, steps, 3, false) + "wait 20;}on" + block(able, 3, 3, false) + "wait 3;}on"
                        + block(able, next(3), 2, false) + blockOf(able, next(2), 1, false) + "}";
        }
    }

    /** What a RIDE is made for: riders get on, it moves, they get off. */
    private String rounds(String able) {
        boolean seats = able.indexOf('E') >= 0;
        StringBuilder text = new StringBuilder(staff > 0 && next(2) == 0 ? "claim s0;" : "");
        boolean claimed = text.length() > 0;
        text.append(able.indexOf('A') >= 0 ? "glow " + pick("" + next(101), "19", "20", "49", "50") + ";" : "").append(seats ? "load " + (1 + next(4)) + ";" : "");
        text.append(able.indexOf('T') >= 0 ? "spin " + (next(180) - 90) + ";" : "");
        text.append(able.indexOf('O') >= 0 ? "sound " + next(101) + ";" : "").append("wait ").append(1 + next(9)).append(';');
        text.append(able.indexOf('L') >= 0 ? "lift " + next(400) + ";wait " + next(5) + ";" : "").append(blockOf(able, 1, 3, true));
        text.append(calm(able)).append(seats ? "unload;" : "").append(next(3) == 0 ? "if wear>500{mend 5;}" : "");
        return text.append(claimed ? "free s0;" : "").toString();
    }

    private String calm(String able) {
        return (able.indexOf('T') >= 0 ? "spin 0;" : "") + (able.indexOf('L') >= 0 ? "lift 0;" : "") + (able.indexOf('O') >= 0
                ? "sound 30;" : "") + "until speed==0 and height==0;";
    }

    private String block(String able, int most, int depth, boolean turning) {
        return "{" + blockOf(able, most, depth, turning) + "}";
    }

    private String blockOf(String able, int most, int depth, boolean turning) {
        StringBuilder text = new StringBuilder();
        int number = next(most + 1);
        for (int i = 0; i < number && budget > 0; i++) {
            String step = step(able, depth, turning);
            budget -= step.length();
            text.append(step);
        }
        return text.toString();
    }

    private String step(String able, int depth, boolean turning) {
        int sort = next(depth < 6 ? 22 : 15);
        switch (sort) {
            case 0:
            case 1:
                return able.indexOf('T') >= 0 ? "spin " + pick("0", "" + next(104), "-" + next(104), pick("30", "31", "-30", "-31"), formula(0)) + ";" : "wait 2;";
            case 2:
                return able.indexOf('L') >= 0 ? "lift " + pick("0", "" + next(1010), "" + next(90), formula(0)) + ";" : "mend 1;";
            case 3:
                return able.indexOf('A') >= 0 ? "glow " + pick("0", "" + next(103), pick("19", "20", "49", "50"), formula(0)) + ";" : "r0=r0+1;";
            case 4:
                return able.indexOf('O') >= 0 ? "sound " + pick("0", "" + next(103), pick("50", "51"), formula(0)) + ";" : "r1=r1-1;";
            case 5:
                return able.indexOf('E') >= 0 ? "load " + pick("1", "2", "3", formula(0)) + ";" : "mend r1;";
            case 6:
                return able.indexOf('E') >= 0 ? "unload;" : "wait " + formula(0) + ";";
            case 7:
                return pick("wait 1;", "wait 2;", "mend 3;", "mend -1;", "wait " + formula(0) + "/7;", "wait 0;");
            case 8:
                return "r" + next(4) + "=" + formula(0) + ";";
            case 9:
                return "until " + pick(condition(), "clock>" + next(40), "speed==0", "height==0", "up f0", "not up f0") + ";";
            case 10:
            case 11:
                return staff == 0 ? "r2=r2*3+1;" : pick("claim", "claim", "free") + " s" + next(staff) + ";";
            case 12:
                return pick("raise", "lower") + " f" + next(flags) + ";";
            case 13:
                return turning && next(3) > 0 ? "if " + condition() + "{leave;}" : next(8) == 0 ? "stop;" : "wait 1;";
            case 14:
                return turning && next(4) == 0 ? "leave;" : able.indexOf('T') >= 0 ? "spin 0;until speed==0;" : "r3=why;";
            case 15:
            case 16:
                return "if " + condition() + block(able, 3, depth + 1, turning)
                        + (next(2) == 0 ? "" : "else" + block(able, 2, depth + 1, turning));
            case 17:
                return "repeat " + formula(0) + block(able, 3, depth + 1, true);
            case 18:
                return "repeat " + next(5) + block(able, 3, depth + 1, true);
            case 20:
                if (able.startsWith("TL")) {
                    return "lift 90;spin " + pick("30", "31", "-30", "-31") + ";wait 9;lift 0;wait 2;";
                }
                return "guard" + block(able, 3, depth + 1, turning) + "on{}";
            case 19:
                return "loop{" + blockOf(able, 3, depth + 1, true) + pick("leave;", "wait 1;", "", "if " + condition() + "{leave;}") + "}";
            default:
                return "guard" + block(able, 4, depth + 1, turning) + "on" + block(able, next(3), depth + 1, turning);
        }
    }

    private String formula(int depth) {
        switch (next(depth < 3 ? 12 : 6)) {
            case 0:
            case 1:
                return "" + next(next(5) == 0 ? 10000 : 30);
            case 2:
                return "r" + next(4);
            case 3:
                return pick("why", "clock", "wind", "queue", "speed", "height", "aboard", "glow", "volume", "wear");
            case 4:
                return "x" + next(rides) + "." + pick("queue", "speed", "height", "aboard", "glow", "volume", "wear");
            case 5:
                return "-" + formula(depth + 1);
            case 6:
                return "(" + formula(depth + 1) + ")";
            default:
                return formula(depth + 1) + pick("+", "-", "*", "/") + formula(depth + 1);
        }
    }

    private String condition() {
        StringBuilder text = new StringBuilder(one());
        String joint = pick(" and ", " or ");
        while (next(3) == 0) {
            text.append(joint).append(one());
        }
        return text.toString();
    }

    private String one() {
        String nots = pick("", "", "", "not ", "not not ");
        return nots + (next(4) == 0 ? "up f" + next(flags) : formula(1) + pick("<", "<=", ">", ">=", "==", "!=") + formula(1));
    }

    // Texts with FAULTS.

    private String spoilt(String text) {
        StringBuilder spoilt = new StringBuilder(text);
        int times = next(4);
        for (int i = 0; i < times; i++) {
            int at = next(spoilt.length() + 1);
            int most = spoilt.length() - at;
            switch (next(6)) {
                case 0:
                    spoilt.delete(at, at + Math.min(most, 1 + next(5)));
                    break;
                case 1:
                    spoilt.insert(at, (char) next(next(2) == 0 ? 256 : 128));
                    break;
                case 2:
                    spoilt.insert(at, " " + pick(WORDS) + " ");
                    break;
                case 3:
                    spoilt.replace(at, at + Math.min(most, next(9)), pick(WORDS));
                    break;
                case 4:
                    word(spoilt);
                    break;
                default:
                    if (next(6) == 0) {
                        spoilt.setLength(at);
                    } else {
                        word(spoilt);
                    }
            }
        }
        return spoilt.length() > 4000 ? spoilt.substring(0, 4000) : spoilt.toString();
    }

    /** Puts another word in the place of one. */
    private void word(StringBuilder text) {
        int from = next(text.length() + 1);
        while (from < text.length() && !Character.isLetterOrDigit(text.charAt(from))) {
            from++;
        }
        int to = from;
        while (to < text.length() && Character.isLetterOrDigit(text.charAt(to))) {
            to++;
        }
        while (from > 0 && Character.isLetterOrDigit(text.charAt(from - 1))) {
            from--;
        }
        text.replace(from, to, pick(WORDS));
    }

    /** What is too many or too deep, or just not. */
    private String limits() {
        rides = 1;
        staff = 1;
        flags = 1;
        String head = "staff s0 1;flag f0;";
        int near = next(4) - 2;
        switch (next(9)) {
            case 0:
                return Check.repeat("ride y arch 1{}", 1) + many("ride z", " arch 1{}", 12 + near);
            case 1:
                return many("staff z", " 1;", 7 + near) + "ride x0 arch 1{}";
            case 2:
                return many("flag z", ";", 9 + near) + "ride x0 arch 1{}";
            case 3:
                return "ride x0 wheel 1 1 1{" + Check.repeat(pick("stop;", "r0=1;", "if 1==1{}", "lift 1;"), 151 + near)
                        + pick("stop;", "spin 1;", "lift 1;", "else", "leave;", "}") + "}";
            case 4:
                int deep = 10 + near;
                return head + "ride x0 arch 1{" + Check.repeat(pick("loop{", "if up f0{", "repeat 2{"), deep) + pick("", "stop;", "leave;")
                        + Check.repeat("}", deep) + "}";
            case 5:
                int open = next(14);
                return head + "ride x0 arch 1{r0=" + Check.repeat("(", open) + Check.repeat("-", 13 + near - open > 0 ? 13 + near - open : 0)
                        + "1" + Check.repeat(")", open) + pick("", "+-1", "*(2)") + ";}";
            case 6:
                return head + "ride x0 arch 1{until " + Check.repeat("not ", 13 + near) + pick("up f0", "1<2", "up s0", "f0") + ";}";
            case 7:
                return pick("power 1;", "power 0;", "power 9999;", "power 10000;") + pick("", "power 1;") + "ride x0 arch 1{}";
            default:
                return head + "ride x0 arch 1{until " + Check.repeat("1<" + Check.repeat("(", 6), 1) + Check.repeat("-", 6 + near + 1) + "1"
                        + Check.repeat(")", 6) + ";}";
        }
    }

    private String many(String ahead, String behind, int number) {
        StringBuilder text = new StringBuilder();
        for (int i = 0; i < number; i++) {
            text.append(ahead).append(i).append(behind);
        }
        return text.toString();
    }
}
