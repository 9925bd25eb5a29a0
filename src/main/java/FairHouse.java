/**
 * A fairground: rides made of abilities, each with a script that runs by ticks beside the others.
 * The document ../shared/DOC.md tells what every call answers; its terms stand here in capitals.
 */
public final class FairHouse {
    public static final int NONE = -1;

    private static final int TAPE_MOST = 4000;
    private static final int FEED = 20;

    private final byte[] tape;
    private final Fair fair;
    private final FairReader reader;
    private final Runner runner;
    private int tapeBytes;
    private boolean standing;
    private int latestFault;
    private int latestPlace;

    public FairHouse() {
        byte[] bytes = new byte[TAPE_MOST];
        Fair made = new Fair();
        Code code = new Code(made);
        tape = bytes;
        fair = made;
        reader = new FairReader(bytes, made, code);
        runner = new Runner(made, code);
        tapeBytes = 0;
        standing = false;
        latestFault = 0;
        latestPlace = NONE;
    }

    public int feed(int a, int b, int c, int d, int e) {
        if (tapeBytes + FEED > TAPE_MOST) {
            return NONE;
        }
        putFour(a);
        putFour(b);
        putFour(c);
        putFour(d);
        putFour(e);
        return tapeBytes;
    }

    public int read(int n) throws IllegalArgumentException {
        if (n < 0 || n > tapeBytes) {
            throw new IllegalArgumentException("the tape has not so many bytes");
        }
        tapeBytes = 0;
        latestFault = reader.faultOf(n);
        standing = latestFault == 0;
        latestPlace = standing ? NONE : reader.place();
        if (standing) {
            fair.begin();
        }
        return latestFault;
    }

    public int fault(int what) throws IndexOutOfBoundsException {
        switch (what) {
            case 0:
                return latestFault;
            case 1:
                return latestPlace;
            default:
                throw new IndexOutOfBoundsException("no such what");
        }
    }

    public int count(int what) throws IndexOutOfBoundsException {
        switch (what) {
            case 0:
                return standing ? fair.rideCount : 0;
            case 1:
                return standing ? fair.staffCount : 0;
            case 2:
                return standing ? fair.flagCount : 0;
            case 3:
                return standing ? fair.power : 0;
            case 4:
                return tapeBytes;
            default:
                throw new IndexOutOfBoundsException("no such what");
        }
    }

    public void open() throws IllegalStateException {
        needFair();
        fair.begin();
    }

    public int come(int ride, int riders)
            throws IllegalStateException, IndexOutOfBoundsException, IllegalArgumentException {
        Ride asked = rideOf(ride);
        if (riders < 1 || riders > 100 || !asked.has(Ride.SEATS)) {
            throw new IllegalArgumentException("not 1 to 100 riders, or no seats");
        }
        return asked.queue.join(riders, fair.clock);
    }

    public int wind(int force) throws IllegalStateException, IllegalArgumentException {
        needFair();
        if (force < 0 || force > 199) {
            throw new IllegalArgumentException("the wind is 0 to 199");
        }
        int before = fair.wind;
        fair.wind = force;
        return before;
    }

    public int tick(int n) throws IllegalStateException, IllegalArgumentException {
        needFair();
        if (n < 1 || n > 100) {
            throw new IllegalArgumentException("1 to 100 ticks");
        }
        int before = fair.logCount;
        for (int i = 0; i < n; i++) {
            runner.oneTick();
        }
        return fair.logCount - before;
    }

    public int measure(int ride, int what) throws IllegalStateException, IndexOutOfBoundsException {
        Ride asked = rideOf(ride);
        if (what < 0 || what > 10) {
            throw new IndexOutOfBoundsException("no such what");
        }
        return asked.measured(what);
    }

    public int says(int ride, int what) throws IllegalStateException, IndexOutOfBoundsException {
        Ride asked = rideOf(ride);
        switch (what) {
            case 0:
                return asked.draw();
            case 1:
                return asked.noise();
            case 2:
                return asked.tear();
            case 3:
                return asked.isCalm() ? 1 : 0;
            case 4:
                return asked.limit();
            default:
                throw new IndexOutOfBoundsException("no such what");
        }
    }

    public int script(int ride, int what) throws IllegalStateException, IndexOutOfBoundsException {
        Ride asked = rideOf(ride);
        if (what < 0 || what > 7) {
            throw new IndexOutOfBoundsException("no such what");
        }
        return asked.script.told(what);
    }

    public int free(int staff) throws IllegalStateException, IndexOutOfBoundsException {
        needFair();
        if (staff < 0 || staff >= fair.staffCount || staff >= fair.staffFree.length) {
            throw new IndexOutOfBoundsException("no such staff");
        }
        return fair.staffFree[staff];
    }

    public boolean isUp(int flag) throws IllegalStateException, IndexOutOfBoundsException {
        needFlag(flag);
        return fair.flagUp(flag);
    }

    public boolean set(int flag, boolean up) throws IllegalStateException, IndexOutOfBoundsException {
        needFlag(flag);
        boolean before = fair.flagUp(flag);
        fair.putFlag(flag, up);
        return before != up;
    }

    public int total(int what) throws IllegalStateException, IndexOutOfBoundsException {
        needFair();
        switch (what) {
            case 0:
                return fair.clock;
            case 1:
                return fair.served;
            case 2:
                return fair.gone;
            case 3:
                return fair.waited;
            case 4:
                return fair.logCount;
            case 5:
                return fair.allDraws();
            case 6:
                return fair.greatestNoise();
            case 7:
                return fair.wind;
            default:
                throw new IndexOutOfBoundsException("no such what");
        }
    }

    public int log(int i, int what) throws IllegalStateException, IndexOutOfBoundsException {
        needFair();
        if (i < 0 || i >= fair.logCount || i >= Fair.LOG_KEPT || what < 0 || what >= Fair.LOG_ROW) {
            throw new IndexOutOfBoundsException("none such is kept");
        }
        return fair.logged(i, what);
    }

    private void putFour(int bytes) {
        for (int shift = 24; shift >= 0; shift -= 8) {
            if (tapeBytes < tape.length) {
                tape[tapeBytes] = (byte) (bytes >> shift);
                tapeBytes++;
            }
        }
    }

    private void needFair() {
        if (!standing) {
            throw new IllegalStateException("there is no fair");
        }
    }

    private void needFlag(int flag) {
        needFair();
        if (flag < 0 || flag >= fair.flagCount) {
            throw new IndexOutOfBoundsException("no such flag");
        }
    }

    private Ride rideOf(int ride) {
        needFair();
        if (ride < 0 || ride >= fair.rideCount || ride >= fair.rides.length) {
            throw new IndexOutOfBoundsException("no such ride");
        }
        return fair.rides[ride];
    }

    /** The TEXT, split into tokens, with the place where it is read and the first FAULT that was met. */
    private static final class Text {
        static final int END = 0;
        static final int BAD = 1;
        static final int NUMBER = 2;
        // A sign's sort is its own character; one with a '=' behind it has this much more.
        static final int WITH_EQUAL = 128;
        // Words begin here: a NAME is below the words that are there from the start.
        static final int NAME = 300;

        static final int SPIN = 301;
        static final int LIFT = 302;
        static final int SOUND = 303;
        static final int LOAD = 304;
        static final int UNLOAD = 305;
        static final int MEND = 306;
        static final int WAIT = 307;
        static final int UNTIL = 308;
        static final int CLAIM = 309;
        static final int FREE = 310;
        static final int RAISE = 311;
        static final int LOWER = 312;
        static final int REPEAT = 313;
        static final int LOOP = 314;
        static final int IF = 315;
        static final int GUARD = 316;
        static final int LEAVE = 317;
        static final int STOP = 318;
        // Begins a STEP and is a MEASURE, so it stands between those words.
        static final int GLOW = 319;
        static final int R0 = 320;
        static final int R3 = 323;
        static final int WEAR = 332;
        static final int POWER = 333;
        static final int STAFF = 334;
        static final int FLAG = 335;
        static final int RIDE = 336;
        static final int WHEEL = 337;
        static final int TAIL = 345;
        static final int ON = 346;
        static final int ELSE = 347;
        static final int UP = 348;
        static final int AND = 349;
        static final int OR = 350;
        static final int NOT = 351;

        // The words that are there from the start, in the order of their sorts, each with blanks to this width.
        private static final int WIDTH = 7;
        private static final String STEP_WORDS =
                "spin   lift   sound  load   unload mend   wait   until  claim  free   raise  lower  repeat loop   if     guard  leave  stop   glow   ";
        private static final String VALUE_WORDS =
                "r0     r1     r2     r3     why    clock  wind   queue  speed  height aboard volume wear   ";
        private static final String HEAD_WORDS =
                "power  staff  flag   ride   wheel  tower  swing  organ  arch   comet  ghost  star   tail   ";
        private static final String JOINT_WORDS =
                "on     else   up     and    or     not    ";
        private static final String SIGNS = "{}();.+-*/=<>";

        final byte[] bytes;
        final int[] sorts;
        final int[] starts;
        final int[] ends;
        int length;
        int tokens;
        int at;
        int fault;
        int place;

        Text(byte[] tape) {
            bytes = tape;
            sorts = new int[TAPE_MOST + 1];
            starts = new int[TAPE_MOST + 1];
            ends = new int[TAPE_MOST + 1];
        }

        void split(int n) {
            length = Math.min(n, bytes.length);
            tokens = 0;
            at = 0;
            fault = 0;
            place = NONE;
            int from = behindBlanks(0);
            int sort = END;
            for (int i = 0; i < length && from < length && sort != BAD; i++) {
                int behind = behindToken(from);
                sort = sortOf(from, behind);
                keep(sort, from, behind);
                from = behindBlanks(behind);
            }
            if (sort != BAD) {
                keep(END, length, length);
            }
        }

        private void keep(int sort, int from, int behind) {
            if (tokens < sorts.length) {
                sorts[tokens] = sort;
                starts[tokens] = from;
                ends[tokens] = behind;
                tokens++;
            }
        }

        private int byteAt(int i) {
            return i >= 0 && i < length && i < bytes.length ? bytes[i] : 0;
        }

        private int behindBlanks(int from) {
            int i = from;
            while (i < length && (byteAt(i) == ' ' || byteAt(i) == '\n')) {
                i++;
            }
            return i;
        }

        private int behindToken(int from) {
            int first = byteAt(from);
            boolean word = isLetter(first);
            int i = from + 1;
            if (word || isDigit(first)) {
                while (i < length && (isDigit(byteAt(i)) || word && isLetter(byteAt(i)))) {
                    i++;
                }
                return i;
            }
            boolean joins = first == '<' || first == '>' || first == '=' || first == '!';
            return joins && byteAt(i) == '=' ? i + 1 : i;
        }

        private int sortOf(int from, int behind) {
            int first = byteAt(from);
            int size = behind - from;
            if (isLetter(first)) {
                return size > 8 ? BAD : wordSort(from, size);
            }
            if (isDigit(first)) {
                return size > 4 ? BAD : NUMBER;
            }
            if (size == 2) {
                return WITH_EQUAL + first;
            }
            return first > ' ' && SIGNS.indexOf((char) first) >= 0 ? first : BAD;
        }

        private int wordSort(int from, int size) {
            int i = indexIn(STEP_WORDS, from, size);
            if (i != NONE) {
                return SPIN + i;
            }
            i = indexIn(VALUE_WORDS, from, size);
            if (i != NONE) {
                return R0 + i;
            }
            i = indexIn(HEAD_WORDS, from, size);
            if (i != NONE) {
                return POWER + i;
            }
            i = indexIn(JOINT_WORDS, from, size);
            return i != NONE ? ON + i : NAME;
        }

        private int indexIn(String words, int from, int size) {
            if (size >= WIDTH) {
                return NONE;
            }
            for (int word = 0; word + WIDTH <= words.length(); word += WIDTH) {
                int same = 0;
                while (same < size && words.charAt(word + same) == byteAt(from + same)) {
                    same++;
                }
                if (same == size && words.charAt(word + size) == ' ') {
                    return word / WIDTH;
                }
            }
            return NONE;
        }

        private static boolean isLetter(int sign) {
            return sign >= 'a' && sign <= 'z';
        }

        private static boolean isDigit(int sign) {
            return sign >= '0' && sign <= '9';
        }

        int sort() {
            return at >= 0 && at < sorts.length ? sorts[at] : END;
        }

        int start() {
            return at >= 0 && at < starts.length ? starts[at] : length;
        }

        int number() {
            int value = 0;
            int end = at >= 0 && at < ends.length ? ends[at] : 0;
            for (int i = start(); i < end; i++) {
                value = value * 10 + byteAt(i) - '0';
            }
            return value;
        }

        boolean isWord() {
            return sort() >= NAME;
        }

        void advance() {
            if (at + 1 < tokens) {
                at++;
            }
        }

        void expect(int sort) {
            if (sort() == sort) {
                advance();
            } else {
                refuse(1);
            }
        }

        /** The first FAULT is the one that counts; behind it the text looks as if it ended. */
        void refuse(int number) {
            if (fault == 0) {
                fault = number;
                place = at >= 0 && at < starts.length ? starts[at] : length;
                at = TAPE_MOST;
                sorts[TAPE_MOST] = END;
            }
        }

        boolean sameWord(int one, int other) {
            int most = Math.min(tokens, ends.length);
            if (one < 0 || one >= most || other < 0 || other >= most) {
                return false;
            }
            int size = ends[one] - starts[one];
            if (size != ends[other] - starts[other]) {
                return false;
            }
            int same = 0;
            int a = starts[one];
            int b = starts[other];
            while (same < size && a + same < bytes.length && b + same < bytes.length
                    && bytes[a + same] == bytes[b + same]) {
                same++;
            }
            return same == size;
        }
    }

    /** The NAMES that were told so far, each with its sort and its number among those of its sort. */
    private static final class Names {
        static final int STAFF = 0;
        static final int FLAG = 1;
        static final int RIDE = 2;
        private static final int MOST = Fair.RIDES_MOST + Fair.STAFF_MOST + Fair.FLAGS_MOST;

        private final Text text;
        private final int[] tokens;
        private final int[] sorts;
        private final int[] numbers;
        private int count;

        Names(Text text) {
            this.text = text;
            tokens = new int[MOST];
            sorts = new int[MOST];
            numbers = new int[MOST];
            count = 0;
        }

        void forget() {
            count = 0;
        }

        void tell(int token, int sort, int number) {
            if (count < MOST) {
                tokens[count] = token;
                sorts[count] = sort;
                numbers[count] = number;
                count++;
            }
        }

        /** The number of the NAME at a token; NONE if there is none of that sort. */
        int numberOf(int token, int sort) {
            for (int i = 0; i < count && i < MOST; i++) {
                if (sorts[i] == sort && text.sameWord(tokens[i], token)) {
                    return numbers[i];
                }
            }
            return NONE;
        }

        private boolean isThere(int token) {
            return text.sort() != Text.NAME || numberOf(token, STAFF) != NONE
                    || numberOf(token, FLAG) != NONE || numberOf(token, RIDE) != NONE;
        }

        /** Reads a NAME that must not be there yet: its token, or NONE behind a FAULT. */
        int readNew() {
            int token = text.at;
            if (!text.isWord()) {
                text.refuse(1);
                return NONE;
            }
            if (isThere(token)) {
                text.refuse(2);
                return NONE;
            }
            text.advance();
            return token;
        }

        /** Reads a NAME that must be there, of a sort: its number, or NONE behind a FAULT. */
        int readTold(int sort) {
            if (!text.isWord()) {
                text.refuse(1);
                return NONE;
            }
            int number = numberOf(text.at, sort);
            if (number == NONE) {
                text.refuse(3);
                return NONE;
            }
            text.advance();
            return number;
        }
    }

    /** All formulas (E and C) of the fair, one behind the other, operands ahead of their operators. */
    private static final class Code {
        static final int END = 0;
        static final int NUMBER = 1;
        static final int OWN = 2;
        static final int OTHERS = 3;
        static final int IS_UP = 4;
        static final int MINUS = 5;
        static final int NOT = 6;
        static final int AND = 7;
        static final int OR = 8;
        static final int ADD = 9;
        static final int SUBTRACT = 10;
        static final int MULTIPLY = 11;
        static final int DIVIDE = 12;
        static final int LESS = 13;
        static final int LESS_OR_SAME = 14;
        static final int MORE = 15;
        static final int MORE_OR_SAME = 16;
        static final int SAME = 17;
        static final int DIFFERENT = 18;

        // What an operand asks for, in the order of the words of a FACTOR (the registers are 0 to 3), then GLOW.
        static final int WHY = 4;
        static final int CLOCK = 5;
        static final int WIND = 6;
        static final int QUEUE = 7;
        static final int SPEED = 8;
        static final int HEIGHT = 9;
        static final int ABOARD = 10;
        static final int VOLUME = 11;
        static final int WEAR = 12;
        static final int GLOW = 13;

        private static final int BITS = 5;
        private static final int MASK = 31;
        // Far above what an E of twelve ( in one another can hold back.
        private static final int STACK = 64;

        private final Fair fair;
        private final int[] cells;
        private final int[] stack;
        private int count;
        private int top;
        boolean byZero;

        Code(Fair fair) {
            this.fair = fair;
            cells = new int[TAPE_MOST + 1];
            stack = new int[STACK];
            count = 0;
            top = 0;
            byZero = false;
        }

        void forget() {
            count = 0;
        }

        int here() {
            return count;
        }

        void put(int work, int number) {
            if (count < cells.length) {
                cells[count] = work | number << BITS;
                count++;
            }
        }

        /** What a MEASURE of the RIDE called at a token is kept as, till all RIDES are known. */
        static int asking(int who, int what) {
            return who << BITS | what;
        }

        /** The token of the NAME that a cell asks, or NONE if it asks no other RIDE. */
        int tokenAt(int cell) {
            if (cell < 0 || cell >= cells.length || (cells[cell] & MASK) != OTHERS) {
                return NONE;
            }
            return cells[cell] >> BITS + BITS;
        }

        void settle(int cell, int ride) {
            if (cell >= 0 && cell < cells.length) {
                int what = cells[cell] >> BITS & MASK;
                cells[cell] = OTHERS | asking(ride, what) << BITS;
            }
        }

        /** The value of a formula for a RIDE; byZero tells whether a / by 0 ended it. */
        int value(int from, Ride ride) {
            byZero = false;
            top = 0;
            boolean going = true;
            for (int at = from; going && at >= 0 && at < count && at < cells.length; at++) {
                int work = cells[at] & MASK;
                int number = cells[at] >> BITS;
                if (work == END) {
                    going = false;
                } else if (work <= IS_UP) {
                    push(operand(work, number, ride));
                } else if (work <= NOT) {
                    int only = pop();
                    push(work == MINUS ? -only : 1 - only);
                } else if (work <= OR) {
                    int last = pop();
                    // What stands behind is not asked once this ONE decides.
                    if ((last != 0) == (work == OR)) {
                        push(last);
                        going = false;
                    }
                } else {
                    int right = pop();
                    int left = pop();
                    push(joined(work, left, right));
                    going = !byZero;
                }
            }
            return pop();
        }

        private void push(int value) {
            if (top >= 0 && top < stack.length) {
                stack[top] = value;
                top++;
            }
        }

        private int pop() {
            if (top <= 0 || top > stack.length) {
                return 0;
            }
            top--;
            return stack[top];
        }

        private int operand(int work, int number, Ride ride) {
            switch (work) {
                case NUMBER:
                    return number;
                case OWN:
                    if (number == CLOCK) {
                        return fair.clock;
                    }
                    return number == WIND ? fair.wind : ride.worth(number);
                case OTHERS:
                    int who = number >> BITS;
                    if (who < 0 || who >= fair.rides.length) {
                        return 0;
                    }
                    return fair.rides[who].worth(number & MASK);
                default:
                    return fair.flagUp(number) ? 1 : 0;
            }
        }

        private int joined(int work, int left, int right) {
            switch (work) {
                case ADD:
                    return left + right;
                case SUBTRACT:
                    return left - right;
                case MULTIPLY:
                    return left * right;
                case DIVIDE:
                    if (right == 0) {
                        byZero = true;
                        return 0;
                    }
                    return left / right;
                default:
                    return compares(work, left, right) ? 1 : 0;
            }
        }

        private static boolean compares(int work, int left, int right) {
            switch (work) {
                case LESS:
                    return left < right;
                case LESS_OR_SAME:
                    return left <= right;
                case MORE:
                    return left > right;
                case MORE_OR_SAME:
                    return left >= right;
                case SAME:
                    return left == right;
                default:
                    return left != right;
            }
        }
    }

    /** Reads an E or a C of the TEXT into the Code. */
    private static final class FormulaReader {
        private static final int NESTED_MOST = 12;
        private static final int NOTS_MOST = 12;

        private final Text text;
        private final Names names;
        private final Code code;

        FormulaReader(Text text, Names names, Code code) {
            this.text = text;
            this.names = names;
            this.code = code;
        }

        /** Reads an E: where its code begins. */
        int expression() {
            int from = code.here();
            sum(0);
            code.put(Code.END, 0);
            return from;
        }

        /** Reads a C: where its code begins. */
        int condition() {
            int from = code.here();
            int joint = NONE;
            boolean going = true;
            for (int i = 0; i < TAPE_MOST && going; i++) {
                int nots = nots();
                if (text.sort() == Text.UP) {
                    text.advance();
                    code.put(Code.IS_UP, Math.max(0, names.readTold(Names.FLAG)));
                } else {
                    sum(0);
                    int work = comparison(text.sort());
                    if (work == NONE) {
                        text.refuse(1);
                    }
                    text.advance();
                    sum(0);
                    code.put(Math.max(0, work), 0);
                }
                if (nots % 2 != 0) {
                    code.put(Code.NOT, 0);
                }
                int word = text.sort();
                boolean joins = word == Text.AND || word == Text.OR;
                // The first joint holds for all: at the other one the C ends, and nothing lets that stand.
                going = joins && (joint == NONE || joint == word);
                if (going) {
                    joint = word;
                    code.put(word == Text.AND ? Code.AND : Code.OR, 0);
                    text.advance();
                }
            }
            code.put(Code.END, 0);
            return from;
        }

        private int nots() {
            int nots = 0;
            for (int i = 0; i < TAPE_MOST && text.sort() == Text.NOT; i++) {
                if (nots >= NOTS_MOST) {
                    text.refuse(4);
                }
                nots++;
                text.advance();
            }
            return nots;
        }

        private static int comparison(int sort) {
            switch (sort) {
                case '<':
                    return Code.LESS;
                case Text.WITH_EQUAL + '<':
                    return Code.LESS_OR_SAME;
                case '>':
                    return Code.MORE;
                case Text.WITH_EQUAL + '>':
                    return Code.MORE_OR_SAME;
                case Text.WITH_EQUAL + '=':
                    return Code.SAME;
                case Text.WITH_EQUAL + '!':
                    return Code.DIFFERENT;
                default:
                    return NONE;
            }
        }

        /** Reads an E that lies in so many ( and - of the whole one. */
        private void sum(int nested) {
            term(nested);
            for (int i = 0; i < TAPE_MOST && (text.sort() == '+' || text.sort() == '-'); i++) {
                int work = text.sort() == '+' ? Code.ADD : Code.SUBTRACT;
                text.advance();
                term(nested);
                code.put(work, 0);
            }
        }

        private void term(int nested) {
            factor(nested);
            for (int i = 0; i < TAPE_MOST && (text.sort() == '*' || text.sort() == '/'); i++) {
                int work = text.sort() == '*' ? Code.MULTIPLY : Code.DIVIDE;
                text.advance();
                factor(nested);
                code.put(work, 0);
            }
        }

        private void factor(int nested) {
            int depth = nested;
            for (int i = 0; i < TAPE_MOST && text.sort() == '-'; i++) {
                if (depth >= NESTED_MOST) {
                    text.refuse(4);
                }
                depth++;
                text.advance();
            }
            operand(depth);
            if ((depth - nested) % 2 != 0) {
                code.put(Code.MINUS, 0);
            }
        }

        private void operand(int nested) {
            int sort = text.sort();
            int what = valueOf(sort);
            if (sort == Text.NUMBER) {
                code.put(Code.NUMBER, text.number());
                text.advance();
            } else if (what != NONE) {
                code.put(Code.OWN, what);
                text.advance();
            } else if (sort == Text.NAME) {
                // Its RIDE may be told further below: the token stands for it till all are known.
                int token = text.at;
                if (names.numberOf(token, Names.STAFF) != NONE || names.numberOf(token, Names.FLAG) != NONE) {
                    text.refuse(3);
                }
                text.advance();
                text.expect('.');
                what = valueOf(text.sort());
                if (what < Code.QUEUE) {
                    text.refuse(1);
                }
                code.put(Code.OTHERS, Code.asking(token, Math.max(0, what)));
                text.advance();
            } else if (sort != '(') {
                text.refuse(1);
            } else if (nested >= NESTED_MOST) {
                text.refuse(4);
            } else {
                text.advance();
                sum(nested + 1);
                text.expect(')');
            }
        }

        /** What a word of a FACTOR asks for, or NONE. */
        private static int valueOf(int sort) {
            if (sort == Text.GLOW) {
                return Code.GLOW;
            }
            return sort >= Text.R0 && sort <= Text.WEAR ? sort - Text.R0 : NONE;
        }

        /** Behind the whole TEXT: every NAME of a RIDE in an E gets its number, or is the FAULT. */
        void settleNames() {
            int cells = code.here();
            for (int cell = 0; cell < cells && text.fault == 0; cell++) {
                int token = code.tokenAt(cell);
                if (token != NONE) {
                    int ride = names.numberOf(token, Names.RIDE);
                    if (ride == NONE) {
                        text.at = token;
                        text.refuse(3);
                    }
                    code.settle(cell, Math.max(0, ride));
                }
            }
        }
    }

    /** Reads the TEXT into the Fair. */
    private static final class FairReader {
        private static final int STEPS_MOST = 150;
        private static final int BLOCKS_MOST = 10;

        private final Text text;
        private final Names names;
        private final FormulaReader formulas;
        private final Fair fair;
        private final Code code;
        private boolean powerTold;
        private int steps;

        FairReader(byte[] tape, Fair fair, Code code) {
            Text made = new Text(tape);
            Names none = new Names(made);
            this.fair = fair;
            this.code = code;
            text = made;
            names = none;
            formulas = new FormulaReader(made, none, code);
            powerTold = false;
            steps = 0;
        }

        int place() {
            return text.place;
        }

        /** Reads the tape's first n bytes as a FAIR: its FAULT, or 0. */
        int faultOf(int n) {
            text.split(n);
            names.forget();
            code.forget();
            fair.forget();
            powerTold = false;
            for (int i = 0; i < TAPE_MOST && text.sort() != Text.END; i++) {
                switch (text.sort()) {
                    case Text.POWER:
                        power();
                        break;
                    case Text.STAFF:
                        staff();
                        break;
                    case Text.FLAG:
                        flag();
                        break;
                    case Text.RIDE:
                        ride();
                        break;
                    default:
                        text.refuse(1);
                }
            }
            if (fair.rideCount == 0) {
                text.refuse(1);
            }
            formulas.settleNames();
            return text.fault;
        }

        private void power() {
            if (powerTold) {
                text.refuse(4);
            }
            powerTold = true;
            text.advance();
            fair.power = number(9999);
            text.expect(';');
        }

        private void staff() {
            if (fair.staffCount >= Fair.STAFF_MOST) {
                text.refuse(4);
            }
            text.advance();
            int token = names.readNew();
            int all = number(9);
            text.expect(';');
            if (text.fault == 0) {
                names.tell(token, Names.STAFF, fair.staffCount);
                fair.addStaff(all);
            }
        }

        private void flag() {
            if (fair.flagCount >= Fair.FLAGS_MOST) {
                text.refuse(4);
            }
            text.advance();
            int token = names.readNew();
            text.expect(';');
            if (text.fault == 0) {
                names.tell(token, Names.FLAG, fair.flagCount);
                fair.flagCount++;
            }
        }

        /** Reads a NUMBER from 1 to most. */
        private int number(int most) {
            if (text.sort() != Text.NUMBER) {
                text.refuse(1);
                return 0;
            }
            int value = text.number();
            if (value < 1 || value > most) {
                text.refuse(5);
            }
            text.advance();
            return value;
        }

        private void ride() {
            int index = fair.rideCount;
            if (index >= Fair.RIDES_MOST || index >= fair.rides.length) {
                text.refuse(4);
                return;
            }
            Ride ride = fair.rides[index];
            text.advance();
            int token = names.readNew();
            int kind = text.sort() - Text.WHEEL;
            if (kind < 0 || kind > Text.TAIL - Text.WHEEL) {
                text.refuse(1);
                return;
            }
            text.advance();
            ride.become(kind);
            for (int i = 0; i < Ride.NUMBERS; i++) {
                if (ride.hasNumber(i)) {
                    ride.putNumber(i, number(Ride.numberMost(i)));
                }
            }
            if (ride.has(Ride.HITCHED)) {
                leader(ride);
            }
            // Told only here: a RIDE is not above itself, where its LEADER must be.
            names.tell(token, Names.RIDE, index);
            fair.rideCount++;
            steps = 0;
            ride.script.first = block(1, null, null, ride);
        }

        private void leader(Ride ride) {
            int token = text.at;
            if (!text.isWord()) {
                text.refuse(1);
                return;
            }
            int number = names.numberOf(token, Names.RIDE);
            if (number < 0 || number >= fair.rides.length) {
                text.refuse(3);
                return;
            }
            Ride leader = fair.rides[number];
            if (!leader.has(Ride.TURNS) || leader.has(Ride.HITCHED)) {
                text.refuse(5);
                return;
            }
            ride.leader = leader;
            text.advance();
        }

        /** Reads a BLOCK, so many in one another, of an owner (null: the RIDE): its first STEP, or null. */
        private Step block(int depth, Step owner, Step guard, Ride ride) {
            if (text.sort() != '{') {
                text.refuse(1);
                return null;
            }
            if (depth > BLOCKS_MOST) {
                text.refuse(4);
                return null;
            }
            text.advance();
            Step first = null;
            Step last = null;
            for (int i = 0; i < TAPE_MOST && text.sort() != '}' && text.fault == 0; i++) {
                Step step = step(depth, owner, guard, ride);
                if (last == null) {
                    first = step;
                } else {
                    last.next = step;
                }
                last = step;
            }
            text.expect('}');
            return first;
        }

        private Step step(int depth, Step owner, Step guard, Ride ride) {
            int sort = text.sort();
            boolean register = sort >= Text.R0 && sort <= Text.R3;
            int kind = register ? Step.ASSIGN : sort;
            Step step = new Step(kind, text.start(), owner, guard);
            if (!register && (sort < Text.SPIN || sort > Text.GLOW)) {
                text.refuse(1);
            } else if (steps >= STEPS_MOST) {
                text.refuse(4);
            } else if (!fits(step, ride)) {
                text.refuse(5);
            }
            steps++;
            text.advance();
            if (register) {
                step.number = sort - Text.R0;
                text.expect('=');
            }
            rest(step, depth, ride);
            return step;
        }

        /** Reads what stands behind the first word of a STEP. */
        private void rest(Step step, int depth, Ride ride) {
            switch (step.kind) {
                case Text.REPEAT:
                case Text.LOOP:
                    if (step.kind == Text.REPEAT) {
                        step.formula = formulas.expression();
                    }
                    step.again = new Step(Step.TURN, step.place, step, step.guard);
                    step.first = block(depth + 1, step, step.guard, ride);
                    return;
                case Text.IF:
                    step.formula = formulas.condition();
                    step.first = block(depth + 1, step, step.guard, ride);
                    if (text.sort() == Text.ELSE) {
                        text.advance();
                        step.second = block(depth + 1, step, step.guard, ride);
                    }
                    return;
                case Text.GUARD:
                    step.first = block(depth + 1, step, step, ride);
                    text.expect(Text.ON);
                    step.second = block(depth + 1, step, step.guard, ride);
                    return;
                case Text.UNLOAD:
                case Text.LEAVE:
                case Text.STOP:
                    break;
                case Text.UNTIL:
                    step.formula = formulas.condition();
                    break;
                case Text.CLAIM:
                case Text.FREE:
                    step.number = names.readTold(Names.STAFF);
                    break;
                case Text.RAISE:
                case Text.LOWER:
                    step.number = names.readTold(Names.FLAG);
                    break;
                default:
                    step.formula = formulas.expression();
            }
            text.expect(';');
        }

        private static boolean fits(Step step, Ride ride) {
            switch (step.kind) {
                case Text.SPIN:
                    return ride.has(Ride.TURNS) && !ride.has(Ride.HITCHED);
                case Text.LIFT:
                    return ride.has(Ride.LIFTS);
                case Text.GLOW:
                    return ride.has(Ride.LAMPS);
                case Text.SOUND:
                    return ride.has(Ride.SOUNDS);
                case Text.LOAD:
                case Text.UNLOAD:
                    return ride.has(Ride.SEATS);
                case Text.LEAVE:
                    return step.turning() != null;
                default:
                    return true;
            }
        }
    }

    /** A STEP of a SCRIPT, or (TURN) a further turn of its owner, a repeat or loop. */
    private static final class Step {
        // Beside the words that begin a STEP, which are its kind.
        static final int ASSIGN = 400;
        static final int TURN = 401;
        // Above the BLOCKS in one another that a TEXT may have.
        private static final int OWNERS_MOST = 12;

        final int kind;
        final int place;
        final Step owner;
        final Step guard;
        int formula;
        int number;
        int turnsLeft;
        Step next;
        Step first;
        Step second;
        Step again;

        Step(int kind, int place, Step owner, Step guard) {
            this.kind = kind;
            this.place = place;
            this.owner = owner;
            this.guard = guard;
        }

        /** The innermost repeat or loop in which it lies, or null. */
        Step turning() {
            Step at = owner;
            for (int i = 0; i < OWNERS_MOST && at != null; i++) {
                if (at.kind == Text.REPEAT || at.kind == Text.LOOP) {
                    return at;
                }
                at = at.owner;
            }
            return null;
        }

        boolean turnsAgain() {
            return again != null && (kind == Text.LOOP || turnsLeft > 0);
        }

        /** What is next when this one is done, BLOCKS that end there being left; null: the SCRIPT's end. */
        Step behind() {
            Step at = this;
            for (int i = 0; i < OWNERS_MOST; i++) {
                if (at.next != null || at.owner == null) {
                    return at.next;
                }
                if (at.owner.turnsAgain()) {
                    return at.owner.again;
                }
                at = at.owner;
            }
            return null;
        }

        /** What is next when a BLOCK of this one, which begins so (null: empty), is gone into. */
        Step into(Step begin) {
            if (begin != null) {
                return begin;
            }
            return turnsAgain() ? again : behind();
        }
    }

    /** All that was told of a fair, and how it stands since it was opened. */
    private static final class Fair {
        static final int RIDES_MOST = 12;
        static final int STAFF_MOST = 6;
        static final int FLAGS_MOST = 8;
        static final int LOG_KEPT = 400;
        static final int LOG_ROW = 4;
        private static final int POWER_UNTOLD = 9999;

        final Ride[] rides;
        final int[] staffAll;
        final int[] staffFree;
        private final int[] logRows;
        int rideCount;
        int staffCount;
        int flagCount;
        // One bit for each flag that is raised.
        private int flags;
        int power;
        int clock;
        int wind;
        int served;
        int gone;
        int waited;
        int logCount;

        Fair() {
            rides = new Ride[RIDES_MOST];
            for (int i = 0; i < RIDES_MOST; i++) {
                rides[i] = new Ride(i);
            }
            staffAll = new int[STAFF_MOST];
            staffFree = new int[STAFF_MOST];
            logRows = new int[LOG_KEPT * LOG_ROW];
        }

        /** Before a TEXT is read: nothing is told. */
        void forget() {
            rideCount = 0;
            staffCount = 0;
            flagCount = 0;
            power = POWER_UNTOLD;
        }

        void addStaff(int all) {
            if (staffCount < STAFF_MOST) {
                staffAll[staffCount] = all;
                staffCount++;
            }
        }

        /** Opens it anew. */
        void begin() {
            System.arraycopy(staffAll, 0, staffFree, 0, STAFF_MOST);
            for (int i = 0; i < rideCount && i < RIDES_MOST; i++) {
                rides[i].begin();
            }
            flags = 0;
            clock = 0;
            wind = 0;
            served = 0;
            gone = 0;
            waited = 0;
            logCount = 0;
        }

        boolean flagUp(int flag) {
            return (flags >> flag & 1) != 0;
        }

        void putFlag(int flag, boolean up) {
            flags = up ? flags | 1 << flag : flags & ~(1 << flag);
        }

        int allDraws() {
            int sum = 0;
            for (int i = 0; i < rideCount && i < RIDES_MOST; i++) {
                sum += rides[i].draw();
            }
            return sum;
        }

        int greatestNoise() {
            int most = 0;
            for (int i = 0; i < rideCount && i < RIDES_MOST; i++) {
                most = Math.max(most, rides[i].noise());
            }
            return most;
        }

        /** All that is logged is counted; only the first ones are kept. */
        void note(int code, int ride, int number) {
            if (logCount < LOG_KEPT) {
                int row = logCount * LOG_ROW;
                logRows[row] = code;
                logRows[row + 1] = ride;
                logRows[row + 2] = number;
                logRows[row + 3] = clock;
            }
            logCount++;
        }

        int logged(int i, int what) {
            int cell = i * LOG_ROW + what;
            return cell >= 0 && cell < logRows.length ? logRows[cell] : 0;
        }
    }

    /** A RIDE: what its KIND makes it, and its MEASURES. */
    private static final class Ride {
        static final int TURNS = 1;
        static final int LIFTS = 2;
        static final int SEATS = 4;
        static final int LAMPS = 8;
        static final int SOUNDS = 16;
        static final int HITCHED = 32;
        private static final int[] ABILITIES_OF = {
            TURNS | SEATS, LIFTS | SEATS, TURNS | LIFTS | SEATS, TURNS | SOUNDS, LAMPS,
            LIFTS | LAMPS | SOUNDS, SEATS | LAMPS | SOUNDS, TURNS | LIFTS | SEATS | LAMPS | SOUNDS,
            TURNS | SEATS | HITCHED
        };

        private static final int SWING = 2;
        private static final int ORGAN = 3;
        private static final int COMET = 5;
        private static final int GHOST = 6;
        private static final int STAR = 7;
        private static final int TAIL = 8;

        static final int NUMBERS = 6;
        private static final int[] NUMBER_MOST = {500, 50, 500, 200, 60, 500};
        private static final int[] NUMBER_OWNER = {TURNS, TURNS, LIFTS, LIFTS, SEATS, LAMPS};
        private static final int MASS = 0;
        private static final int ACCEL = 1;
        private static final int WEIGHT = 2;
        private static final int PACE = 3;
        private static final int PLACES = 4;
        private static final int WATTS = 5;
        private static final int WEAR_MOST = 9999;

        final int index;
        final Queue queue;
        final Script script;
        private final int[] numbers;
        private int kind;
        private int abilities;
        Ride leader;
        private int speed;
        private int speedGoal;
        private int height;
        private int heightGoal;
        // By how much the latest tick changed HEIGHT.
        private int rise;
        int aboard;
        private int glow;
        private int volume;
        int wear;

        Ride(int index) {
            this.index = index;
            queue = new Queue();
            script = new Script();
            numbers = new int[NUMBERS];
        }

        void become(int newKind) {
            kind = newKind;
            abilities = kind >= 0 && kind < ABILITIES_OF.length ? ABILITIES_OF[kind] : 0;
            leader = null;
            for (int i = 0; i < NUMBERS; i++) {
                numbers[i] = 0;
            }
        }

        void begin() {
            speed = 0;
            speedGoal = 0;
            height = 0;
            heightGoal = 0;
            rise = 0;
            aboard = 0;
            glow = 0;
            volume = 0;
            wear = 0;
            queue.clear();
            script.begin();
        }

        boolean has(int ability) {
            return (abilities & ability) != 0;
        }

        boolean hasNumber(int i) {
            return i >= 0 && i < NUMBERS && has(NUMBER_OWNER[i]);
        }

        static int numberMost(int i) {
            return i >= 0 && i < NUMBERS ? NUMBER_MOST[i] : 0;
        }

        void putNumber(int i, int value) {
            if (i >= 0 && i < NUMBERS) {
                numbers[i] = value;
            }
        }

        int placesLeft() {
            return numbers[PLACES] - aboard;
        }

        int measured(int what) {
            switch (what) {
                case 0:
                    return kind;
                case 1:
                    return speed;
                case 2:
                    return speedGoal;
                case 3:
                    return height;
                case 4:
                    return heightGoal;
                case 5:
                    return aboard;
                case 6:
                    return glow;
                case 7:
                    return volume;
                case 8:
                    return wear;
                case 9:
                    return queue.all;
                default:
                    return numbers[PLACES];
            }
        }

        /** What a FACTOR asks of a RIDE. */
        int worth(int what) {
            switch (what) {
                case Code.WHY:
                    return script.why;
                case Code.QUEUE:
                    return queue.all;
                case Code.SPEED:
                    return speed;
                case Code.HEIGHT:
                    return height;
                case Code.ABOARD:
                    return aboard;
                case Code.VOLUME:
                    return volume;
                case Code.WEAR:
                    return wear;
                case Code.GLOW:
                    return glow;
                default:
                    return what >= 0 && what < script.registers.length ? script.registers[what] : 0;
            }
        }

        /** Sets what the STEP spin, lift, glow or sound sets. */
        void take(int step, int value) {
            switch (step) {
                case Text.SPIN:
                    speedGoal = value;
                    break;
                case Text.LIFT:
                    heightGoal = value;
                    break;
                case Text.GLOW:
                    glow = value;
                    break;
                default:
                    volume = value;
            }
        }

        boolean hasGoal() {
            return speedGoal != 0 || heightGoal != 0;
        }

        boolean canBeShed() {
            return hasGoal() || glow != 0 || volume != 0;
        }

        void dropGoals() {
            speedGoal = 0;
            heightGoal = 0;
        }

        void goDark() {
            dropGoals();
            glow = 0;
            volume = 0;
        }

        void grow() {
            wear = Math.min(WEAR_MOST, wear + tear());
        }

        private int turnsDraw() {
            return Math.abs(speed) * numbers[MASS] / 100;
        }

        private int liftsDraw() {
            return rise > 0 ? numbers[WEIGHT] : 0;
        }

        private int lampsDraw() {
            return glow * numbers[WATTS] / 100;
        }

        // What an ABILITY that is not there would say is 0, as its MEASURES stay 0.
        int draw() {
            switch (kind) {
                case SWING:
                    return Math.max(turnsDraw(), liftsDraw());
                case STAR:
                    return turnsDraw() + liftsDraw() + Math.max(lampsDraw(), volume / 2);
                case TAIL:
                    return turnsDraw() / 2;
                default:
                    return turnsDraw() + liftsDraw() + lampsDraw() + volume / 2;
            }
        }

        int noise() {
            switch (kind) {
                case ORGAN:
                    return speed == 0 ? volume : volume + 10;
                case GHOST:
                    return volume / 2;
                case TAIL:
                    return 0;
                default:
                    int moving = Math.max(Math.abs(speed) / 2, rise != 0 ? 5 : 0);
                    return Math.max(moving, volume);
            }
        }

        int tear() {
            int lifting = rise != 0 ? 10 : 0;
            return kind == COMET ? 2 * lifting : Math.abs(speed) + lifting;
        }

        boolean isCalm() {
            switch (kind) {
                case ORGAN:
                    return true;
                case COMET:
                    return height == 0;
                case GHOST:
                    return glow >= 50 && volume <= 50;
                case STAR:
                    return speed == 0 && height == 0 && volume <= 50 && glow >= 20;
                default:
                    return speed == 0 && height == 0;
            }
        }

        int limit() {
            if (kind == SWING) {
                return 50;
            }
            if (kind == STAR) {
                return 40;
            }
            if (has(LIFTS)) {
                return 60;
            }
            return has(TURNS) ? 80 : 200;
        }

        void ease() {
            int heightBefore = height;
            easeSpeed();
            easeHeight();
            rise = height - heightBefore;
            if (kind == ORGAN) {
                volume = Math.min(volume, Math.abs(speed));
            }
        }

        private void easeSpeed() {
            if (leader != null) {
                speed = leader.speed;
                return;
            }
            boolean slow = kind == STAR && height > 0;
            int most = slow ? Math.max(1, numbers[ACCEL] / 2) : numbers[ACCEL];
            speed = toward(speed, speedGoal, most, most);
        }

        private void easeHeight() {
            boolean held = kind == SWING && Math.abs(speed) > 30;
            int fall = kind == COMET ? 2 * numbers[PACE] : numbers[PACE];
            height = toward(height, heightGoal, numbers[PACE], held ? 0 : fall);
        }

        private static int toward(int from, int goal, int mostUp, int mostDown) {
            return goal > from ? Math.min(goal, from + mostUp) : Math.max(goal, from - mostDown);
        }
    }

    /** How a RIDE's SCRIPT stands. */
    private static final class Script {
        static final int GOING = 0;
        static final int OVER = 1;
        static final int DOWN = 2;
        private static final int REGISTERS = 4;

        final int[] registers;
        final int[] held;
        Step first;
        // The STEP that is next or looked at again; null at the SCRIPT's end.
        Step step;
        // Whether that one takes ticks and has begun, and how many are left of them.
        boolean begun;
        int ticksLeft;
        int state;
        int why;
        int counted;

        Script() {
            registers = new int[REGISTERS];
            held = new int[Fair.STAFF_MOST];
        }

        void begin() {
            for (int i = 0; i < registers.length; i++) {
                registers[i] = 0;
            }
            for (int i = 0; i < held.length; i++) {
                held[i] = 0;
            }
            goOn(first);
            ticksLeft = 0;
            state = GOING;
            why = 0;
            counted = 0;
        }

        void goOn(Step next) {
            step = next;
            begun = false;
        }

        void end(int newState) {
            state = newState;
            goOn(null);
        }

        int told(int what) {
            switch (what) {
                case 0:
                    return state;
                case 1:
                    return why;
                case 2:
                    return step == null ? NONE : step.place;
                case 3:
                    return counted;
                default:
                    int i = what - 4;
                    return i >= 0 && i < registers.length ? registers[i] : 0;
            }
        }
    }

    /** The GROUPS that wait at a RIDE, the earliest first. */
    private static final class Queue {
        private static final int GROUPS_MOST = 30;
        private static final int PATIENCE = 60;

        private final int[] riders;
        private final int[] clocks;
        private int groups;
        int all;
        // The ticks that those who got on latest were in the queue, together.
        int latestWait;

        Queue() {
            riders = new int[GROUPS_MOST];
            clocks = new int[GROUPS_MOST];
        }

        void clear() {
            groups = 0;
            all = 0;
            latestWait = 0;
        }

        int join(int number, int clock) {
            if (groups >= GROUPS_MOST) {
                return NONE;
            }
            riders[groups] = number;
            clocks[groups] = clock;
            groups++;
            all += number;
            return all;
        }

        /** Those who came too long ago leave: how many riders. */
        int leavers(int clock) {
            int left = 0;
            int i = 0;
            while (i < groups && i < GROUPS_MOST && clock - clocks[i] > PATIENCE) {
                left += riders[i];
                i++;
            }
            dropFirst(i);
            all -= left;
            return left;
        }

        /** At most so many get on: how many do. */
        int board(int most, int clock) {
            int got = 0;
            int emptied = 0;
            latestWait = 0;
            for (int i = 0; i < groups && i < GROUPS_MOST && got < most; i++) {
                int part = Math.min(riders[i], most - got);
                riders[i] -= part;
                got += part;
                latestWait += part * (clock - clocks[i]);
                if (riders[i] == 0) {
                    emptied++;
                }
            }
            dropFirst(emptied);
            all -= got;
            return got;
        }

        private void dropFirst(int number) {
            int rest = groups - number;
            if (number <= 0 || rest < 0 || groups > GROUPS_MOST) {
                return;
            }
            System.arraycopy(riders, number, riders, 0, rest);
            System.arraycopy(clocks, number, clocks, 0, rest);
            groups = rest;
        }
    }

    /** Runs the fair by ticks. */
    private static final class Runner {
        private static final int STEPS_A_TICK = 40;
        private static final int BOARD_A_TICK = 5;
        private static final int MEND_A_TICK = 50;
        private static final int WORN = 1000;
        private static final int HELD_MOST = 2;

        private static final int NOT_CALM = 1;
        private static final int BEYOND = 2;
        private static final int STAFF = 3;
        private static final int WINDY = 4;
        private static final int WORN_OUT = 5;
        private static final int BY_ZERO = 6;
        private static final int SHED = 7;

        // What a STEP answers, if it does not STALL (which has a number above 0).
        private static final int GOES_ON = 0;
        private static final int WAITS = -1;

        private static final int LOG_STALL = 1;
        private static final int LOG_DOWN = 2;
        private static final int LOG_SHED = 3;
        private static final int LOG_GONE = 4;
        private static final int LOG_SERVED = 5;
        private static final int LOG_OVER = 6;

        private final Fair fair;
        private final Code code;

        Runner(Fair fair, Code code) {
            this.fair = fair;
            this.code = code;
        }

        void oneTick() {
            int rides = Math.min(fair.rideCount, fair.rides.length);
            fair.clock++;
            for (int i = 0; i < rides; i++) {
                sendOff(fair.rides[i]);
            }
            for (int i = 0; i < rides; i++) {
                run(fair.rides[i]);
            }
            for (int i = 0; i < rides; i++) {
                fair.rides[i].ease();
            }
            shed(rides);
            for (int i = 0; i < rides; i++) {
                blow(fair.rides[i]);
            }
            for (int i = 0; i < rides; i++) {
                fair.rides[i].grow();
            }
        }

        private void sendOff(Ride ride) {
            int left = ride.queue.leavers(fair.clock);
            if (left > 0) {
                fair.gone += left;
                fair.note(LOG_GONE, ride.index, left);
            }
        }

        private void run(Ride ride) {
            Script script = ride.script;
            int answer = GOES_ON;
            for (int i = 0; i < STEPS_A_TICK && answer != WAITS && script.step != null; i++) {
                script.counted++;
                answer = perform(ride, script, script.step);
                if (answer > 0) {
                    stall(ride, answer);
                }
            }
            endIfOver(ride);
        }

        /** A SCRIPT that goes on, but has nothing next, is over by its end. */
        private void endIfOver(Ride ride) {
            Script script = ride.script;
            if (script.step == null && script.state == Script.GOING) {
                script.end(Script.OVER);
                fair.note(LOG_OVER, ride.index, fair.clock);
            }
        }

        /** Does what a STEP asks in this tick: GOES_ON, WAITS, or the number of a STALL. */
        private int perform(Ride ride, Script script, Step step) {
            switch (step.kind) {
                case Text.SPIN:
                case Text.LIFT:
                case Text.GLOW:
                case Text.SOUND:
                    return aim(ride, step);
                case Text.LOAD:
                case Text.MEND:
                case Text.WAIT:
                    return spend(ride, script, step);
                case Text.UNLOAD:
                    return unload(ride, step);
                case Text.UNTIL:
                case Text.IF:
                    return decide(ride, step);
                case Text.CLAIM:
                    return claim(script, step);
                case Text.FREE:
                    return release(script, step);
                case Text.RAISE:
                case Text.LOWER:
                    fair.putFlag(step.number, step.kind == Text.RAISE);
                    break;
                case Step.ASSIGN:
                    return assign(ride, step);
                case Text.LEAVE:
                    Step turning = step.turning();
                    script.goOn(turning == null ? null : turning.behind());
                    return GOES_ON;
                case Text.STOP:
                    script.goOn(null);
                    return GOES_ON;
                default:
                    return enter(ride, script, step);
            }
            script.goOn(step.behind());
            return GOES_ON;
        }

        private int aim(Ride ride, Step step) {
            int value = code.value(step.formula, ride);
            if (code.byZero) {
                return BY_ZERO;
            }
            boolean moves = step.kind == Text.SPIN || step.kind == Text.LIFT;
            int least = step.kind == Text.SPIN ? -100 : 0;
            int most = step.kind == Text.LIFT ? 1000 : 100;
            if (value < least || value > most) {
                return BEYOND;
            }
            if (moves && value != 0 && ride.wear > WORN) {
                return WORN_OUT;
            }
            ride.take(step.kind, value);
            ride.script.goOn(step.behind());
            return GOES_ON;
        }

        /** A STEP that takes ticks: one of them. */
        private int spend(Ride ride, Script script, Step step) {
            if (!script.begun) {
                int ticks = code.value(step.formula, ride);
                if (code.byZero) {
                    return BY_ZERO;
                }
                if (ticks < 1) {
                    script.goOn(step.behind());
                    return GOES_ON;
                }
                script.begun = true;
                script.ticksLeft = ticks;
            }
            if (step.kind != Text.WAIT && !ride.isCalm()) {
                return NOT_CALM;
            }
            if (step.kind == Text.LOAD) {
                int most = Math.min(BOARD_A_TICK, ride.placesLeft());
                ride.aboard += ride.queue.board(most, fair.clock);
                fair.waited += ride.queue.latestWait;
            } else if (step.kind == Text.MEND) {
                ride.wear = Math.max(0, ride.wear - MEND_A_TICK);
            }
            script.ticksLeft--;
            if (script.ticksLeft <= 0) {
                script.goOn(step.behind());
            }
            return WAITS;
        }

        private int unload(Ride ride, Step step) {
            if (!ride.isCalm()) {
                return NOT_CALM;
            }
            if (ride.aboard > 0) {
                fair.served += ride.aboard;
                fair.note(LOG_SERVED, ride.index, ride.aboard);
                ride.aboard = 0;
            }
            ride.script.goOn(step.behind());
            return GOES_ON;
        }

        /** until and if: what a C decides. */
        private int decide(Ride ride, Step step) {
            boolean holds = code.value(step.formula, ride) != 0;
            if (code.byZero) {
                return BY_ZERO;
            }
            if (step.kind == Text.IF) {
                ride.script.goOn(step.into(holds ? step.first : step.second));
                return GOES_ON;
            }
            if (!holds) {
                return WAITS;
            }
            ride.script.goOn(step.behind());
            return GOES_ON;
        }

        private int claim(Script script, Step step) {
            int staff = step.number;
            if (staff < 0 || staff >= script.held.length || staff >= fair.staffFree.length
                    || script.held[staff] >= HELD_MOST) {
                return STAFF;
            }
            if (fair.staffFree[staff] < 1) {
                return WAITS;
            }
            fair.staffFree[staff]--;
            script.held[staff]++;
            script.goOn(step.behind());
            return GOES_ON;
        }

        private int release(Script script, Step step) {
            int staff = step.number;
            if (staff < 0 || staff >= script.held.length || staff >= fair.staffFree.length
                    || script.held[staff] < 1) {
                return STAFF;
            }
            script.held[staff]--;
            fair.staffFree[staff]++;
            script.goOn(step.behind());
            return GOES_ON;
        }

        private int assign(Ride ride, Step step) {
            int value = code.value(step.formula, ride);
            if (code.byZero) {
                return BY_ZERO;
            }
            Script script = ride.script;
            if (step.number >= 0 && step.number < script.registers.length) {
                script.registers[step.number] = value;
            }
            script.goOn(step.behind());
            return GOES_ON;
        }

        /** repeat, loop, guard, and a further turn: into the BLOCK. */
        private int enter(Ride ride, Script script, Step step) {
            Step block = step;
            if (step.kind == Step.TURN && step.owner != null) {
                block = step.owner;
                if (block.kind == Text.REPEAT) {
                    block.turnsLeft--;
                }
            } else if (step.kind == Text.REPEAT) {
                int turns = code.value(step.formula, ride);
                if (code.byZero) {
                    return BY_ZERO;
                }
                if (turns < 1) {
                    script.goOn(step.behind());
                    return GOES_ON;
                }
                step.turnsLeft = turns - 1;
            }
            script.goOn(block.into(block.first));
            return GOES_ON;
        }

        private void stall(Ride ride, int number) {
            Script script = ride.script;
            ride.dropGoals();
            Step guard = script.step == null ? null : script.step.guard;
            if (guard == null) {
                script.end(Script.DOWN);
                freeAll(script);
                fair.note(LOG_DOWN, ride.index, number);
            } else {
                script.why = number;
                script.goOn(guard.into(guard.second));
                fair.note(LOG_STALL, ride.index, number);
            }
        }

        private void freeAll(Script script) {
            for (int i = 0; i < script.held.length && i < fair.staffFree.length; i++) {
                fair.staffFree[i] += script.held[i];
                script.held[i] = 0;
            }
        }

        private void shed(int rides) {
            int counted = fair.allDraws();
            for (int i = rides - 1; i >= 0 && i < fair.rides.length && counted > fair.power; i--) {
                Ride ride = fair.rides[i];
                int draw = ride.draw();
                if (draw > 0 && ride.canBeShed()) {
                    counted -= draw;
                    ride.goDark();
                    fair.note(LOG_SHED, ride.index, draw);
                    stallFromOutside(ride, SHED);
                }
            }
        }

        private void blow(Ride ride) {
            if (ride.limit() < fair.wind && ride.hasGoal()) {
                ride.dropGoals();
                stallFromOutside(ride, WINDY);
            }
        }

        private void stallFromOutside(Ride ride, int number) {
            if (ride.script.state == Script.GOING) {
                stall(ride, number);
                // Behind an empty on-BLOCK there may be nothing: it is over then in this tick.
                endIfOver(ride);
            }
        }
    }
}
