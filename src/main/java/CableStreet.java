import java.util.Arrays;

/** The rope under the street. Words in capitals are terms of the document, ../shared/DOC.md. */
public final class CableStreet {
    public static final int NONE = -1;

    private static final int MAX_TEXT = 1600;
    private static final int FED = 20;
    private static final int MAX_TICKS = 100000;
    private static final int MAX_RUN = 500;
    private static final int SEGMENTS = 60;
    private static final int STREET_END = 600;
    private static final int MAX_ROPES = 3;
    private static final int MAX_GRADES = 12;
    private static final int MAX_CARS = 5;
    private static final int MAX_MARKS = 24;
    private static final int MAX_SPLICES = 6;
    private static final int MAX_CROSSES = 4;
    private static final int MAX_UNITS = 40;
    private static final int MAX_WITHIN = 6;
    private static final int MAX_HALT = 99;
    private static final int MAX_EVENTS = 60;
    private static final int MAX_LOGS = 60;
    private static final int LOG_TICKS = 200;
    private static final int MAX_LATER = 1000;
    private static final int MAX_TIME = 100000;
    private static final int BOXES = 3;

    private static final int HORIZON = 500;
    private static final int MAX_AHEAD = 300;
    private static final int SPREAD_AHEAD = 200;
    private static final int MAX_SPREAD = 20;
    private static final int MAX_COAST = 60;
    private static final int MAX_WHERE = 9999;
    private static final int BUMP = 5;

    private static final int NOT_POSSIBLE = -2;
    private static final int NO_SPEED = -1000;
    private static final int NO_VALUE = -1000000;
    private static final int NO_CAR_NEAR = 999;

    private static final int GRIPS = 0;
    private static final int OFF = 1;
    private static final int WAITS = 2;
    private static final int DONE = 3;

    private static final int LET_MARK = 0;
    private static final int GRIP_MARK = 1;
    private static final int STOP_MARK = 2;
    private static final int CATCH_MARK = 3;
    private static final int MARK_SORTS = 4;

    private static final int MISS_EVENT = 0;
    private static final int SAVED_EVENT = 1;
    private static final int CUT_EVENT = 2;
    private static final int DIP_EVENT = 3;
    private static final int CAUGHT_EVENT = 4;
    private static final int ROLLS_EVENT = 5;
    private static final int HELD_EVENT = 6;
    private static final int WORN_EVENT = 7;
    private static final int BACK_EVENT = 8;
    private static final int EVENT_CELLS = 5;

    private static final int MISSES = 0;
    private static final int SAVED = 1;
    private static final int CUTS = 2;
    private static final int DIPS = 3;
    private static final int BUMPS = 4;
    private static final int HELD_BACK = 5;
    private static final int ROLLED = 6;
    private static final int CAME_BACK = 7;
    private static final int COUNTS = 8;

    // What a cross's e is made of: values first, then what is done to them.
    private static final int OP_NUMBER = 0;
    private static final int OP_CAR = 1;
    private static final int OP_SPEED = 2;
    private static final int OP_WEIGHS = 3;
    private static final int OP_TICK = 4;
    private static final int OP_AHEAD = 5;
    private static final int OP_BEHIND = 6;
    private static final int OP_LOAD = 7;
    private static final int OP_NOT = 8;
    private static final int OP_OR = 9;
    private static final int OP_AND = 10;
    private static final int OP_LESS = 11;
    private static final int OP_MORE = 12;
    private static final int OP_SAME = 13;
    private static final int OP_PLUS = 14;
    private static final int OP_MINUS = 15;
    private static final int OP_TIMES = 16;

    private final byte[] tape = new byte[MAX_TEXT];
    private int taped = 0;
    private final Reader reader = new Reader();
    private Plan plan = new Plan();
    private Plan sparePlan = new Plan();
    private final State now = new State();
    private final State[] boxes = new State[BOXES];
    private final boolean[] boxFull = new boolean[BOXES];
    private final Machine machine = new Machine();
    private final Forecast forecast = new Forecast();
    private final Logs logs = new Logs();

    public CableStreet() {
        for (int box = 0; box < BOXES; box++) {
            boxes[box] = new State();
        }
        now.begin(plan);
    }

    public int feed(int a, int b, int c, int d, int e) {
        if (taped + FED > MAX_TEXT) {
            return NONE;
        }
        putBytes(a);
        putBytes(b);
        putBytes(c);
        putBytes(d);
        putBytes(e);
        return taped;
    }

    private void putBytes(int number) {
        for (int shift = 24; shift >= 0 && taped < MAX_TEXT; shift -= 8) {
            tape[taped] = (byte) (number >>> shift);
            taped++;
        }
    }

    public int end(int n) {
        if (n < 0 || n > taped) {
            return NONE;
        }
        taped = n;
        return n;
    }

    public int street() {
        reader.open(sparePlan, tape, taped);
        int lines = 0;
        while (lines < MAX_TEXT && reader.hasLine()) {
            reader.readLine();
            lines++;
        }
        if (reader.fault != 0) {
            return NONE;
        }
        Plan told = sparePlan;
        sparePlan = plan;
        plan = told;
        taped = 0;
        now.begin(plan);
        logs.forget();
        for (int box = 0; box < BOXES; box++) {
            boxFull[box] = false;
        }
        return lines;
    }

    public int fault(int what) {
        if (what == 0) {
            return reader.fault;
        }
        return what == 1 ? reader.faultPlace : NONE;
    }

    public int run(int ticks) {
        if (ticks < 0 || ticks > MAX_RUN || now.tick + ticks > MAX_TICKS) {
            return NONE;
        }
        for (int t = 0; t < ticks; t++) {
            machine.tick(plan, now);
        }
        return now.notDone(plan);
    }

    public int car(int car, int what) {
        if (!plan.hasCar(car)) {
            return NONE;
        }
        Car it = now.cars[car];
        switch (what) {
            case 0:
                return it.x;
            case 2:
                return it.mode;
            case 3:
                return it.caught ? 1 : 0;
            case 4:
                return it.mode == WAITS ? it.waits : 0;
            default:
                return NONE;
        }
    }

    public int speed(int car) {
        return plan.hasCar(car) ? now.cars[car].v : NO_SPEED;
    }

    public int rope(int rope, int what) {
        if (!plan.hasRope(rope)) {
            return NONE;
        }
        switch (what) {
            case 0:
                return now.load(plan, rope);
            case 1:
                return now.cut[rope] ? 1 : 0;
            case 2:
                return now.dips(plan, rope) ? 1 : 0;
            default:
                return NONE;
        }
    }

    public int count(int what) {
        return what >= 0 && what < COUNTS ? now.events.counts[what] : NONE;
    }

    public boolean strand(int rope, int place) {
        if (!plan.hasPlace(rope, place) || now.cut[rope]) {
            return false;
        }
        now.strandRope = rope;
        now.strandPlace = place;
        return true;
    }

    public int strandNow(int what) {
        if (now.strandRope == NONE) {
            return NONE;
        }
        switch (what) {
            case 0:
                return now.strandRope;
            case 1:
                return now.strandPlace;
            case 2:
                return plan.segmentOfPlace(now.strandRope, now.strandPlace);
            default:
                return NONE;
        }
    }

    public boolean free(int car) {
        if (!plan.hasCar(car) || !now.cars[car].caught) {
            return false;
        }
        now.cars[car].caught = false;
        return true;
    }

    public int splice(int splice, int what) {
        if (!plan.hasSplice(splice)) {
            return NONE;
        }
        switch (what) {
            case 0:
                return plan.spliceRope[splice];
            case 1:
                return now.splicePlace[splice];
            case 2:
                return plan.segmentOfPlace(plan.spliceRope[splice], now.splicePlace[splice]);
            case 3:
                return now.wear[splice];
            default:
                return NONE;
        }
    }

    public int due(int splice) {
        return forecast.ticksTillWorn(plan, now, splice);
    }

    public int cost(int segment, int n) {
        if (plan.mark(STOP_MARK, segment) == 0 || !isAhead(n)) {
            return NO_VALUE;
        }
        forecast.drawPower(plan, now, n);
        int with = forecast.powerSum;
        int ticks = plan.mark(STOP_MARK, segment);
        plan.setMark(STOP_MARK, segment, 0);
        forecast.drawPower(plan, now, n);
        plan.setMark(STOP_MARK, segment, ticks);
        return with - forecast.powerSum;
    }

    private static boolean isAhead(int n) {
        return n >= 1 && n <= MAX_AHEAD;
    }

    public int halt(int ticks) {
        if (ticks < 1 || ticks > MAX_HALT) {
            return NONE;
        }
        int halted = 0;
        for (int c = 0; c < plan.cars; c++) {
            Car it = now.cars[c];
            if (it.mode != DONE && !it.caught) {
                it.waitFor(ticks);
                halted++;
            }
        }
        return halted;
    }

    public int rolls() {
        int bits = 0;
        for (int c = 0; c < plan.cars; c++) {
            Car it = now.cars[c];
            if (it.mode != DONE && !plan.brakesHold(c, it.segment())) {
                bits |= 1 << c;
            }
        }
        return bits;
    }

    public int trips(int car) {
        return plan.hasCar(car) ? now.cars[car].trips : NONE;
    }

    public int asks(int segment, int car) {
        int cross = plan.crosses.numberOn(segment);
        if (cross == NONE || !plan.hasCar(car)) {
            return NO_VALUE;
        }
        return machine.ask(plan, now, cross, car);
    }

    public int event(int i, int what) {
        return now.events.cell(i, what);
    }

    public int coasts(int segment, int v, int what) {
        if (!Plan.isSegment(segment) || v < -MAX_COAST || v > MAX_COAST) {
            return NOT_POSSIBLE;
        }
        forecast.followCoast(plan, segment, v);
        switch (what) {
            case 0:
                return forecast.coastSegment;
            case 1:
                return forecast.coastMeetsRope ? 1 : 0;
            case 2:
                return forecast.coastTicks;
            default:
                return NOT_POSSIBLE;
        }
    }

    public int need(int segment) {
        return Plan.isSegment(segment) ? forecast.leastSpeedToRope(plan, segment) : NONE;
    }

    public int takes() {
        return forecast.carOfStrand(plan, now);
    }

    public int head(int n) {
        return isAhead(n) ? forecast.leastGapIfWaits(plan, now, NONE, 0, n) : NONE;
    }

    public int spread(int car, int what) {
        if (!plan.hasCar(car) || now.cars[car].mode == DONE || what < 0 || what > 1) {
            return NONE;
        }
        int bestWait = NONE;
        int bestGap = NONE;
        for (int wait = 0; wait <= MAX_SPREAD; wait++) {
            int gap = forecast.leastGapIfWaits(plan, now, car, wait, SPREAD_AHEAD);
            if (gap > bestGap) {
                bestGap = gap;
                bestWait = wait;
            }
        }
        return what == 0 ? bestWait : bestGap;
    }

    public int power(int n, int what) {
        if (!isAhead(n) || what < 0 || what > 1) {
            return NONE;
        }
        forecast.drawPower(plan, now, n);
        return what == 0 ? forecast.powerSum : forecast.powerPeak;
    }

    public int runaway(int car, int segment) {
        if (!plan.hasCar(car) || !Plan.isSegment(segment) || plan.brakesHold(car, segment)) {
            return NONE;
        }
        return forecast.topSpeed(plan, segment);
    }

    public int order(int i) {
        for (int c = 0; c < plan.cars; c++) {
            if (now.cars[c].mode != DONE && carsAheadInOrder(c) == i) {
                return c;
            }
        }
        return NONE;
    }

    private int carsAheadInOrder(int car) {
        int pull = plan.pull(car, now.cars[car].segment());
        int ahead = 0;
        for (int c = 0; c < plan.cars; c++) {
            Car other = now.cars[c];
            if (other.mode != DONE && c != car) {
                int otherPull = plan.pull(c, other.segment());
                if (otherPull > pull || (otherPull == pull && c < car)) {
                    ahead++;
                }
            }
        }
        return ahead;
    }

    public int where(int rope, int place, int ticks) {
        if (!plan.hasPlace(rope, place) || ticks < 0 || ticks > MAX_WHERE) {
            return NOT_POSSIBLE;
        }
        int then = plan.placeAfter(rope, place, ticks * plan.ropes[rope].speed);
        return plan.segmentOfPlace(rope, then);
    }

    public int log(int car, int tick, int segment) {
        if (!plan.hasCar(car) || tick < 1 || tick > LOG_TICKS || !Plan.isSegment(segment)) {
            return NONE;
        }
        return logs.tell(car, tick, segment);
    }

    public boolean untell(int log) {
        return logs.takeBack(log);
    }

    public int later(int by) {
        if (by < 0 || by > MAX_LATER || logs.time + by > MAX_TIME) {
            return NONE;
        }
        logs.time += by;
        return logs.time;
    }

    public int judge(int what, int k) {
        if (what < 0 || what > 1) {
            return NONE;
        }
        if (!logs.timetableDrawn) {
            forecast.drawTimetable(plan, logs.timetable);
            logs.timetableDrawn = true;
        }
        return what == 0 ? logs.falseOnes(k) : logs.firstFalse(k);
    }

    public int logged(int car, int k) {
        return plan.hasCar(car) ? logs.speedOf(car, k) : NO_SPEED;
    }

    public int image(int box) {
        if (box < 0 || box >= BOXES) {
            return NONE;
        }
        boxes[box].copyFrom(now);
        boxFull[box] = true;
        return now.tick;
    }

    public int back(int box) {
        if (box < 0 || box >= BOXES || !boxFull[box]) {
            return NONE;
        }
        now.copyFrom(boxes[box]);
        return now.tick;
    }

    public int about(int what) {
        switch (what) {
            case 0:
                return plan.ropesTold;
            case 1:
                return plan.cars;
            case 2:
                return plan.marksTold;
            case 3:
                return now.tick;
            case 4:
                return logs.told;
            case 5:
                return logs.time;
            case 6:
                return taped;
            case 7:
                return plan.drag;
            case 8:
                return plan.brake;
            case 9:
                return plan.splices;
            case 10:
                return plan.crosses.told;
            case 11:
                return plan.crosses.units;
            case 12:
                return now.events.kept;
            case 13:
                return now.onTable;
            default:
                return NONE;
        }
    }

    /** A ROPE as it was told. */
    private static final class Rope {
        int speed;
        int length;
        int from;
        int to;
        int bears;
    }

    /** The crosses: where they are, and each e as a row of steps for a stack. */
    private static final class Crosses {
        private static final int MAX_STEPS = 512;
        private static final int ARGUMENT_BITS = 14;
        private static final int ARGUMENT_MASK = 16383;

        int told;
        int units;
        private final int[] numberOn = new int[SEGMENTS];
        private final int[] begin = new int[MAX_CROSSES + 1];
        private final int[] steps = new int[MAX_STEPS];
        private int stepsTold;

        void clear() {
            told = 0;
            units = 0;
            stepsTold = 0;
            Arrays.fill(numberOn, NONE);
            Arrays.fill(begin, 0);
        }

        int numberOn(int segment) {
            return segment >= 0 && segment < SEGMENTS ? numberOn[segment] : NONE;
        }

        void add(int segment) {
            if (Plan.isSegment(segment) && told < MAX_CROSSES) {
                numberOn[segment] = told;
                told++;
                begin[told] = stepsTold;
            }
        }

        void addStep(int op, int argument) {
            if (stepsTold < MAX_STEPS) {
                steps[stepsTold] = (op << ARGUMENT_BITS) | argument;
                stepsTold++;
            }
        }

        int firstStep(int cross) {
            return cross >= 0 && cross < told ? begin[cross] : 0;
        }

        int stepsEnd(int cross) {
            return cross >= 0 && cross < told ? begin[cross + 1] : 0;
        }

        int opOf(int step) {
            return step >= 0 && step < stepsTold ? steps[step] >> ARGUMENT_BITS : OP_NUMBER;
        }

        int argumentOf(int step) {
            return step >= 0 && step < stepsTold ? steps[step] & ARGUMENT_MASK : 0;
        }
    }

    /** A STREET as its text tells it; no TICK changes it. */
    private static final class Plan {
        int ropesTold;
        final Rope[] ropes = new Rope[MAX_ROPES];
        private final int[] ropeOn = new int[SEGMENTS];
        int gradesTold;
        private final int[] grade = new int[SEGMENTS];
        int cars;
        final int[] carAt = new int[MAX_CARS];
        final int[] weighs = new int[MAX_CARS];
        int marksTold;
        private final int[][] marks = new int[MARK_SORTS][SEGMENTS];
        int drag;
        int brake;
        int turn;
        int splices;
        final int[] spliceRope = new int[MAX_SPLICES];
        final int[] spliceAt = new int[MAX_SPLICES];
        final int[] lasts = new int[MAX_SPLICES];
        final Crosses crosses = new Crosses();

        Plan() {
            for (int r = 0; r < MAX_ROPES; r++) {
                ropes[r] = new Rope();
            }
            clear();
        }

        void clear() {
            ropesTold = 0;
            gradesTold = 0;
            cars = 0;
            marksTold = 0;
            splices = 0;
            drag = 1;
            brake = 200;
            turn = 0;
            Arrays.fill(ropeOn, NONE);
            Arrays.fill(grade, 0);
            for (int sort = 0; sort < MARK_SORTS; sort++) {
                Arrays.fill(marks[sort], 0);
            }
            crosses.clear();
        }

        static boolean isSegment(int segment) {
            return segment >= 0 && segment < SEGMENTS;
        }

        boolean hasRope(int rope) {
            return rope >= 0 && rope < ropesTold;
        }

        boolean hasCar(int car) {
            return car >= 0 && car < cars;
        }

        boolean hasSplice(int splice) {
            return splice >= 0 && splice < splices;
        }

        boolean hasPlace(int rope, int place) {
            return hasRope(rope) && place >= 0 && place < 10 * ropes[rope].length;
        }

        int ropeOn(int segment) {
            return segment >= 0 && segment < SEGMENTS ? ropeOn[segment] : NONE;
        }

        void layRope(int rope) {
            if (!hasRope(rope)) {
                return;
            }
            for (int s = ropes[rope].from; s <= ropes[rope].to && s < SEGMENTS; s++) {
                if (s >= 0) {
                    ropeOn[s] = rope;
                }
            }
        }

        int grade(int segment) {
            return segment >= 0 && segment < SEGMENTS ? grade[segment] : 0;
        }

        void layGrade(int from, int to, int value) {
            for (int s = Math.max(from, 0); s <= to && s < SEGMENTS; s++) {
                grade[s] = value;
            }
        }

        /** 0 without; of a stop mark its TICKS, of others 1. */
        int mark(int sort, int segment) {
            return sort >= 0 && sort < MARK_SORTS && isSegment(segment) ? marks[sort][segment] : 0;
        }

        void setMark(int sort, int segment, int value) {
            if (sort >= 0 && sort < MARK_SORTS && isSegment(segment)) {
                marks[sort][segment] = value;
            }
        }

        int pull(int car, int segment) {
            return hasCar(car) ? Math.abs(weighs[car] * grade(segment)) : 0;
        }

        boolean brakesHold(int car, int segment) {
            return pull(car, segment) <= brake;
        }

        int coasted(int v, int segment) {
            int faster = v - grade(segment);
            return faster > 0 ? Math.max(faster - drag, 0) : Math.min(faster + drag, 0);
        }

        int placeAfter(int rope, int place, int tenths) {
            int loop = hasRope(rope) ? 10 * ropes[rope].length : 0;
            return loop > 0 ? (place + tenths) % loop : 0;
        }

        int segmentOfPlace(int rope, int place) {
            if (!hasPlace(rope, place)) {
                return NONE;
            }
            int segment = ropes[rope].from + place / 10;
            return segment <= ropes[rope].to ? segment : NONE;
        }
    }

    /** Splits the tape's bytes into TOKENS, one at a time. */
    private static final class Lexer {
        static final int END = 0;
        static final int NO_TOKEN = 1;
        static final int WORD = 2;
        static final int NUMBER = 3;
        static final int SIGN = 4;
        private static final int LONGEST_WORD = 8;
        private static final int LONGEST_NUMBER = 4;
        private static final String SIGNS = ";-()<>=+*";
        // The words that stand for themselves, in the order of the Reader's numbers for them.
        private static final String WORDS = "rope speed long from to bears grade car at weighs let grip stop for catch drag brake splice on lasts turn cross when or and not tick ahead behind load ";

        private byte[] text = new byte[0];
        private int length;
        private int next;
        int kind;
        int place;
        /** Of a NUMBER its value, of a SIGN its byte. */
        int value;
        /** Of a WORD its number, NONE if it may be a NAME. */
        int word;
        /** Of a WORD its letters, packed. */
        long letters;

        void open(byte[] tape, int bytes) {
            text = tape;
            length = Math.max(0, Math.min(bytes, text.length));
            next = 0;
            advance();
        }

        void advance() {
            while (next < length && (text[next] == ' ' || text[next] == '\n')) {
                next++;
            }
            place = next;
            word = NONE;
            if (next >= length) {
                kind = END;
            } else if (isLetter(next)) {
                readWord();
                word = kind == WORD ? wordNumber(letters) : NONE;
            } else if (isDigit(next)) {
                readNumber();
            } else {
                value = text[next] & 255;
                kind = SIGNS.indexOf((char) value) >= 0 ? SIGN : NO_TOKEN;
                next++;
            }
        }

        private boolean isLetter(int at) {
            return at < length && text[at] >= 'a' && text[at] <= 'z';
        }

        private boolean isDigit(int at) {
            return at < length && text[at] >= '0' && text[at] <= '9';
        }

        private void readWord() {
            letters = 0;
            for (; next < length && isLetter(next); next++) {
                letters = letters * 27 + (text[next] - 'a' + 1);
            }
            kind = next - place <= LONGEST_WORD ? WORD : NO_TOKEN;
        }

        private static int wordNumber(long letters) {
            int number = 0;
            long packed = 0;
            for (int i = 0; i < WORDS.length(); i++) {
                char sign = WORDS.charAt(i);
                if (sign != ' ') {
                    packed = packed * 27 + (sign - 'a' + 1);
                } else if (packed == letters) {
                    return number;
                } else {
                    number++;
                    packed = 0;
                }
            }
            return NONE;
        }

        private void readNumber() {
            value = 0;
            for (; next < length && isDigit(next); next++) {
                value = value * 10 + (text[next] - '0');
            }
            boolean fits = next - place <= LONGEST_NUMBER && !isLetter(next);
            kind = fits ? NUMBER : NO_TOKEN;
        }
    }

    /** Reads a STREET's text into a Plan, as far as its first FAULT; behind one nothing is taken any more. */
    private static final class Reader {
        private static final int NOT_A_TOKEN = 1;
        private static final int MISPLACED = 2;
        private static final int TOLD_ALREADY = 3;
        private static final int BAD_NUMBER = 4;
        private static final int NO_SUCH_ROPE = 5;
        private static final int OTHER_ROPE = 6;

        private static final int ROPE = 0;
        private static final int SPEED = 1;
        private static final int LONG = 2;
        private static final int FROM = 3;
        private static final int TO = 4;
        private static final int BEARS = 5;
        private static final int GRADE = 6;
        private static final int CAR = 7;
        private static final int AT = 8;
        private static final int WEIGHS = 9;
        private static final int LET = 10;
        private static final int GRIP = 11;
        private static final int STOP = 12;
        private static final int FOR = 13;
        private static final int CATCH = 14;
        private static final int DRAG = 15;
        private static final int BRAKE = 16;
        private static final int SPLICE = 17;
        private static final int ON = 18;
        private static final int LASTS = 19;
        private static final int TURN = 20;
        private static final int CROSS = 21;
        private static final int WHEN = 22;
        private static final int OR = 23;
        private static final int AND = 24;
        private static final int NOT = 25;
        private static final int TICK = 26;
        private static final int AHEAD = 27;
        private static final int BEHIND = 28;
        private static final int LOAD = 29;

        private final Lexer lexer = new Lexer();
        private Plan plan;
        private final long[] ropeNames = new long[MAX_ROPES];
        private final long[] carNames = new long[MAX_CARS];
        private final long[] spliceNames = new long[MAX_SPLICES];
        private boolean dragTold;
        private boolean brakeTold;
        private boolean turnTold;
        int fault = 0;
        int faultPlace = NONE;

        void open(Plan target, byte[] tape, int bytes) {
            plan = target;
            plan.clear();
            dragTold = false;
            brakeTold = false;
            turnTold = false;
            fault = 0;
            faultPlace = NONE;
            lexer.open(tape, bytes);
        }

        boolean hasLine() {
            return fault == 0 && lexer.kind != Lexer.END;
        }

        private void wrong(int sort, int place) {
            if (fault == 0) {
                fault = sort;
                faultPlace = place;
            }
        }

        private void wrongHere(int sort) {
            wrong(lexer.kind == Lexer.NO_TOKEN ? NOT_A_TOKEN : sort, lexer.place);
        }

        void readLine() {
            int sort = lexer.word;
            if (!mayBegin(sort)) {
                wrongHere(MISPLACED);
                return;
            }
            lexer.advance();
            switch (sort) {
                case ROPE:
                    readRope();
                    break;
                case GRADE:
                    readGrade();
                    break;
                case CAR:
                    readCar();
                    break;
                case SPLICE:
                    readSplice();
                    break;
                case CROSS:
                    readCross();
                    break;
                case LET:
                    readMark(LET_MARK);
                    break;
                case GRIP:
                    readMark(GRIP_MARK);
                    break;
                case STOP:
                    readMark(STOP_MARK);
                    break;
                case CATCH:
                    readMark(CATCH_MARK);
                    break;
                default:
                    readSetting(sort);
                    break;
            }
            takeSign(';');
        }

        /** No line begins with another word, nor with one of a sort of which there are enough. */
        private boolean mayBegin(int sort) {
            switch (sort) {
                case ROPE:
                    return plan.ropesTold < MAX_ROPES;
                case GRADE:
                    return plan.gradesTold < MAX_GRADES;
                case CAR:
                    return plan.cars < MAX_CARS;
                case LET:
                case GRIP:
                case STOP:
                case CATCH:
                    return plan.marksTold < MAX_MARKS;
                case DRAG:
                    return !dragTold;
                case BRAKE:
                    return !brakeTold;
                case TURN:
                    return !turnTold;
                case SPLICE:
                    return plan.splices < MAX_SPLICES;
                case CROSS:
                    return plan.crosses.told < MAX_CROSSES;
                default:
                    return false;
            }
        }

        private void readRope() {
            int number = plan.ropesTold;
            if (number >= MAX_ROPES) {
                return;
            }
            Rope rope = plan.ropes[number];
            takeNewName(ropeNames, number);
            rope.speed = takeAfter(SPEED, 1, 30);
            rope.length = takeAfter(LONG, 10, 200);
            rope.from = takeAfter(FROM, 0, SEGMENTS - 1);
            takeWord(TO);
            rope.to = number(rope.from, Math.min(SEGMENTS, rope.from + rope.length) - 1);
            for (int s = rope.from; fault == 0 && s <= rope.to; s++) {
                if (plan.ropeOn(s) != NONE) {
                    wrongHere(OTHER_ROPE);
                }
            }
            goOn();
            rope.bears = takeAfter(BEARS, 1, 9999);
            if (fault == 0) {
                plan.ropesTold++;
                plan.layRope(number);
            }
        }

        private void readGrade() {
            int from = takeNumber(0, SEGMENTS - 1);
            int to = takeAfter(TO, from, SEGMENTS - 1);
            int place = lexer.place;
            boolean down = skipSign('-');
            int steep = number(0, 9999);
            if (fault == 0 && steep > 9) {
                wrong(BAD_NUMBER, place);
            }
            goOn();
            if (fault == 0) {
                plan.layGrade(from, to, down ? -steep : steep);
                plan.gradesTold++;
            }
        }

        private void readCar() {
            int number = plan.cars;
            takeNewName(carNames, number);
            int at = takeAfter(AT, 0, SEGMENTS - 1);
            int weight = takeAfter(WEIGHS, 1, 99);
            if (fault == 0 && number < MAX_CARS) {
                plan.carAt[number] = at;
                plan.weighs[number] = weight;
                plan.cars++;
            }
        }

        private void readSplice() {
            int number = plan.splices;
            takeNewName(spliceNames, number);
            takeWord(ON);
            int rope = takeRopeName();
            int loop = plan.hasRope(rope) ? 10 * plan.ropes[rope].length : 0;
            int at = takeAfter(AT, 0, loop - 1);
            int lasting = takeAfter(LASTS, 1, 9999);
            if (fault == 0 && number < MAX_SPLICES) {
                plan.spliceRope[number] = rope;
                plan.spliceAt[number] = at;
                plan.lasts[number] = lasting;
                plan.splices++;
            }
        }

        private void readMark(int sort) {
            int segment = number(0, SEGMENTS - 1);
            if (fault == 0 && plan.mark(sort, segment) != 0) {
                wrongHere(TOLD_ALREADY);
            }
            goOn();
            int value = sort == STOP_MARK ? takeAfter(FOR, 1, 99) : 1;
            if (fault == 0) {
                plan.setMark(sort, segment, value);
                plan.marksTold++;
            }
        }

        private void readSetting(int sort) {
            if (sort == DRAG) {
                plan.drag = takeNumber(0, 9);
                dragTold = true;
            } else if (sort == BRAKE) {
                plan.brake = takeNumber(1, 9999);
                brakeTold = true;
            } else {
                plan.turn = takeNumber(1, 99);
                turnTold = true;
            }
        }

        private void readCross() {
            int segment = number(0, SEGMENTS - 1);
            if (fault == 0 && plan.crosses.numberOn(segment) != NONE) {
                wrongHere(TOLD_ALREADY);
            }
            goOn();
            takeWord(WHEN);
            readEither(0);
            if (fault == 0) {
                plan.crosses.add(segment);
            }
        }

        private void readEither(int within) {
            readBoth(within);
            for (int k = 0; k < MAX_TEXT && skipWord(OR); k++) {
                readBoth(within);
                plan.crosses.addStep(OP_OR, 0);
            }
        }

        private void readBoth(int within) {
            readOne(within);
            for (int k = 0; k < MAX_TEXT && skipWord(AND); k++) {
                readOne(within);
                plan.crosses.addStep(OP_AND, 0);
            }
        }

        private void readOne(int within) {
            if (within > MAX_WITHIN && isWord(NOT)) {
                wrongHere(MISPLACED);
            } else if (skipWord(NOT)) {
                readOne(within + 1);
                plan.crosses.addStep(OP_NOT, 0);
            } else {
                readRelation(within);
            }
        }

        private void readRelation(int within) {
            readSum(within);
            int op = relationHere();
            if (op != NONE) {
                lexer.advance();
                readSum(within);
                plan.crosses.addStep(op, 0);
            }
        }

        private int relationHere() {
            if (isSign('<')) {
                return OP_LESS;
            }
            if (isSign('>')) {
                return OP_MORE;
            }
            return isSign('=') ? OP_SAME : NONE;
        }

        private void readSum(int within) {
            readTerm(within);
            for (int k = 0; k < MAX_TEXT; k++) {
                boolean plus = skipSign('+');
                if (!plus && !skipSign('-')) {
                    return;
                }
                readTerm(within);
                plan.crosses.addStep(plus ? OP_PLUS : OP_MINUS, 0);
            }
        }

        private void readTerm(int within) {
            readUnit(within);
            for (int k = 0; k < MAX_TEXT && skipSign('*'); k++) {
                readUnit(within);
                plan.crosses.addStep(OP_TIMES, 0);
            }
        }

        private void readUnit(int within) {
            if (fault != 0) {
                return;
            }
            if (plan.crosses.units >= MAX_UNITS || (isSign('(') && within > MAX_WITHIN)) {
                wrongHere(MISPLACED);
                return;
            }
            plan.crosses.units++;
            if (skipSign('(')) {
                readEither(within + 1);
                takeSign(')');
            } else if (lexer.kind == Lexer.NUMBER) {
                plan.crosses.addStep(OP_NUMBER, lexer.value);
                lexer.advance();
            } else if (skipWord(LOAD)) {
                int rope = takeNumber(0, plan.ropesTold - 1);
                plan.crosses.addStep(OP_LOAD, Math.max(rope, 0));
            } else {
                readValueWord();
            }
        }

        private void readValueWord() {
            switch (lexer.word) {
                case CAR:
                    plan.crosses.addStep(OP_CAR, 0);
                    break;
                case SPEED:
                    plan.crosses.addStep(OP_SPEED, 0);
                    break;
                case WEIGHS:
                    plan.crosses.addStep(OP_WEIGHS, 0);
                    break;
                case TICK:
                    plan.crosses.addStep(OP_TICK, 0);
                    break;
                case AHEAD:
                    plan.crosses.addStep(OP_AHEAD, 0);
                    break;
                case BEHIND:
                    plan.crosses.addStep(OP_BEHIND, 0);
                    break;
                default:
                    wrongHere(MISPLACED);
                    return;
            }
            lexer.advance();
        }

        private boolean isWord(int word) {
            return fault == 0 && lexer.word == word;
        }

        private boolean skipWord(int word) {
            if (!isWord(word)) {
                return false;
            }
            lexer.advance();
            return true;
        }

        private void takeWord(int word) {
            if (isWord(word)) {
                lexer.advance();
            } else {
                wrongHere(MISPLACED);
            }
        }

        private boolean isSign(char sign) {
            return fault == 0 && lexer.kind == Lexer.SIGN && lexer.value == sign;
        }

        private boolean skipSign(char sign) {
            if (!isSign(sign)) {
                return false;
            }
            lexer.advance();
            return true;
        }

        private void takeSign(char sign) {
            if (isSign(sign)) {
                lexer.advance();
            } else {
                wrongHere(MISPLACED);
            }
        }

        /** The number that stands here, which is not gone past yet. */
        private int number(int least, int most) {
            if (fault != 0) {
                return NONE;
            }
            if (lexer.kind != Lexer.NUMBER) {
                wrongHere(MISPLACED);
                return NONE;
            }
            if (lexer.value < least || lexer.value > most) {
                wrongHere(BAD_NUMBER);
                return NONE;
            }
            return lexer.value;
        }

        private void goOn() {
            if (fault == 0) {
                lexer.advance();
            }
        }

        private int takeNumber(int least, int most) {
            int value = number(least, most);
            if (fault == 0) {
                lexer.advance();
            }
            return value;
        }

        private int takeAfter(int word, int least, int most) {
            takeWord(word);
            return takeNumber(least, most);
        }

        private boolean isName() {
            return fault == 0 && lexer.kind == Lexer.WORD && lexer.word == NONE;
        }

        private void takeNewName(long[] names, int told) {
            if (!isName() || told >= names.length) {
                wrongHere(MISPLACED);
                return;
            }
            if (indexOfName(names, told) != NONE) {
                wrongHere(TOLD_ALREADY);
                return;
            }
            names[told] = lexer.letters;
            lexer.advance();
        }

        private int takeRopeName() {
            if (!isName()) {
                wrongHere(MISPLACED);
                return NONE;
            }
            int rope = indexOfName(ropeNames, plan.ropesTold);
            if (rope == NONE) {
                wrongHere(NO_SUCH_ROPE);
                return NONE;
            }
            lexer.advance();
            return rope;
        }

        private int indexOfName(long[] names, int told) {
            for (int i = 0; i < told && i < names.length; i++) {
                if (names[i] == lexer.letters) {
                    return i;
                }
            }
            return NONE;
        }
    }

    /** A CAR as it stands. */
    private static final class Car {
        int x;
        int v;
        int mode;
        int waits;
        boolean caught;
        boolean entered;
        int gripped;
        int doneAt;
        int trips;
        int caughtEvent;
        int heldEvent;

        void begin(int segment) {
            x = 10 * segment + 5;
            v = 0;
            mode = GRIPS;
            waits = 0;
            caught = false;
            entered = true;
            gripped = NONE;
            doneAt = 0;
            trips = 0;
            caughtEvent = NONE;
            heldEvent = NONE;
        }

        void copyFrom(Car other) {
            x = other.x;
            v = other.v;
            mode = other.mode;
            waits = other.waits;
            caught = other.caught;
            entered = other.entered;
            gripped = other.gripped;
            doneAt = other.doneAt;
            trips = other.trips;
            caughtEvent = other.caughtEvent;
            heldEvent = other.heldEvent;
        }

        int segment() {
            return x / 10;
        }

        void waitFor(int ticks) {
            mode = WAITS;
            waits = ticks;
            v = 0;
        }

        void waitLonger(int ticks) {
            waitFor(mode == WAITS ? waits + ticks : ticks);
        }

        void letGo() {
            mode = OFF;
            caught = false;
        }
    }

    /** What happened: the counts, and the EVENTS that are kept. */
    private static final class Events {
        final int[] counts = new int[COUNTS];
        private final int[] cells = new int[MAX_EVENTS * EVENT_CELLS];
        int kept;

        void clear() {
            kept = 0;
            Arrays.fill(counts, 0);
        }

        void copyFrom(Events other) {
            kept = other.kept;
            System.arraycopy(other.counts, 0, counts, 0, COUNTS);
            System.arraycopy(other.cells, 0, cells, 0, cells.length);
        }

        /** Its number, NONE if it is not kept. */
        int keep(int tick, int sort, int car, int rope, int cause) {
            if (kept >= MAX_EVENTS) {
                return NONE;
            }
            int first = kept * EVENT_CELLS;
            cells[first] = tick;
            cells[first + 1] = sort;
            cells[first + 2] = car;
            cells[first + 3] = rope;
            cells[first + 4] = cause;
            kept++;
            return kept - 1;
        }

        int cell(int i, int what) {
            if (i < 0 || i >= kept || what < 0 || what >= EVENT_CELLS) {
                return NONE;
            }
            return cells[i * EVENT_CELLS + what];
        }
    }

    /** All that TICKS change. */
    private static final class State {
        int tick;
        final Car[] cars = new Car[MAX_CARS];
        final boolean[] cut = new boolean[MAX_ROPES];
        int strandRope;
        int strandPlace;
        /** The CAR that the STRAND caught last. */
        int strandTook;
        final int[] splicePlace = new int[MAX_SPLICES];
        final int[] wear = new int[MAX_SPLICES];
        int onTable;
        int tableTicks;
        final Events events = new Events();

        State() {
            for (int c = 0; c < MAX_CARS; c++) {
                cars[c] = new Car();
            }
        }

        void begin(Plan plan) {
            tick = 0;
            strandRope = NONE;
            strandPlace = 0;
            strandTook = NONE;
            onTable = NONE;
            tableTicks = 0;
            for (int c = 0; c < MAX_CARS; c++) {
                cars[c].begin(plan.carAt[c]);
            }
            for (int r = 0; r < MAX_ROPES; r++) {
                cut[r] = false;
            }
            System.arraycopy(plan.spliceAt, 0, splicePlace, 0, MAX_SPLICES);
            Arrays.fill(wear, 0);
            events.clear();
        }

        void copyFrom(State other) {
            tick = other.tick;
            strandRope = other.strandRope;
            strandPlace = other.strandPlace;
            strandTook = other.strandTook;
            onTable = other.onTable;
            tableTicks = other.tableTicks;
            for (int c = 0; c < MAX_CARS; c++) {
                cars[c].copyFrom(other.cars[c]);
            }
            System.arraycopy(other.cut, 0, cut, 0, MAX_ROPES);
            System.arraycopy(other.splicePlace, 0, splicePlace, 0, MAX_SPLICES);
            System.arraycopy(other.wear, 0, wear, 0, MAX_SPLICES);
            events.copyFrom(other.events);
        }

        int notDone(Plan plan) {
            int number = 0;
            for (int c = 0; c < plan.cars; c++) {
                if (cars[c].mode != DONE) {
                    number++;
                }
            }
            return number;
        }

        int load(Plan plan, int rope) {
            int sum = 0;
            for (int c = 0; c < plan.cars; c++) {
                if (cars[c].mode == GRIPS) {
                    int segment = cars[c].segment();
                    sum += plan.ropeOn(segment) == rope ? plan.weighs[c] * (10 + plan.grade(segment)) : 0;
                }
            }
            return Math.max(sum, 0);
        }

        boolean dips(Plan plan, int rope) {
            return plan.hasRope(rope) && !cut[rope] && load(plan, rope) > plan.ropes[rope].bears;
        }
    }

    /** Does one TICK of a State. */
    private static final class Machine {
        private Plan plan;
        private State state;
        private final int[] ropeSpeed = new int[MAX_ROPES];
        private final int[] stack = new int[MAX_UNITS + 1];

        void tick(Plan ofPlan, State ofState) {
            plan = ofPlan;
            state = ofState;
            state.tick++;
            dipRopes();
            moveStrand();
            wearSplices();
            for (int c = 0; c < plan.cars; c++) {
                Car car = state.cars[c];
                if (car.mode != DONE) {
                    obeyMarks(car);
                    if (car.mode == WAITS) {
                        waitOn(c, car);
                    } else if (car.mode == GRIPS) {
                        ride(c, car);
                    }
                    if (car.mode == OFF) {
                        car.v = plan.coasted(car.v, car.segment());
                    }
                    step(c, car);
                }
            }
            countBumps();
            if (plan.turn > 0) {
                turnTable();
            }
        }

        private int note(int sort, int car, int rope, int cause) {
            return state.events.keep(state.tick, sort, car, rope, cause);
        }

        private void dipRopes() {
            for (int r = 0; r < plan.ropesTold; r++) {
                ropeSpeed[r] = plan.ropes[r].speed;
                if (state.dips(plan, r)) {
                    ropeSpeed[r] /= 2;
                    state.events.counts[DIPS]++;
                    note(DIP_EVENT, NONE, r, NONE);
                }
            }
        }

        private void moveStrand() {
            int rope = state.strandRope;
            if (!plan.hasRope(rope) || state.cut[rope]) {
                return;
            }
            state.strandPlace = plan.placeAfter(rope, state.strandPlace, ropeSpeed[rope]);
            int segment = plan.segmentOfPlace(rope, state.strandPlace);
            for (int c = 0; c < plan.cars && state.strandRope != NONE; c++) {
                Car car = state.cars[c];
                if (car.mode == GRIPS && car.segment() == segment) {
                    state.strandRope = NONE;
                    state.strandTook = c;
                    car.caught = true;
                    car.caughtEvent = note(CAUGHT_EVENT, c, rope, NONE);
                }
            }
        }

        private void wearSplices() {
            for (int s = 0; s < plan.splices; s++) {
                int rope = plan.spliceRope[s];
                if (plan.hasRope(rope) && !state.cut[rope]) {
                    state.splicePlace[s] = plan.placeAfter(rope, state.splicePlace[s], ropeSpeed[rope]);
                    state.wear[s] += gripsOn(plan.segmentOfPlace(rope, state.splicePlace[s]));
                    if (state.wear[s] >= plan.lasts[s]) {
                        cutRope(rope, NONE, note(WORN_EVENT, NONE, rope, NONE));
                    }
                }
            }
        }

        private int gripsOn(int segment) {
            int number = 0;
            for (int c = 0; c < plan.cars; c++) {
                if (state.cars[c].mode == GRIPS && state.cars[c].segment() == segment) {
                    number++;
                }
            }
            return number;
        }

        private void cutRope(int rope, int car, int cause) {
            if (plan.hasRope(rope) && !state.cut[rope]) {
                state.cut[rope] = true;
                state.events.counts[CUTS]++;
                note(CUT_EVENT, car, rope, cause);
            }
        }

        private void obeyMarks(Car car) {
            if (!car.entered) {
                return;
            }
            int segment = car.segment();
            int stop = plan.mark(STOP_MARK, segment);
            if (stop != 0 && !car.caught) {
                car.waitFor(stop);
            } else if (plan.mark(LET_MARK, segment) != 0 && car.mode == GRIPS && !car.caught) {
                car.mode = OFF;
            } else if (plan.mark(GRIP_MARK, segment) != 0 && car.mode == OFF) {
                car.mode = GRIPS;
            }
        }

        private void waitOn(int number, Car car) {
            if (!plan.brakesHold(number, car.segment())) {
                car.mode = OFF;
                state.events.counts[ROLLED]++;
                note(ROLLS_EVENT, number, NONE, car.heldEvent);
                return;
            }
            car.v = 0;
            car.waits--;
            if (car.waits <= 0) {
                car.mode = GRIPS;
            }
        }

        private void ride(int number, Car car) {
            int rope = plan.ropeOn(car.segment());
            if (!plan.hasRope(rope)) {
                missGrip(number, car);
            } else if (state.cut[rope]) {
                car.letGo();
            } else {
                car.gripped = rope;
                car.v = Math.min(car.v + 2, ropeSpeed[rope]);
            }
        }

        private void missGrip(int number, Car car) {
            state.events.counts[MISSES]++;
            int miss = note(MISS_EVENT, number, NONE, car.caughtEvent);
            if (plan.mark(CATCH_MARK, car.segment()) != 0) {
                state.events.counts[SAVED]++;
                note(SAVED_EVENT, number, NONE, miss);
            } else {
                cutRope(car.gripped, number, miss);
            }
            car.letGo();
        }

        private void step(int number, Car car) {
            int from = car.segment();
            int x = car.x + car.v;
            boolean crosses = x >= 0 && x / 10 != from && !car.caught;
            int cross = crosses ? plan.crosses.numberOn(x / 10) : NONE;
            if (cross != NONE && valueOf(cross, number, state.tick) == 0) {
                car.waitFor(1);
                state.events.counts[HELD_BACK]++;
                car.heldEvent = note(HELD_EVENT, number, NONE, NONE);
            } else if (x < 0) {
                car.x = 0;
                car.v = 0;
            } else if (x >= STREET_END) {
                car.mode = DONE;
                car.x = STREET_END - 1;
                car.v = 0;
                car.doneAt = state.tick;
            } else {
                car.x = x;
            }
            car.entered = car.segment() != from;
        }

        private void countBumps() {
            for (int a = 0; a < plan.cars; a++) {
                for (int b = a + 1; b < plan.cars; b++) {
                    Car one = state.cars[a];
                    Car other = state.cars[b];
                    if (one.mode != DONE && other.mode != DONE && Math.abs(one.x - other.x) <= BUMP) {
                        state.events.counts[BUMPS]++;
                    }
                }
            }
        }

        private void turnTable() {
            if (plan.hasCar(state.onTable)) {
                state.tableTicks--;
                if (state.tableTicks <= 0) {
                    bringBack(state.onTable);
                    state.onTable = NONE;
                }
            }
            if (state.onTable == NONE) {
                state.onTable = longestDone();
                state.tableTicks = plan.turn;
            }
        }

        private void bringBack(int number) {
            Car car = state.cars[number];
            car.x = 0;
            car.v = 0;
            car.mode = GRIPS;
            car.gripped = NONE;
            car.caught = false;
            car.entered = true;
            car.trips++;
            state.events.counts[CAME_BACK]++;
            note(BACK_EVENT, number, NONE, NONE);
        }

        private int longestDone() {
            int first = NONE;
            for (int c = 0; c < plan.cars; c++) {
                Car car = state.cars[c];
                if (car.mode == DONE && (first == NONE || car.doneAt < state.cars[first].doneAt)) {
                    first = c;
                }
            }
            return first;
        }

        int ask(Plan ofPlan, State ofState, int cross, int number) {
            plan = ofPlan;
            state = ofState;
            return valueOf(cross, number, state.tick + 1);
        }

        private int valueOf(int cross, int number, int tick) {
            Crosses crosses = plan.crosses;
            int end = crosses.stepsEnd(cross);
            int top = 0;
            for (int i = crosses.firstStep(cross); i < end; i++) {
                int op = crosses.opOf(i);
                if (op < OP_NOT && top < stack.length) {
                    int argument = crosses.argumentOf(i);
                    stack[top] = op == OP_TICK ? tick : unitValue(op, argument, number);
                    top++;
                } else if (op == OP_NOT && top >= 1) {
                    stack[top - 1] = stack[top - 1] == 0 ? 1 : 0;
                } else if (op > OP_NOT && top >= 2) {
                    top--;
                    stack[top - 1] = joined(op, stack[top - 1], stack[top]);
                }
            }
            return top > 0 ? stack[top - 1] : 0;
        }

        private int unitValue(int op, int argument, int number) {
            if (!plan.hasCar(number)) {
                return 0;
            }
            switch (op) {
                case OP_NUMBER:
                    return argument;
                case OP_CAR:
                    return number;
                case OP_SPEED:
                    return state.cars[number].v;
                case OP_WEIGHS:
                    return plan.weighs[number];
                case OP_AHEAD:
                    return tenthsToNearest(number, 1);
                case OP_BEHIND:
                    return tenthsToNearest(number, -1);
                case OP_LOAD:
                    return state.load(plan, argument);
                default:
                    return 0;
            }
        }

        /** Towards 1 (ahead) or -1 (behind). */
        private int tenthsToNearest(int number, int towards) {
            int own = state.cars[number].x;
            int nearest = NO_CAR_NEAR;
            for (int c = 0; c < plan.cars; c++) {
                int apart = (state.cars[c].x - own) * towards;
                if (state.cars[c].mode != DONE && apart > 0 && apart < nearest) {
                    nearest = apart;
                }
            }
            return nearest;
        }

        private static int joined(int op, int a, int b) {
            switch (op) {
                case OP_OR:
                    return a != 0 || b != 0 ? 1 : 0;
                case OP_AND:
                    return a != 0 && b != 0 ? 1 : 0;
                case OP_LESS:
                    return a < b ? 1 : 0;
                case OP_MORE:
                    return a > b ? 1 : 0;
                case OP_SAME:
                    return a == b ? 1 : 0;
                case OP_PLUS:
                    return a + b;
                case OP_MINUS:
                    return a - b;
                default:
                    return a * b;
            }
        }
    }

    /** WHAT COMES: TICKS are tried on a copy, so that what there is stays as it was. */
    private static final class Forecast {
        private final Machine machine = new Machine();
        private final State trial = new State();
        int coastSegment;
        boolean coastMeetsRope;
        int coastTicks;
        int powerSum;
        int powerPeak;

        void followCoast(Plan plan, int segment, int v) {
            int x = 10 * segment;
            int speed = v;
            for (int t = 1; t <= HORIZON; t++) {
                speed = plan.coasted(speed, x / 10);
                x += speed;
                boolean left = x < 0 || x >= STREET_END;
                coastTicks = t;
                coastSegment = left ? NONE : x / 10;
                coastMeetsRope = plan.ropeOn(coastSegment) != NONE;
                if (left || coastMeetsRope || speed == 0 || Integer.signum(speed) != Integer.signum(v)) {
                    return;
                }
            }
        }

        int leastSpeedToRope(Plan plan, int segment) {
            for (int v = 1; v <= MAX_COAST; v++) {
                followCoast(plan, segment, v);
                if (coastMeetsRope) {
                    return v;
                }
            }
            return NONE;
        }

        int topSpeed(Plan plan, int segment) {
            int x = 10 * segment + 5;
            int v = 0;
            int most = 0;
            for (int t = 0; t < HORIZON; t++) {
                v = plan.coasted(v, x / 10);
                most = Math.max(most, Math.abs(v));
                x += v;
                if (v == 0 || x < 0 || x >= STREET_END) {
                    return most;
                }
            }
            return most;
        }

        int carOfStrand(Plan plan, State now) {
            int rope = now.strandRope;
            trial.copyFrom(now);
            for (int t = 0; t < HORIZON && plan.hasRope(rope) && !trial.cut[rope]; t++) {
                machine.tick(plan, trial);
                if (trial.strandRope == NONE) {
                    return trial.strandTook;
                }
            }
            return NONE;
        }

        int ticksTillWorn(Plan plan, State now, int splice) {
            int rope = plan.hasSplice(splice) ? plan.spliceRope[splice] : NONE;
            trial.copyFrom(now);
            for (int t = 1; t <= HORIZON && plan.hasRope(rope) && !trial.cut[rope]; t++) {
                machine.tick(plan, trial);
                if (trial.wear[splice] >= plan.lasts[splice]) {
                    return t;
                }
            }
            return NONE;
        }

        /** HEAD of n, if the CAR (or NONE) WAITS so many TICKS more at first. */
        int leastGapIfWaits(Plan plan, State now, int car, int wait, int n) {
            trial.copyFrom(now);
            if (wait > 0 && plan.hasCar(car)) {
                trial.cars[car].waitLonger(wait);
            }
            int least = NONE;
            for (int t = 0; t < n && least != 0; t++) {
                machine.tick(plan, trial);
                int gap = gapNow(plan);
                if (gap != NONE && (least == NONE || gap < least)) {
                    least = gap;
                }
            }
            return least;
        }

        private int gapNow(Plan plan) {
            int least = NONE;
            for (int a = 0; a < plan.cars; a++) {
                for (int b = a + 1; b < plan.cars; b++) {
                    if (trial.cars[a].mode != DONE && trial.cars[b].mode != DONE) {
                        int gap = Math.abs(trial.cars[a].x - trial.cars[b].x);
                        least = least == NONE ? gap : Math.min(least, gap);
                    }
                }
            }
            return least;
        }

        void drawPower(Plan plan, State now, int n) {
            trial.copyFrom(now);
            powerSum = 0;
            powerPeak = 0;
            for (int t = 0; t < n; t++) {
                int loads = 0;
                for (int r = 0; r < plan.ropesTold; r++) {
                    loads += trial.cut[r] ? 0 : trial.load(plan, r);
                }
                powerSum += loads;
                powerPeak = Math.max(powerPeak, loads);
                machine.tick(plan, trial);
            }
        }

        void drawTimetable(Plan plan, int[] table) {
            trial.begin(plan);
            for (int t = 0; t < LOG_TICKS; t++) {
                machine.tick(plan, trial);
                for (int c = 0; c < plan.cars; c++) {
                    int cell = t * MAX_CARS + c;
                    if (cell < table.length) {
                        table[cell] = trial.cars[c].segment();
                    }
                }
            }
        }
    }

    /** The gripmen's LOGS, and the TIME. */
    private static final class Logs {
        int time = 0;
        int told = 0;
        private final int[] car = new int[MAX_LOGS];
        private final int[] tick = new int[MAX_LOGS];
        private final int[] segment = new int[MAX_LOGS];
        private final int[] toldAt = new int[MAX_LOGS];
        private final int[] untoldAt = new int[MAX_LOGS];
        /** By the text alone: at the end of each TICK, of each CAR, its SEGMENT. */
        final int[] timetable = new int[LOG_TICKS * MAX_CARS];
        boolean timetableDrawn = false;

        void forget() {
            told = 0;
            timetableDrawn = false;
        }

        int tell(int ofCar, int atTick, int onSegment) {
            if (told >= MAX_LOGS) {
                return NONE;
            }
            car[told] = ofCar;
            tick[told] = atTick;
            segment[told] = onSegment;
            toldAt[told] = time;
            untoldAt[told] = NONE;
            told++;
            return told - 1;
        }

        boolean takeBack(int log) {
            if (log < 0 || log >= told || untoldAt[log] != NONE) {
                return false;
            }
            untoldAt[log] = time;
            return true;
        }

        private boolean counts(int log, int k) {
            return toldAt[log] <= k && (untoldAt[log] == NONE || untoldAt[log] > k);
        }

        private boolean isFalse(int log) {
            int cell = (tick[log] - 1) * MAX_CARS + car[log];
            return cell >= 0 && cell < timetable.length && timetable[cell] != segment[log];
        }

        int falseOnes(int k) {
            int number = 0;
            for (int i = 0; i < told; i++) {
                if (counts(i, k) && isFalse(i)) {
                    number++;
                }
            }
            return number;
        }

        int firstFalse(int k) {
            for (int i = 0; i < told; i++) {
                if (counts(i, k) && isFalse(i)) {
                    return i;
                }
            }
            return NONE;
        }

        int speedOf(int ofCar, int k) {
            int latest = latestBelow(ofCar, k, LOG_TICKS + 1);
            int earlier = latest == NONE ? NONE : latestBelow(ofCar, k, tick[latest]);
            if (earlier == NONE || tick[latest] <= tick[earlier]) {
                return NO_SPEED;
            }
            return (segment[latest] - segment[earlier]) * 10 / (tick[latest] - tick[earlier]);
        }

        /** Of the LOGS that count of the CAR's latest TICK below the bound, the one TOLD last. */
        private int latestBelow(int ofCar, int k, int bound) {
            int latest = NONE;
            for (int i = 0; i < told; i++) {
                boolean fits = counts(i, k) && car[i] == ofCar && tick[i] < bound;
                if (fits && (latest == NONE || tick[i] >= tick[latest])) {
                    latest = i;
                }
            }
            return latest;
        }
    }
}
