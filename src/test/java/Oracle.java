import java.util.ArrayList;
import java.util.HashMap;
import java.util.HashSet;
import java.util.List;
import java.util.Map;
import java.util.Set;

/**
 * The document once more, written as plainly as can be and apart from the class: lists, closures, exceptions,
 * copies. OracleTest asks both the same things.
 */
final class Oracle {
    static final int NONE = -1;

    private static final class Fault extends RuntimeException {
        private static final long serialVersionUID = 1L;
        final int kind;
        final int place;

        Fault(int kind, int place) {
            super("fault", null, false, false);
            this.kind = kind;
            this.place = place;
        }
    }

    private interface Expr {
        int of(World w, int car, int tick);
    }

    private record Token(String text, int place) {
        boolean isNumber() {
            return !text.isEmpty() && Character.isDigit(text.charAt(0));
        }

        boolean isWord() {
            return !text.isEmpty() && Character.isLetter(text.charAt(0));
        }
    }

    private record Rope(String name, int speed, int length, int from, int to, int bears) {
    }

    private record CarTold(String name, int at, int weighs) {
    }

    private record Splice(String name, int rope, int at, int lasts) {
    }

    private static final Set<String> WORDS = Set.of("rope", "speed", "long", "from", "to", "bears", "grade", "car",
            "at", "weighs", "let", "grip", "stop", "for", "catch", "drag", "brake", "splice", "on", "lasts", "turn",
            "cross", "when", "or", "and", "not", "tick", "ahead", "behind", "load");

    private static final class Street {
        int lines = 0;
        final List<Rope> ropes = new ArrayList<>();
        int grades = 0;
        final int[] grade = new int[60];
        final List<CarTold> cars = new ArrayList<>();
        final Map<String, Integer> marks = new HashMap<>();
        Integer drag = null;
        Integer brake = null;
        Integer turn = null;
        final List<Splice> splices = new ArrayList<>();
        final Map<Integer, Expr> crosses = new HashMap<>();
        int units = 0;

        int drag() {
            return drag == null ? 1 : drag;
        }

        int brake() {
            return brake == null ? 200 : brake;
        }

        int ropeOn(int segment) {
            for (int r = 0; r < ropes.size(); r++) {
                if (ropes.get(r).from() <= segment && segment <= ropes.get(r).to()) {
                    return r;
                }
            }
            return NONE;
        }

        int segmentOf(int rope, int place) {
            int s = ropes.get(rope).from() + place / 10;
            return s > ropes.get(rope).to() ? NONE : s;
        }

        boolean holds(int car, int segment) {
            return Math.abs(cars.get(car).weighs() * grade[segment]) <= brake();
        }

        int off(int v, int segment) {
            int w = v - grade[segment];
            int sign = Integer.signum(w);
            return sign * Math.max(0, Math.abs(w) - drag());
        }
    }

    private static final class Parser {
        final byte[] text;
        int at = 0;
        final Street street = new Street();

        Parser(byte[] text) {
            this.text = text;
        }

        static boolean letter(int c) {
            return 'a' <= c && c <= 'z';
        }

        static boolean digit(int c) {
            return '0' <= c && c <= '9';
        }

        int begin() {
            int p = at;
            while (p < text.length && (text[p] == 32 || text[p] == 10)) {
                p++;
            }
            return p;
        }

        Token peek() {
            int p = begin();
            if (p == text.length) {
                return new Token("", p);
            }
            int q = p;
            if (letter(text[p])) {
                while (q < text.length && letter(text[q])) {
                    q++;
                }
                if (q - p > 8) {
                    throw new Fault(1, p);
                }
            } else if (digit(text[p])) {
                while (q < text.length && digit(text[q])) {
                    q++;
                }
                if (q - p > 4 || (q < text.length && letter(text[q]))) {
                    throw new Fault(1, p);
                }
            } else if (text[p] > 0 && ";-()<>=+*".indexOf(text[p]) >= 0) {
                q++;
            } else {
                throw new Fault(1, p);
            }
            StringBuilder b = new StringBuilder();
            for (int i = p; i < q; i++) {
                b.append((char) text[i]);
            }
            return new Token(b.toString(), p);
        }

        Token take() {
            Token t = peek();
            at = t.place() + t.text().length();
            return t;
        }

        boolean eat(String s) {
            Token t = peek();
            if (t.text().equals(s)) {
                take();
                return true;
            }
            return false;
        }

        void must(String s) {
            Token t = peek();
            if (!eat(s)) {
                throw new Fault(2, t.place());
            }
        }

        int n(int least, int most) {
            Token t = take();
            if (!t.isNumber()) {
                throw new Fault(2, t.place());
            }
            int v = Integer.parseInt(t.text());
            if (v < least || v > most) {
                throw new Fault(4, t.place());
            }
            return v;
        }

        String name() {
            Token t = take();
            if (!t.isWord() || WORDS.contains(t.text())) {
                throw new Fault(2, t.place());
            }
            return t.text();
        }

        Street read() {
            while (!peek().text().isEmpty()) {
                line();
                must(";");
                street.lines++;
            }
            return street;
        }

        void line() {
            Token t = take();
            Fault tooMany = new Fault(2, t.place());
            switch (t.text()) {
                case "rope" -> {
                    if (street.ropes.size() == 3) {
                        throw tooMany;
                    }
                    rope();
                }
                case "grade" -> {
                    if (street.grades == 12) {
                        throw tooMany;
                    }
                    street.grades++;
                    grade();
                }
                case "car" -> {
                    if (street.cars.size() == 5) {
                        throw tooMany;
                    }
                    car();
                }
                case "let", "grip", "stop", "catch" -> {
                    if (street.marks.size() == 24) {
                        throw tooMany;
                    }
                    mark(t.text());
                }
                case "drag" -> {
                    if (street.drag != null) {
                        throw tooMany;
                    }
                    street.drag = n(0, 9);
                }
                case "brake" -> {
                    if (street.brake != null) {
                        throw tooMany;
                    }
                    street.brake = n(1, 9999);
                }
                case "turn" -> {
                    if (street.turn != null) {
                        throw tooMany;
                    }
                    street.turn = n(1, 99);
                }
                case "splice" -> {
                    if (street.splices.size() == 6) {
                        throw tooMany;
                    }
                    splice();
                }
                case "cross" -> {
                    if (street.crosses.size() == 4) {
                        throw tooMany;
                    }
                    cross();
                }
                default -> throw tooMany;
            }
        }

        void rope() {
            int p = begin();
            String name = name();
            for (Rope r : street.ropes) {
                if (r.name().equals(name)) {
                    throw new Fault(3, p);
                }
            }
            must("speed");
            int speed = n(1, 30);
            must("long");
            int length = n(10, 200);
            must("from");
            int from = n(0, 59);
            must("to");
            p = begin();
            int to = n(from, 59);
            if (to - from + 1 > length) {
                throw new Fault(4, p);
            }
            for (Rope r : street.ropes) {
                if (r.from() <= to && from <= r.to()) {
                    throw new Fault(6, p);
                }
            }
            must("bears");
            street.ropes.add(new Rope(name, speed, length, from, to, n(1, 9999)));
        }

        void grade() {
            int from = n(0, 59);
            must("to");
            int to = n(from, 59);
            int p = begin();
            int sign = eat("-") ? -1 : 1;
            int v = sign * n(0, 9999);
            if (v < -9 || v > 9) {
                throw new Fault(4, p);
            }
            for (int s = from; s <= to; s++) {
                street.grade[s] = v;
            }
        }

        void car() {
            int p = begin();
            String name = name();
            for (CarTold c : street.cars) {
                if (c.name().equals(name)) {
                    throw new Fault(3, p);
                }
            }
            must("at");
            int where = n(0, 59);
            must("weighs");
            street.cars.add(new CarTold(name, where, n(1, 99)));
        }

        void mark(String sort) {
            int p = begin();
            int s = n(0, 59);
            if (street.marks.containsKey(sort + s)) {
                throw new Fault(3, p);
            }
            int ticks = 1;
            if (sort.equals("stop")) {
                must("for");
                ticks = n(1, 99);
            }
            street.marks.put(sort + s, ticks);
        }

        void splice() {
            int p = begin();
            String name = name();
            for (Splice s : street.splices) {
                if (s.name().equals(name)) {
                    throw new Fault(3, p);
                }
            }
            must("on");
            p = begin();
            String of = name();
            int rope = NONE;
            for (int r = 0; r < street.ropes.size(); r++) {
                if (street.ropes.get(r).name().equals(of)) {
                    rope = r;
                }
            }
            if (rope == NONE) {
                throw new Fault(5, p);
            }
            must("at");
            int place = n(0, 10 * street.ropes.get(rope).length() - 1);
            must("lasts");
            street.splices.add(new Splice(name, rope, place, n(1, 9999)));
        }

        void cross() {
            int p = begin();
            int s = n(0, 59);
            if (street.crosses.containsKey(s)) {
                throw new Fault(3, p);
            }
            must("when");
            street.crosses.put(s, e(0));
        }

        static int bool(boolean b) {
            return b ? 1 : 0;
        }

        Expr e(int depth) {
            Expr left = both(depth);
            while (eat("or")) {
                Expr a = left;
                Expr b = both(depth);
                left = (w, c, t) -> bool(a.of(w, c, t) != 0 | b.of(w, c, t) != 0);
            }
            return left;
        }

        Expr both(int depth) {
            Expr left = one(depth);
            while (eat("and")) {
                Expr a = left;
                Expr b = one(depth);
                left = (w, c, t) -> bool(a.of(w, c, t) != 0 & b.of(w, c, t) != 0);
            }
            return left;
        }

        Expr one(int depth) {
            Token t0 = peek();
            if (t0.text().equals("not")) {
                if (depth == 7) {
                    throw new Fault(2, t0.place());
                }
                take();
                Expr a = one(depth + 1);
                return (w, c, t) -> bool(a.of(w, c, t) == 0);
            }
            Expr a = sum(depth);
            String s = peek().text();
            if (!s.equals("<") && !s.equals(">") && !s.equals("=")) {
                return a;
            }
            take();
            Expr b = sum(depth);
            return switch (s) {
                case "<" -> (w, c, t) -> bool(a.of(w, c, t) < b.of(w, c, t));
                case ">" -> (w, c, t) -> bool(a.of(w, c, t) > b.of(w, c, t));
                default -> (w, c, t) -> bool(a.of(w, c, t) == b.of(w, c, t));
            };
        }

        Expr sum(int depth) {
            Expr left = term(depth);
            while (true) {
                Expr a = left;
                if (eat("+")) {
                    Expr b = term(depth);
                    left = (w, c, t) -> a.of(w, c, t) + b.of(w, c, t);
                } else if (eat("-")) {
                    Expr b = term(depth);
                    left = (w, c, t) -> a.of(w, c, t) - b.of(w, c, t);
                } else {
                    return left;
                }
            }
        }

        Expr term(int depth) {
            Expr left = unit(depth);
            while (eat("*")) {
                Expr a = left;
                Expr b = unit(depth);
                left = (w, c, t) -> a.of(w, c, t) * b.of(w, c, t);
            }
            return left;
        }

        Expr unit(int depth) {
            Token t0 = take();
            if (street.units == 40) {
                throw new Fault(2, t0.place());
            }
            street.units++;
            if (t0.isNumber()) {
                int v = Integer.parseInt(t0.text());
                return (w, c, t) -> v;
            }
            switch (t0.text()) {
                case "car":
                    return (w, c, t) -> c;
                case "speed":
                    return (w, c, t) -> w.cars.get(c).v;
                case "weighs":
                    return (w, c, t) -> w.street.cars.get(c).weighs();
                case "tick":
                    return (w, c, t) -> t;
                case "ahead":
                    return (w, c, t) -> w.near(c, true);
                case "behind":
                    return (w, c, t) -> w.near(c, false);
                case "load":
                    int rope = n(0, street.ropes.size() - 1);
                    return (w, c, t) -> w.load(rope);
                case "(":
                    if (depth == 7) {
                        throw new Fault(2, t0.place());
                    }
                    Expr inside = e(depth + 1);
                    must(")");
                    return inside;
                default:
                    throw new Fault(2, t0.place());
            }
        }
    }

    private static final class Car implements Cloneable {
        int x;
        int v = 0;
        int mode = 0;
        int waits = 0;
        boolean caught = false;
        boolean entered = true;
        int last = NONE;
        int done = 0;
        int trips = 0;
    }

    private static final class World {
        final Street street;
        String withoutMark = "";
        int tick = 0;
        final List<Car> cars = new ArrayList<>();
        final Set<Integer> cut = new HashSet<>();
        int strand = NONE;
        int strandPlace = 0;
        int took = NONE;
        final int[] place = new int[6];
        final int[] wear = new int[6];
        final Set<Integer> wornBy = new HashSet<>();
        int table = NONE;
        int tableLeft = 0;
        final int[] counts = new int[8];
        final List<int[]> events = new ArrayList<>();

        World(Street street) {
            this.street = street;
            for (CarTold t : street.cars) {
                Car c = new Car();
                c.x = 10 * t.at() + 5;
                cars.add(c);
            }
            for (int s = 0; s < street.splices.size(); s++) {
                place[s] = street.splices.get(s).at();
            }
        }

        World copy() {
            World w = new World(street);
            w.tick = tick;
            w.cars.clear();
            for (Car c : cars) {
                Car d = new Car();
                d.x = c.x;
                d.v = c.v;
                d.mode = c.mode;
                d.waits = c.waits;
                d.caught = c.caught;
                d.entered = c.entered;
                d.last = c.last;
                d.done = c.done;
                d.trips = c.trips;
                w.cars.add(d);
            }
            w.cut.addAll(cut);
            w.strand = strand;
            w.strandPlace = strandPlace;
            w.took = took;
            System.arraycopy(place, 0, w.place, 0, 6);
            System.arraycopy(wear, 0, w.wear, 0, 6);
            w.wornBy.addAll(wornBy);
            w.table = table;
            w.tableLeft = tableLeft;
            System.arraycopy(counts, 0, w.counts, 0, 8);
            for (int[] e : events) {
                w.events.add(e.clone());
            }
            return w;
        }

        int load(int rope) {
            int sum = 0;
            for (int c = 0; c < cars.size(); c++) {
                int s = cars.get(c).x / 10;
                if (cars.get(c).mode == 0 && street.ropeOn(s) == rope) {
                    sum += street.cars.get(c).weighs() * (10 + street.grade[s]);
                }
            }
            return sum;
        }

        boolean dips(int rope) {
            return !cut.contains(rope) && load(rope) > street.ropes.get(rope).bears();
        }

        int near(int car, boolean ahead) {
            int best = 999;
            for (Car c : cars) {
                int d = ahead ? c.x - cars.get(car).x : cars.get(car).x - c.x;
                if (c.mode != 3 && d > 0) {
                    best = Math.min(best, d);
                }
            }
            return best;
        }

        int event(int sort, int car, int rope, int cause) {
            if (events.size() == 60) {
                return NONE;
            }
            events.add(new int[] {tick, sort, car, rope, cause});
            return events.size() - 1;
        }

        /** The latest EVENT of a sort of a CAR. */
        int latest(int sort, int car) {
            for (int i = events.size() - 1; i >= 0; i--) {
                if (events.get(i)[1] == sort && events.get(i)[2] == car) {
                    return i;
                }
            }
            return NONE;
        }

        int mark(String sort, int segment) {
            String key = sort + segment;
            return key.equals(withoutMark) ? 0 : street.marks.getOrDefault(key, 0);
        }

        void cutIt(int rope, int car, int cause) {
            if (cut.add(rope)) {
                counts[2]++;
                event(2, car, rope, cause);
            }
        }

        void tick() {
            tick++;
            int[] speed = new int[3];
            for (int r = 0; r < street.ropes.size(); r++) {
                speed[r] = street.ropes.get(r).speed();
                if (dips(r)) {
                    speed[r] = speed[r] / 2;
                    counts[3]++;
                    event(3, NONE, r, NONE);
                }
            }
            if (strand != NONE && !cut.contains(strand)) {
                strandPlace = (strandPlace + speed[strand]) % (10 * street.ropes.get(strand).length());
                int s = street.segmentOf(strand, strandPlace);
                for (int c = 0; c < cars.size(); c++) {
                    if (s != NONE && cars.get(c).mode == 0 && cars.get(c).x / 10 == s) {
                        cars.get(c).caught = true;
                        took = c;
                        event(4, c, strand, NONE);
                        strand = NONE;
                        break;
                    }
                }
            }
            for (int i = 0; i < street.splices.size(); i++) {
                Splice it = street.splices.get(i);
                if (cut.contains(it.rope())) {
                    continue;
                }
                place[i] = (place[i] + speed[it.rope()]) % (10 * street.ropes.get(it.rope()).length());
                int s = street.segmentOf(it.rope(), place[i]);
                for (Car c : cars) {
                    if (s != NONE && c.mode == 0 && c.x / 10 == s) {
                        wear[i]++;
                    }
                }
                if (wear[i] >= it.lasts()) {
                    int worn = event(7, NONE, it.rope(), NONE);
                    wornBy.add(i);
                    cutIt(it.rope(), NONE, worn);
                }
            }
            for (int c = 0; c < cars.size(); c++) {
                if (cars.get(c).mode != 3) {
                    move(c, cars.get(c), speed);
                }
            }
            for (int a = 0; a < cars.size(); a++) {
                for (int b = 0; b < a; b++) {
                    if (cars.get(a).mode != 3 && cars.get(b).mode != 3
                            && Math.abs(cars.get(a).x - cars.get(b).x) <= 5) {
                        counts[4]++;
                    }
                }
            }
            if (street.turn != null) {
                turntable();
            }
        }

        void turntable() {
            if (table != NONE && --tableLeft == 0) {
                Car c = cars.get(table);
                c.x = 0;
                c.v = 0;
                c.mode = 0;
                c.last = NONE;
                c.caught = false;
                c.entered = true;
                c.trips++;
                counts[7]++;
                event(8, table, NONE, NONE);
                table = NONE;
            }
            if (table == NONE) {
                int first = Integer.MAX_VALUE;
                for (int c = 0; c < cars.size(); c++) {
                    if (cars.get(c).mode == 3 && cars.get(c).done < first) {
                        first = cars.get(c).done;
                        table = c;
                    }
                }
                tableLeft = street.turn;
            }
        }

        void move(int n, Car c, int[] speed) {
            int s = c.x / 10;
            if (c.entered) {
                if (mark("stop", s) > 0 && !c.caught) {
                    c.mode = 2;
                    c.waits = mark("stop", s);
                    c.v = 0;
                } else if (mark("let", s) > 0 && c.mode == 0 && !c.caught) {
                    c.mode = 1;
                } else if (mark("grip", s) > 0 && c.mode == 1) {
                    c.mode = 0;
                }
            }
            int was = c.mode;
            if (was == 2 && !street.holds(n, s)) {
                c.mode = 1;
                counts[6]++;
                event(5, n, NONE, latest(6, n));
            } else if (was == 2) {
                c.v = 0;
                c.waits--;
                if (c.waits == 0) {
                    c.mode = 0;
                }
            } else if (was == 0) {
                int r = street.ropeOn(s);
                if (r == NONE) {
                    counts[0]++;
                    int miss = event(0, n, NONE, latest(4, n));
                    if (mark("catch", s) > 0) {
                        counts[1]++;
                        event(1, n, NONE, miss);
                    } else if (c.last != NONE) {
                        cutIt(c.last, n, miss);
                    }
                    c.mode = 1;
                    c.caught = false;
                } else if (cut.contains(r)) {
                    c.mode = 1;
                    c.caught = false;
                } else {
                    c.last = r;
                    if (c.v < speed[r]) {
                        c.v = Math.min(c.v + 2, speed[r]);
                    } else {
                        c.v = speed[r];
                    }
                }
            }
            if (c.mode == 1) {
                c.v = street.off(c.v, s);
            }
            int to = c.x + c.v;
            c.entered = false;
            if (to >= 0 && to < 600 && to / 10 != s && street.crosses.containsKey(to / 10) && !c.caught
                    && street.crosses.get(to / 10).of(this, n, tick) == 0) {
                c.v = 0;
                c.mode = 2;
                c.waits = 1;
                counts[5]++;
                event(6, n, NONE, NONE);
                return;
            }
            c.x = to;
            if (to < 0) {
                c.x = 0;
                c.v = 0;
            }
            if (to >= 600) {
                c.mode = 3;
                c.x = 599;
                c.v = 0;
                c.done = tick;
            }
            c.entered = c.x / 10 != s;
        }

        int gap() {
            int best = NONE;
            for (int a = 0; a < cars.size(); a++) {
                for (int b = 0; b < a; b++) {
                    if (cars.get(a).mode != 3 && cars.get(b).mode != 3) {
                        int d = Math.abs(cars.get(a).x - cars.get(b).x);
                        best = best == NONE ? d : Math.min(best, d);
                    }
                }
            }
            return best;
        }

        int head(int n) {
            World w = copy();
            int best = NONE;
            for (int t = 0; t < n; t++) {
                w.tick();
                int g = w.gap();
                if (g != NONE) {
                    best = best == NONE ? g : Math.min(best, g);
                }
            }
            return best;
        }

        int[] power(int n, String without) {
            World w = copy();
            w.withoutMark = without;
            int sum = 0;
            int peak = 0;
            for (int t = 0; t < n; t++) {
                int one = 0;
                for (int r = 0; r < street.ropes.size(); r++) {
                    if (!w.cut.contains(r)) {
                        one += w.load(r);
                    }
                }
                sum += one;
                peak = Math.max(peak, one);
                w.tick();
            }
            return new int[] {sum, peak};
        }
    }

    private byte[] tape = new byte[0];
    private int faultKind = 0;
    private int faultPlace = NONE;
    private World world = new World(new Street());
    private final World[] boxes = new World[3];
    private final List<int[]> logs = new ArrayList<>();
    private int time = 0;

    int feed(int a, int b, int c, int d, int e) {
        if (tape.length + 20 > 1600) {
            return NONE;
        }
        byte[] more = java.util.Arrays.copyOf(tape, tape.length + 20);
        java.nio.ByteBuffer.wrap(more, tape.length, 20).putInt(a).putInt(b).putInt(c).putInt(d).putInt(e);
        tape = more;
        return tape.length;
    }

    int end(int n) {
        if (n < 0 || n > tape.length) {
            return NONE;
        }
        tape = java.util.Arrays.copyOf(tape, n);
        return n;
    }

    int street() {
        try {
            Street s = new Parser(tape).read();
            faultKind = 0;
            faultPlace = NONE;
            tape = new byte[0];
            world = new World(s);
            logs.clear();
            java.util.Arrays.fill(boxes, null);
            return s.lines;
        } catch (Fault f) {
            faultKind = f.kind;
            faultPlace = f.place;
            return NONE;
        }
    }

    int fault(int what) {
        return what == 0 ? faultKind : what == 1 ? faultPlace : NONE;
    }

    int run(int ticks) {
        if (ticks < 0 || ticks > 500 || world.tick + ticks > 100000) {
            return NONE;
        }
        for (int t = 0; t < ticks; t++) {
            world.tick();
        }
        int n = 0;
        for (Car c : world.cars) {
            n += c.mode == 3 ? 0 : 1;
        }
        return n;
    }

    private boolean isCar(int car) {
        return car >= 0 && car < world.cars.size();
    }

    private boolean isRope(int rope) {
        return rope >= 0 && rope < world.street.ropes.size();
    }

    private boolean isPlace(int rope, int place) {
        return isRope(rope) && place >= 0 && place < 10 * world.street.ropes.get(rope).length();
    }

    int car(int car, int what) {
        if (!isCar(car)) {
            return NONE;
        }
        Car c = world.cars.get(car);
        return what == 0 ? c.x : what == 2 ? c.mode : what == 3 ? (c.caught ? 1 : 0)
                : what == 4 ? (c.mode == 2 ? c.waits : 0) : NONE;
    }

    int speed(int car) {
        return isCar(car) ? world.cars.get(car).v : -1000;
    }

    int rope(int rope, int what) {
        if (!isRope(rope)) {
            return NONE;
        }
        return what == 0 ? world.load(rope) : what == 1 ? (world.cut.contains(rope) ? 1 : 0)
                : what == 2 ? (world.dips(rope) ? 1 : 0) : NONE;
    }

    int count(int what) {
        return what < 0 || what > 7 ? NONE : world.counts[what];
    }

    boolean strand(int rope, int place) {
        if (!isPlace(rope, place) || world.cut.contains(rope)) {
            return false;
        }
        world.strand = rope;
        world.strandPlace = place;
        return true;
    }

    int strandNow(int what) {
        if (world.strand == NONE) {
            return NONE;
        }
        return what == 0 ? world.strand : what == 1 ? world.strandPlace
                : what == 2 ? world.street.segmentOf(world.strand, world.strandPlace) : NONE;
    }

    boolean free(int car) {
        if (!isCar(car) || !world.cars.get(car).caught) {
            return false;
        }
        world.cars.get(car).caught = false;
        return true;
    }

    private boolean isSplice(int splice) {
        return splice >= 0 && splice < world.street.splices.size();
    }

    int splice(int splice, int what) {
        if (!isSplice(splice)) {
            return NONE;
        }
        int rope = world.street.splices.get(splice).rope();
        return what == 0 ? rope : what == 1 ? world.place[splice]
                : what == 2 ? world.street.segmentOf(rope, world.place[splice])
                : what == 3 ? world.wear[splice] : NONE;
    }

    int due(int splice) {
        if (!isSplice(splice) || world.cut.contains(world.street.splices.get(splice).rope())) {
            return NONE;
        }
        World w = world.copy();
        for (int t = 1; t <= 500; t++) {
            w.tick();
            if (w.wornBy.contains(splice)) {
                return t;
            }
        }
        return NONE;
    }

    int cost(int segment, int n) {
        if (world.mark("stop", segment) == 0 || n < 1 || n > 300) {
            return -1000000;
        }
        return world.power(n, "")[0] - world.power(n, "stop" + segment)[0];
    }

    int halt(int ticks) {
        if (ticks < 1 || ticks > 99) {
            return NONE;
        }
        int n = 0;
        for (Car c : world.cars) {
            if (c.mode != 3 && !c.caught) {
                c.mode = 2;
                c.waits = ticks;
                c.v = 0;
                n++;
            }
        }
        return n;
    }

    int rolls() {
        int bits = 0;
        for (int c = 0; c < world.cars.size(); c++) {
            if (world.cars.get(c).mode != 3 && !world.street.holds(c, world.cars.get(c).x / 10)) {
                bits += 1 << c;
            }
        }
        return bits;
    }

    int trips(int car) {
        return isCar(car) ? world.cars.get(car).trips : NONE;
    }

    int asks(int segment, int car) {
        Expr e = world.street.crosses.get(segment);
        return e == null || !isCar(car) ? -1000000 : e.of(world, car, world.tick + 1);
    }

    int event(int i, int what) {
        return i < 0 || i >= world.events.size() || what < 0 || what > 4 ? NONE : world.events.get(i)[what];
    }

    private int[] coast(int segment, int v0) {
        int x = 10 * segment;
        int v = v0;
        int t = 0;
        while (true) {
            v = world.street.off(v, x / 10);
            x += v;
            t++;
            if (x < 0 || x > 599) {
                return new int[] {NONE, 0, t};
            }
            int rope = world.street.ropeOn(x / 10) == NONE ? 0 : 1;
            if (rope == 1 || v == 0 || Integer.signum(v) != Integer.signum(v0) || t == 500) {
                return new int[] {x / 10, rope, t};
            }
        }
    }

    int coasts(int segment, int v, int what) {
        if (segment < 0 || segment > 59 || v < -60 || v > 60 || what < 0 || what > 2) {
            return -2;
        }
        return coast(segment, v)[what];
    }

    int need(int segment) {
        if (segment < 0 || segment > 59) {
            return NONE;
        }
        for (int v = 1; v <= 60; v++) {
            if (coast(segment, v)[1] == 1) {
                return v;
            }
        }
        return NONE;
    }

    int takes() {
        if (world.strand == NONE) {
            return NONE;
        }
        World w = world.copy();
        for (int t = 0; t < 500; t++) {
            w.tick();
            if (w.strand == NONE) {
                return w.took;
            }
        }
        return NONE;
    }

    int head(int n) {
        return n < 1 || n > 300 ? NONE : world.head(n);
    }

    int spread(int car, int what) {
        if (!isCar(car) || world.cars.get(car).mode == 3 || what < 0 || what > 1) {
            return NONE;
        }
        int best = NONE;
        int wait = NONE;
        for (int w = 0; w <= 20; w++) {
            World x = world.copy();
            Car c = x.cars.get(car);
            if (w > 0) {
                c.waits = w + (c.mode == 2 ? c.waits : 0);
                c.mode = 2;
                c.v = 0;
            }
            int h = x.head(200);
            if (h > best) {
                best = h;
                wait = w;
            }
        }
        return what == 0 ? wait : best;
    }

    int power(int n, int what) {
        return n < 1 || n > 300 || what < 0 || what > 1 ? NONE : world.power(n, "")[what];
    }

    int runaway(int car, int segment) {
        if (!isCar(car) || segment < 0 || segment > 59 || world.street.holds(car, segment)) {
            return NONE;
        }
        int x = 10 * segment + 5;
        int v = 0;
        int most = 0;
        for (int t = 0; t < 500; t++) {
            v = world.street.off(v, x / 10);
            x += v;
            most = Math.max(most, Math.abs(v));
            if (v == 0 || x < 0 || x > 599) {
                break;
            }
        }
        return most;
    }

    int order(int i) {
        List<Integer> order = new ArrayList<>();
        for (int c = 0; c < world.cars.size(); c++) {
            if (world.cars.get(c).mode != 3) {
                order.add(c);
            }
        }
        order.sort((a, b) -> pull(a) != pull(b) ? Integer.compare(pull(b), pull(a)) : Integer.compare(a, b));
        return i < 0 || i >= order.size() ? NONE : order.get(i);
    }

    private int pull(int c) {
        return Math.abs(world.street.cars.get(c).weighs() * world.street.grade[world.cars.get(c).x / 10]);
    }

    int where(int rope, int place, int ticks) {
        if (!isPlace(rope, place) || ticks < 0 || ticks > 9999) {
            return -2;
        }
        int p = place;
        for (int t = 0; t < ticks; t++) {
            p = (p + world.street.ropes.get(rope).speed()) % (10 * world.street.ropes.get(rope).length());
        }
        return world.street.segmentOf(rope, p);
    }

    int log(int car, int tick, int segment) {
        if (!isCar(car) || tick < 1 || tick > 200 || segment < 0 || segment > 59 || logs.size() == 60) {
            return NONE;
        }
        logs.add(new int[] {car, tick, segment, time, Integer.MAX_VALUE});
        return logs.size() - 1;
    }

    boolean untell(int log) {
        if (log < 0 || log >= logs.size() || logs.get(log)[4] != Integer.MAX_VALUE) {
            return false;
        }
        logs.get(log)[4] = time;
        return true;
    }

    int later(int by) {
        if (by < 0 || by > 1000 || time + by > 100000) {
            return NONE;
        }
        time += by;
        return time;
    }

    private static boolean counts(int[] l, int k) {
        return l[3] <= k && !(l[4] != Integer.MAX_VALUE && l[4] <= k);
    }

    int judge(int what, int k) {
        if (what < 0 || what > 1) {
            return NONE;
        }
        int number = 0;
        int first = NONE;
        for (int i = 0; i < logs.size(); i++) {
            int[] l = logs.get(i);
            if (counts(l, k)) {
                World w = new World(world.street);
                for (int t = 0; t < l[1]; t++) {
                    w.tick();
                }
                if (w.cars.get(l[0]).x / 10 != l[2]) {
                    number++;
                    first = first == NONE ? i : first;
                }
            }
        }
        return what == 0 ? number : first;
    }

    int logged(int car, int k) {
        java.util.TreeMap<Integer, Integer> at = new java.util.TreeMap<>();
        for (int[] l : logs) {
            if (l[0] == car && counts(l, k)) {
                at.put(l[1], l[2]);
            }
        }
        if (at.size() < 2) {
            return -1000;
        }
        int last = at.lastKey();
        int before = at.lowerKey(last);
        return (at.get(last) - at.get(before)) * 10 / (last - before);
    }

    int image(int box) {
        if (box < 0 || box > 2) {
            return NONE;
        }
        boxes[box] = world.copy();
        return world.tick;
    }

    int back(int box) {
        if (box < 0 || box > 2 || boxes[box] == null) {
            return NONE;
        }
        world = boxes[box].copy();
        return world.tick;
    }

    int about(int what) {
        Street s = world.street;
        int[] all = {s.ropes.size(), s.cars.size(), s.marks.size(), world.tick, logs.size(), time, tape.length,
            s.drag(), s.brake(), s.splices.size(), s.crosses.size(), s.units, world.events.size(), world.table};
        return what < 0 || what > 13 ? NONE : all[what];
    }
}
