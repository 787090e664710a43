import java.lang.reflect.Method;
import java.util.ArrayList;
import java.util.HashMap;
import java.util.List;
import java.util.Map;
import java.util.Random;

/** Runs at random, asked of the class and of the Oracle. */
public final class OracleTest {
    private static final String[] CALLS = {"run 1", "car 2", "speed 1", "rope 2", "count 1", "strand 2", "strandNow 1",
        "free 1", "splice 2", "due 1", "cost 2", "halt 1", "rolls 0", "trips 1", "asks 2", "event 2", "coasts 3",
        "need 1", "takes 0", "head 1", "spread 2", "power 2", "runaway 2", "order 1", "where 3", "log 3", "untell 1",
        "later 1", "judge 2", "logged 2", "image 1", "back 1", "about 1", "fault 1"};
    private static final int[] EDGES = {-1, 0, 1, 2, 3, 4, 5, 59, 60, 99, 100, 199, 200, 201, 300, 301, 500, 501,
        Integer.MAX_VALUE, Integer.MIN_VALUE};

    /** Nothing is promised of an object behind these. */
    private static final int CALLS_AT_MOST = 512;
    private static final Map<String, Method> METHODS = new HashMap<>();

    private final Random random;
    private final CableStreet street = new CableStreet();
    private final Oracle oracle = new Oracle();
    private final List<String> trail = new ArrayList<>();
    private int wrong = 0;
    private int calls = 0;
    private String text = "";

    private OracleTest(long seed) {
        random = new Random(seed);
    }

    public static void main(String[] args) throws Exception {
        int runs = args.length > 1 ? Integer.parseInt(args[1]) : 2000;
        long first = args.length > 2 ? Long.parseLong(args[2]) : 1;
        int wrong = 0;
        for (long seed = first; seed < first + runs && wrong < 5; seed++) {
            OracleTest test = new OracleTest(seed);
            test.go();
            if (test.wrong > 0) {
                System.out.println("seed " + seed);
                wrong++;
            }
        }
        System.out.println(wrong == 0 ? "class and oracle agree" : "class and oracle differ");
        if (wrong > 0) {
            System.exit(1);
        }
    }

    private void go() throws Exception {
        int streets = 1 + random.nextInt(2);
        for (int told = 1; told <= streets && goesOn(CALLS_AT_MOST); told++) {
            String good = new Texts(random).street();
            for (int n = random.nextInt(4); n > 0 && goesOn(CALLS_AT_MOST); n--) {
                tell(Texts.spoilt(good, random));
            }
            tell(good);
            while (goesOn(CALLS_AT_MOST * told / streets)) {
                String[] call = CALLS[random.nextInt(CALLS.length)].split(" ");
                if (random.nextInt(6) == 0) {
                    call = new String[] {"run", "1"};
                }
                int[] arguments = new int[Integer.parseInt(call[1])];
                for (int i = 0; i < arguments.length; i++) {
                    arguments[i] = argument(call[0], i);
                }
                ask(call[0], arguments);
                if (call[0].equals("run") || call[0].equals("back")) {
                    askAll();
                }
            }
        }
    }

    private boolean goesOn(int most) {
        return wrong == 0 && calls < most;
    }

    /** What a TICK can change, of what there is. */
    private void askAll() throws Exception {
        for (int what = 0; what < 8; what++) {
            ask("count", what);
        }
        for (int c = 0; c < oracle.about(1); c++) {
            for (int what : new int[] {0, 2, 3, 4}) {
                ask("car", c, what);
            }
            ask("speed", c);
            ask("trips", c);
            ask("order", c);
        }
        for (int r = 0; r < oracle.about(0); r++) {
            ask("rope", r, 0);
            ask("rope", r, 1);
            ask("rope", r, 2);
        }
        for (int i = 0; i < oracle.about(9); i++) {
            ask("splice", i, 1);
            ask("splice", i, 3);
        }
        ask("strandNow", 0);
        ask("strandNow", 1);
        ask("about", 3);
        ask("about", 12);
        ask("about", 13);
        int kept = oracle.about(12);
        for (int i = Math.max(0, kept - 3); i < kept; i++) {
            for (int what = 0; what < 5; what++) {
                ask("event", i, what);
            }
        }
        ask("rolls");
    }

    private int argument(String call, int i) {
        if (random.nextInt(40) == 0) {
            return EDGES[random.nextInt(EDGES.length)];
        }
        switch (call + i) {
            case "run0": return random.nextInt(random.nextInt(15) == 0 ? 300 : 12);
            case "event0": return random.nextInt(60);
            case "event1": return random.nextInt(5);
            case "about0": return random.nextInt(15);
            case "count0": return random.nextInt(9);
            case "strand1":
            case "where1": return random.nextInt(600);
            case "where2": return random.nextInt(200);
            case "coasts1": return random.nextInt(121) - 60;
            case "need0":
            case "coasts0":
            case "runaway1":
            case "log2": return random.nextInt(60);
            case "log1": return 1 + random.nextInt(random.nextBoolean() ? 200 : 12);
            case "head0":
            case "power0":
            case "cost1": return 1 + random.nextInt(300);
            case "halt0": return 1 + random.nextInt(12);
            case "cost0": return place("stop ");
            case "asks0": return place("cross ");
            case "untell0": return random.nextInt(20);
            case "later0": return random.nextInt(4);
            case "judge1":
            case "logged1": return random.nextInt(30);
            default: return random.nextInt(5);
        }
    }

    /** The number behind such a word in the text, if there is one. */
    private int place(String word) {
        String flat = text.replace('\n', ' ').replace("  ", " ");
        int at = flat.indexOf(word, flat.isEmpty() ? 0 : random.nextInt(flat.length()));
        at = at < 0 ? flat.indexOf(word) : at;
        if (at < 0) {
            return random.nextInt(60);
        }
        int end = at + word.length();
        int value = 0;
        while (end < flat.length() && Character.isDigit(flat.charAt(end)) && value < 1000) {
            value = value * 10 + flat.charAt(end) - '0';
            end++;
        }
        return value;
    }

    private void tell(String told) throws Exception {
        text = told;
        ask("end", 0);
        int at = 0;
        while (at < told.length() && wrong == 0) {
            int[] five = new int[5];
            for (int i = 0; i < 20; i++) {
                int c = at + i < told.length() ? told.charAt(at + i) : ' ';
                five[i / 4] = five[i / 4] << 8 | c;
            }
            ask("feed", five);
            at += 20;
        }
        ask("end", told.length());
        ask("street");
        ask("fault", 0);
        ask("fault", 1);
        ask("about", 6);
    }

    private void ask(String name, int... arguments) throws Exception {
        calls++;
        if (calls > CALLS_AT_MOST) {
            return;
        }
        long mine = answer(street, name, arguments);
        long due = answer(oracle, name, arguments);
        if (mine == due && name.equals("feed")) {
            return;
        }
        StringBuilder b = new StringBuilder(name);
        for (int a : arguments) {
            b.append(' ').append(a);
        }
        b.append(" -> ").append(mine);
        trail.add(b.toString());
        if (mine != due && wrong++ == 0) {
            System.out.println("text: " + text);
            System.out.println(trail.subList(Math.max(0, trail.size() - 40), trail.size()));
            System.out.println(b + ", due is " + due);
        }
    }

    private static long answer(Object it, String name, int[] arguments) throws Exception {
        Class<?>[] types = new Class<?>[arguments.length];
        Object[] values = new Object[arguments.length];
        for (int i = 0; i < arguments.length; i++) {
            types[i] = int.class;
            values[i] = arguments[i];
        }
        String key = it.getClass().getName() + name + arguments.length;
        Method method = METHODS.get(key);
        if (method == null) {
            method = it.getClass().getDeclaredMethod(name, types);
            METHODS.put(key, method);
        }
        Object answer = method.invoke(it, values);
        return answer instanceof Boolean yes ? (yes ? 1 : 0) : (Integer) answer;
    }
}
