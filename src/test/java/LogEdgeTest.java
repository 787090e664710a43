/** ==== 4 of the document and promises 31 to 37: LOGS, the TIME and BOXES at each bound. */
public final class LogEdgeTest {
    private static final String LONG_ROPE = "rope a speed 10 long 60 from 0 to 59 bears 9999;";
    private static final String SLOW_ROPE = "rope a speed 1 long 60 from 0 to 59 bears 9999;";
    /** Ends behind SEGMENT 4, so that one that grips on 5 misses. */
    private static final String SHORT_ROPE = "rope a speed 10 long 20 from 0 to 4 bears 9999;";

    private LogEdgeTest() {
    }

    public static void main(String[] args) {
        sixtyLogs();
        logsOfAnotherStreet();
        logsThatCannotBe();
        untelling();
        laterBy();
        toldAtK();
        untoldAtK();
        lastTicksOfLogs();
        byTheTextAlone();
        firstFalse();
        speedsCut();
        twoLatestTicks();
        toldLast();
        notTwo();
        threeBoxes();
        nothingKept();
        keptOver();
        carsAreKept();
        rideIsKept();
        tableIsKept();
        ropesAreKept();
        eventsAreKept();
        logsAreNotKept();
        Check.end();
    }

    private static void sixtyLogs() {
        Check.sentence("LOGS, 60 at most, are TOLD at a TIME (0 at first, goes on)");
        CableStreet s = Check.street("car c at 5 weighs 1;");
        Check.due("the TIME at first", 0, s.about(5));
        for (int i = 0; i < 60; i++) {
            Check.due("log", i, s.log(0, 1, 5));
            Check.due("logs", i + 1, s.about(4));
        }
        Check.due("a 61st", -1, s.log(0, 1, 5));
        Check.due("logs", 60, s.about(4));
        Check.due("untell", true, s.untell(0));
        Check.due("still 60", -1, s.log(0, 1, 5));
        Check.due("logs", 60, s.about(4));
        Check.due("false", 0, s.judge(0, 0));
        Check.due("untell 59", true, s.untell(59));
        Check.due("untell 60", false, s.untell(60));
    }

    private static void logsOfAnotherStreet() {
        Check.sentence("no LOGS, BOXES are empty then");
        CableStreet s = Check.street("car c at 5 weighs 1;");
        for (int i = 0; i < 60; i++) {
            s.log(0, 100 + i, 9);
        }
        Check.tape(s, "car c at 5 weighs 1;");
        s.street();
        Check.due("logs", 0, s.about(4));
        Check.due("false", 0, s.judge(0, 0));
        Check.due("first", -1, s.judge(1, 0));
        Check.due("speed", -1000, s.logged(0, 0));
        Check.due("untell", false, s.untell(0));
        Check.due("log", 0, s.log(0, 7, 5));
        Check.due("one alone", -1000, s.logged(0, 0));
        Check.due("false", 0, s.judge(0, 0));
        Check.due("log", 1, s.log(0, 9, 6));
        Check.due("two", 5, s.logged(0, 0));
        Check.due("first", 1, s.judge(1, 0));
    }

    private static void logsThatCannotBe() {
        Check.sentence("A LOG: its number; NONE, doing nothing, if it can't be, or there are 60.");
        int[][] cannot = {{-1, 1, 1}, {3, 1, 1}, {5, 1, 1}, {0, 0, 1}, {0, -1, 1}, {0, 201, 1}, {0, 1, -1}, {0, 1, 60},
            {Integer.MIN_VALUE, 1, 1}, {Integer.MAX_VALUE, 1, 1}, {0, Integer.MIN_VALUE, 1}, {0, Integer.MAX_VALUE, 1},
            {0, 1, Integer.MIN_VALUE}, {0, 1, Integer.MAX_VALUE}};
        for (int[] of : cannot) {
            Busy.leavesAll("log " + of[0] + ", " + of[1] + ", " + of[2], -1, s -> s.log(of[0], of[1], of[2]));
        }
        int[][] can = {{0, 1, 0}, {2, 1, 59}, {0, 200, 0}, {2, 200, 59}};
        CableStreet s = Busy.street();
        int number = s.about(4);
        for (int[] of : can) {
            Check.due("log " + of[0] + ", " + of[1] + ", " + of[2], number, s.log(of[0], of[1], of[2]));
            number++;
        }
        Check.due("without cars", -1, Check.street("").log(0, 1, 1));
    }

    private static void untelling() {
        Check.sentence("It is UNTOLD: true; false if it is so already, or there is none such.");
        for (int no : new int[] {-1, 1, 3, 60, Integer.MAX_VALUE, Integer.MIN_VALUE}) {
            Busy.leavesAll("untell " + no, 0, s -> s.untell(no) ? 1 : 0);
        }
        CableStreet s = Busy.street();
        Check.due("untell 0", true, s.untell(0));
        Check.due("again", false, s.untell(0));
        s.later(1);
        Check.due("later on", false, s.untell(0));
        Check.due("untell 2", true, s.untell(2));
        // A second untelling does not put its TIME off.
        s = Check.street("car c at 5 weighs 1;");
        s.log(0, 1, 9);
        s.later(5);
        s.untell(0);
        s.later(5);
        s.untell(0);
        Check.due("at 4", 1, s.judge(0, 4));
        Check.due("at 5", 0, s.judge(0, 5));
        Check.due("none told", false, Check.street("").untell(0));
    }

    private static void laterBy() {
        Check.sentence("So much later (0 .. 1000): the TIME; NONE, doing nothing, for another number, or if it would be above 100,000.");
        for (int by : new int[] {-1, 1001, Integer.MAX_VALUE, Integer.MIN_VALUE}) {
            Busy.leavesAll("later " + by, -1, s -> s.later(by));
        }
        Busy.leavesAll("later 0", 3, s -> s.later(0));
        CableStreet s = new CableStreet();
        Check.due("0", 0, s.later(0));
        Check.due("1", 1, s.later(1));
        Check.due("999", 1000, s.later(999));
        for (int n = 2; n <= 99; n++) {
            Check.due("1000", 1000 * n, s.later(1000));
        }
        Check.due("1", 99001, s.later(1));
        Check.due("1000", -1, s.later(1000));
        Check.due("the TIME", 99001, s.about(5));
        Check.due("999", 100000, s.later(999));
        Check.due("1", -1, s.later(1));
        Check.due("1000", -1, s.later(1000));
        Check.due("0", 100000, s.later(0));
        Check.due("the TIME", 100000, s.about(5));
    }

    private static void toldAtK() {
        Check.sentence("As known at k those count that were TOLD at k or before, not UNTOLD at k or before.");
        CableStreet s = Check.street("car c at 5 weighs 1;");
        s.log(0, 1, 9);
        s.later(10);
        s.log(0, 1, 8);
        int[][] due = {{Integer.MIN_VALUE, 0}, {-1, 0}, {0, 1}, {9, 1}, {10, 2}, {11, 2}, {100001, 2}, {Integer.MAX_VALUE, 2}};
        for (int[] of : due) {
            Check.due("known at " + of[0], of[1], s.judge(0, of[0]));
            Check.due("first at " + of[0], of[1] == 0 ? -1 : 0, s.judge(1, of[0]));
        }
    }

    private static void untoldAtK() {
        Check.sentence("UNTOLD at a later one or the same");
        CableStreet s = Check.street("car c at 5 weighs 1;");
        s.log(0, 1, 9);
        s.later(10);
        s.untell(0);
        s.log(0, 1, 9);
        s.untell(1);
        s.log(0, 1, 8);
        s.later(1);
        s.untell(2);
        int[][] due = {{0, 1, 0}, {9, 1, 0}, {10, 1, 2}, {11, 0, -1}, {Integer.MAX_VALUE, 0, -1}};
        for (int[] of : due) {
            Check.due("known at " + of[0], of[1], s.judge(0, of[0]));
            Check.due("first at " + of[0], of[2], s.judge(1, of[0]));
        }
        // UNTOLD at TIME 0, too.
        s = Check.street("car c at 5 weighs 1;");
        s.log(0, 1, 9);
        s.untell(0);
        Check.due("known at 0", 0, s.judge(0, 0));
        s.later(3);
        Check.due("known at 3", 0, s.judge(0, 3));
    }

    private static void lastTicksOfLogs() {
        Check.sentence("a CAR was on a SEGMENT at the end of a TICK (1 .. 200)");
        // In TICK 1 from 55 to 60.
        CableStreet s = Check.street("car c at 5 weighs 1;drag 0;grade 5 to 5 -5;");
        s.log(0, 1, 6);
        Check.due("it is so", 0, s.judge(0, 0));
        s.log(0, 1, 5);
        Check.due("it is not", 1, s.judge(0, 0));
        // It comes to 200 in TICK 200, or in TICK 201.
        s = Check.street(SLOW_ROPE + "car c at 0 weighs 1;stop 0 for 5;");
        s.log(0, 200, 20);
        s.log(0, 199, 19);
        Check.due("it is so", 0, s.judge(0, 0));
        s = Check.street(SLOW_ROPE + "car c at 0 weighs 1;stop 0 for 6;");
        s.log(0, 200, 19);
        Check.due("it is so", 0, s.judge(0, 0));
        s.log(0, 200, 20);
        Check.due("it is not", 1, s.judge(0, 0));
        // Each CAR, the last, too; one that is DONE is on SEGMENT 59, one that came BACK on 0.
        s = Check.street(LONG_ROPE + "car a at 1 weighs 1;car b at 2 weighs 1;car c at 3 weighs 1;car d at 4 weighs 1;car e at 59 weighs 1;turn 5;");
        s.log(4, 2, 59);
        s.log(4, 6, 59);
        s.log(4, 7, 0);
        s.log(3, 1, 4);
        s.log(0, 200, 59);
        Check.due("first", 4, s.judge(1, 0));
        Check.due("false", 1, s.judge(0, 0));
    }

    private static void byTheTextAlone() {
        Check.sentence("A LOG is FALSE, if by the text alone, from its beginning, without a STRAND, it was not so.");
        // The strand would draw c over its stop; waiting, a cut and an image change nothing either.
        CableStreet s = Check.street(SHORT_ROPE + "car c at 3 weighs 1;stop 4 for 50;");
        s.strand(0, 25);
        s.run(3);
        s.log(0, 10, 4);
        s.log(0, 10, 5);
        Check.due("first", 1, s.judge(1, 0));
        s.image(0);
        s.halt(9);
        s.run(90);
        s.log(0, 53, 4);
        s.log(0, 56, 5);
        Check.due("first", 1, s.judge(1, 0));
        Check.due("false", 1, s.judge(0, 0));
        Check.due("the TICK is as it was", 93, s.about(3));
        // A street told anew is another text, from its beginning.
        Check.tape(s, "car c at 3 weighs 1;");
        s.street();
        s.log(0, 10, 4);
        s.log(0, 10, 3);
        Check.due("first", 0, s.judge(1, 0));
        Check.due("false", 1, s.judge(0, 0));
    }

    private static void firstFalse() {
        Check.sentence("How many LOGS that count are FALSE (what 0), the first of them (1; NONE if none is); NONE for another what.");
        CableStreet s = Check.street("car c at 5 weighs 1;");
        Check.due("no LOG", 0, s.judge(0, 0));
        Check.due("no LOG", -1, s.judge(1, 0));
        s.log(0, 7, 4);
        Check.due("the first is 0", 0, s.judge(1, 0));
        Check.due("what -1", -1, s.judge(-1, 0));
        Check.due("what 2", -1, s.judge(2, 0));
        Check.due("what MAX", -1, s.judge(Integer.MAX_VALUE, 0));
        Check.due("what MIN", -1, s.judge(Integer.MIN_VALUE, 0));
        s.log(0, 7, 5);
        s.log(0, 8, 6);
        Check.due("false", 2, s.judge(0, 0));
        s.untell(0);
        Check.due("the first is 2", 2, s.judge(1, 0));
        s.untell(2);
        Check.due("none is", -1, s.judge(1, 0));
        Check.due("what 2, and none false", -1, s.judge(2, 0));
        Check.due("what -1, and none false", -1, s.judge(-1, 0));
        for (int i = 3; i < 60; i++) {
            s.log(0, 9, 50);
        }
        Check.due("false", 57, s.judge(0, 0));
    }

    private static void speedsCut() {
        Check.sentence("(SEGMENTS * 10 / TICKS, cut; the later one less the earlier one)");
        int[][] due = {{1, 0, 2, 59, 590}, {1, 59, 2, 0, -590}, {1, 0, 200, 59, 2}, {1, 59, 200, 0, -2}, {1, 0, 4, 1, 3},
            {1, 1, 4, 0, -3}, {1, 0, 200, 1, 0}, {1, 1, 200, 0, 0}, {1, 7, 2, 7, 0}, {199, 5, 200, 6, 10}};
        for (int[] of : due) {
            CableStreet s = Check.street("car c at 5 weighs 1;");
            s.log(0, of[0], of[1]);
            s.log(0, of[2], of[3]);
            Check.due(of[1] + " to " + of[3], of[4], s.logged(0, 0));
            // Whichever was TOLD first, the later is that of the later TICK.
            s = Check.street("car c at 5 weighs 1;");
            s.log(0, of[2], of[3]);
            s.log(0, of[0], of[1]);
            Check.due(of[1] + " to " + of[3], of[4], s.logged(0, 0));
        }
    }

    private static void twoLatestTicks() {
        Check.sentence("SPEED: by LOGS that count of a CAR of its two latest TICKS");
        CableStreet s = Check.street("car c at 5 weighs 1;car d at 5 weighs 1;");
        s.log(0, 50, 10);
        s.log(0, 10, 1);
        s.log(0, 30, 2);
        s.log(1, 60, 59);
        s.log(1, 40, 59);
        Check.due("30 and 50", 4, s.logged(0, 0));
        Check.due("40 and 60", 0, s.logged(1, 0));
        s.later(1);
        s.untell(0);
        Check.due("10 and 30", 0, s.logged(0, 1));
        Check.due("as known before", 4, s.logged(0, 0));
        s.log(0, 200, 19);
        Check.due("30 and 200", 1, s.logged(0, 1));
    }

    private static void toldLast() {
        Check.sentence("(of one TICK that TOLD last counts)");
        CableStreet s = Check.street("car c at 5 weighs 1;");
        s.log(0, 1, 0);
        s.log(0, 2, 5);
        s.log(0, 1, 1);
        s.log(0, 2, 7);
        Check.due("1 to 7", 60, s.logged(0, 0));
        s.later(1);
        s.untell(3);
        Check.due("1 to 5", 40, s.logged(0, 1));
        s.untell(2);
        Check.due("0 to 5", 50, s.logged(0, 1));
        Check.due("as known before", 60, s.logged(0, 0));
    }

    private static void notTwo() {
        Check.sentence("-1000 if there are not two of unlike TICKS, or no such CAR");
        CableStreet s = Check.street("car c at 5 weighs 1;car d at 5 weighs 1;");
        Check.due("none", -1000, s.logged(0, 0));
        s.log(0, 5, 1);
        Check.due("one", -1000, s.logged(0, 0));
        s.log(0, 5, 2);
        Check.due("two of one TICK", -1000, s.logged(0, 0));
        s.log(1, 6, 2);
        Check.due("another's", -1000, s.logged(0, 0));
        Check.due("another's", -1000, s.logged(1, 0));
        s.log(0, 6, 2);
        Check.due("two", 0, s.logged(0, 0));
        Check.due("before", -1000, s.logged(0, -1));
        for (int no : new int[] {-1, 2, 5, Integer.MAX_VALUE, Integer.MIN_VALUE}) {
            Check.due("car " + no, -1000, s.logged(no, 0));
        }
        s.untell(3);
        Check.due("untold", -1000, s.logged(0, 0));
    }

    private static void threeBoxes() {
        Check.sentence("is kept in a BOX 0 .. 2: the TICK; NONE if there is none such");
        for (int no : new int[] {-1, 3, Integer.MAX_VALUE, Integer.MIN_VALUE}) {
            Busy.leavesAll("image " + no, -1, s -> s.image(no));
            Busy.leavesAll("back " + no, -1, s -> s.back(no));
        }
        CableStreet s = Check.street(LONG_ROPE + "car c at 5 weighs 1;");
        Check.due("image", 0, s.image(2));
        s.run(3);
        Check.due("image", 3, s.image(0));
        s.run(3);
        Check.due("image", 6, s.image(1));
        Check.due("back", 0, s.back(2));
        Check.car(s, 0, 55, 0, 0);
        Check.due("back", 6, s.back(1));
        Check.car(s, 0, 95, 10, 0);
        Check.due("back", 3, s.back(0));
        Check.car(s, 0, 67, 6, 0);
        Check.due("back", 3, s.back(0));
        Check.due("TICKS", 3, s.about(3));
    }

    private static void nothingKept() {
        Check.sentence("All is as it was kept: the TICK; NONE, doing nothing, if nothing was.");
        Busy.leavesAll("back 0", -1, s -> s.back(0));
        Busy.leavesAll("back 2", -1, s -> s.back(2));
        // BOXES are empty at first, and with another street.
        CableStreet s = new CableStreet();
        for (int box = 0; box < 3; box++) {
            Check.due("back " + box, -1, s.back(box));
            s.image(box);
        }
        Check.tape(s, "let 5;");
        s.street();
        for (int box = 0; box < 3; box++) {
            Check.due("back " + box, -1, s.back(box));
        }
    }

    private static void keptOver() {
        Check.sentence("is kept in a BOX 0 .. 2");
        CableStreet s = Check.street(LONG_ROPE + "car c at 5 weighs 1;");
        s.image(1);
        s.run(7);
        Check.due("over it", 7, s.image(1));
        s.run(7);
        Check.due("back", 7, s.back(1));
        // Going on changes nothing in the BOX.
        s.run(7);
        Check.due("back", 7, s.back(1));
        Busy.leavesAll("image 0", 8, street -> street.image(0));
    }

    /** Kept, gone on from in another way, and brought back: then and later all is as if that had not been. */
    private static void keeps(String name, CableStreet s, CableStreet twin, Busy.Call away) {
        int tick = s.about(3);
        Check.due(name + ": image", tick, s.image(2));
        away.of(s);
        Check.due(name + ": back", tick, s.back(2));
        Check.same(name + ": back", Busy.look(twin), Busy.look(s));
        s.run(30);
        twin.run(30);
        Check.same(name + ": and on", Busy.look(twin), Busy.look(s));
    }

    private static int away(CableStreet s) {
        s.free(0);
        s.halt(7);
        s.strand(0, 5);
        s.run(40);
        s.halt(3);
        s.run(9);
        return 0;
    }

    private static CableStreet ran(String text, int strand, int ticks) {
        CableStreet s = Check.street(text);
        if (strand >= 0) {
            s.strand(0, strand);
        }
        s.run(ticks);
        return s;
    }

    private static void carsAreKept() {
        Check.sentence("All of the CARS, ROPES, the STRAND, SPLICES, the TURNTABLE, counts, EVENTS and TICKS is kept");
        keeps("all", Busy.street(), Busy.street(), LogEdgeTest::away);
        keeps("as many as may be", ran(Busy.FULL, 55, 9), ran(Busy.FULL, 55, 9), LogEdgeTest::away);
        // One that is CAUGHT, and has its let ahead; one that waits.
        String text = SHORT_ROPE + "car c at 3 weighs 1;car d at 1 weighs 1;let 4;stop 1 for 20;";
        keeps("caught", ran(text, 25, 2), ran(text, 25, 2), LogEdgeTest::away);
        Check.due("caught", 1, ran(text, 25, 2).car(0, 3));
        Check.due("waits", 18, ran(text, 25, 2).car(1, 4));
        // One that has entered a SEGMENT with a mark.
        text = LONG_ROPE + "car c at 4 weighs 1;stop 5 for 9;";
        keeps("entered", ran(text, -1, 2), ran(text, -1, 2), LogEdgeTest::away);
        // One that has not: brought back from where it had.
        text = LONG_ROPE + "car c at 4 weighs 1;stop 4 for 9;stop 6 for 9;";
        keeps("not entered", ran(text, -1, 10), ran(text, -1, 10), s -> s.run(4));
    }

    private static void rideIsKept() {
        Check.sentence("All is as it was kept");
        // It gripped a last; gone on, it grips b, and comes back with a: a is cut, not b.
        String text = SHORT_ROPE + "rope b speed 10 long 10 from 8 to 9 bears 9999;car c at 3 weighs 1;let 4;grip 8;drag 0;turn 3;";
        CableStreet s = ran(text, -1, 6);
        keeps("gripped", s, ran(text, -1, 6), street -> street.run(20));
        // A miss that cuts what was gripped when the image was made.
        text = SHORT_ROPE + "rope b speed 10 long 60 from 9 to 59 bears 9999;car c at 3 weighs 1;let 4;grip 9;drag 0;turn 1;";
        s = ran(text, -1, 5);
        Check.car(s, 0, 53, 4, 1);
        s.image(0);
        s.run(200);
        Check.due("back from the turntable", true, s.trips(0) > 0);
        s.back(0);
        Check.due("trips", 0, s.trips(0));
        missesWithA(s);
        // From b, too, which it grips on 9.
        s = ran(text, -1, 5);
        s.image(0);
        s.run(15);
        Check.due("on b", 10, s.rope(1, 0));
        s.back(0);
        missesWithA(s);
    }

    private static void missesWithA(CableStreet s) {
        s.halt(1);
        s.run(2);
        Check.due("misses", 1, s.count(0));
        Check.due("a is cut", 1, s.rope(0, 1));
        Check.due("b is not", 0, s.rope(1, 1));
    }

    private static void tableIsKept() {
        Check.sentence("the TURNTABLE, counts");
        // a on it, b DONE longer than c, which has the least number of those that wait.
        String text = "drag 0;car c at 57 weighs 1;car a at 59 weighs 1;car b at 58 weighs 1;turn 9;grade 56 to 59 -6;";
        CableStreet s = ran(text, -1, 4);
        Check.due("all are done", 333, 100 * s.car(0, 2) + 10 * s.car(1, 2) + s.car(2, 2));
        Check.due("a", 1, s.about(13));
        keeps("table", s, ran(text, -1, 4), street -> street.run(100));
        keeps("order of the done", ran(text, -1, 7), ran(text, -1, 7), street -> street.run(4));
        s = ran(text, -1, 4);
        s.image(0);
        s.run(300);
        s.back(0);
        s.run(6);
        Check.due("a is back, and b on it", 2, s.about(13));
        s.run(9);
        Check.due("c on it", 0, s.about(13));
        // Gone on, b has to wait, and c is DONE ahead of it; brought back, b is DONE the longest again.
        text = LONG_ROPE + "car c at 57 weighs 1;car a at 59 weighs 1;car b at 58 weighs 1;turn 9;";
        s = ran(text, -1, 6);
        Check.due("all are done", 0, s.run(0));
        s.image(0);
        s.run(14);
        Check.due("b is back", 1, s.trips(2));
        s.halt(99);
        s.run(200);
        s.back(0);
        s.run(5);
        Check.due("a is back, and b on it", 2, s.about(13));
    }

    private static void ropesAreKept() {
        Check.sentence("CARS, ROPES, the STRAND, SPLICES");
        String text = SLOW_ROPE + "car c at 10 weighs 1;splice x on a at 99 lasts 2;";
        CableStreet s = ran(text, 55, 1);
        s.image(0);
        Check.due("strand", 56, s.strandNow(1));
        Check.due("wear", 1, s.splice(0, 3));
        s.run(30);
        Check.due("cut", 1, s.rope(0, 1));
        s.back(0);
        Check.due("not cut", 0, s.rope(0, 1));
        Check.due("wear", 1, s.splice(0, 3));
        Check.due("place", 100, s.splice(0, 1));
        Check.due("strand", 0, s.strandNow(0));
        Check.due("strand", 56, s.strandNow(1));
        // Six splices on one SEGMENT with the car, each worn in every TICK.
        StringBuilder six = new StringBuilder(SLOW_ROPE + "car c at 10 weighs 1;");
        for (char name = 'a'; name <= 'f'; name++) {
            six.append("splice ").append(name).append(" on a at 99 lasts 99;");
        }
        keeps("six splices", ran(six.toString(), -1, 1), ran(six.toString(), -1, 1), street -> street.run(3));
        // No STRAND is kept as well as one.
        s = Check.street(text);
        s.image(0);
        s.strand(0, 5);
        s.back(0);
        Check.due("no strand", -1, s.strandNow(0));
        // A rope that was cut, too.
        s = Check.street(SHORT_ROPE + "car c at 4 weighs 1;");
        s.image(0);
        s.run(3);
        s.image(1);
        s.back(0);
        Check.due("not cut", 0, s.rope(0, 1));
        s.back(1);
        Check.due("cut", 1, s.rope(0, 1));
    }

    private static void eventsAreKept() {
        Check.sentence("counts, EVENTS and TICKS is kept");
        // Kept with a CAUGHT of c as its first; gone back, it is DIPs that are there; then brought back again.
        String text = SHORT_ROPE.replace("9999", "10") + "car c at 3 weighs 1;car d at 0 weighs 1;cross 1 when tick > 2;";
        CableStreet s = Check.street(text);
        s.image(0);
        s.strand(0, 30);
        s.run(2);
        s.image(1);
        String kept = Busy.look(s);
        s.back(0);
        Check.due("no EVENTS", 0, s.about(12));
        Check.due("event 0", -1, s.event(0, 0));
        s.halt(1);
        s.run(9);
        s.back(1);
        Check.same("EVENTS", kept, Busy.look(s));
        // The latest CAUGHT is that of then, not a later one.
        s = Check.street(SHORT_ROPE + "car c at 1 weighs 1;");
        s.strand(0, 5);
        s.run(1);
        s.image(0);
        s.strand(0, 5);
        s.run(1);
        Check.due("caught twice", 2, s.about(12));
        s.back(0);
        s.run(7);
        Check.event(s, 1, 7, 0, 0, -1, 0);
        // The latest HELD BACK likewise: it rolls, and is held back once more, which is not yet when it is brought back.
        s = Check.street(LONG_ROPE + "car c at 4 weighs 50;cross 5 when 0;cross 3 when 0;grade 4 to 4 5;");
        s.run(2);
        s.image(0);
        s.run(2);
        Check.event(s, 1, 3, 5, 0, -1, 0);
        Check.event(s, 2, 4, 6, 0, -1, -1);
        s.back(0);
        s.run(1);
        Check.event(s, 1, 3, 5, 0, -1, 0);
        s = Check.street(LONG_ROPE + "car c at 4 weighs 9;cross 5 when tick > 5;grade 5 to 5 2;brake 17;stop 5 for 9;");
        s.run(2);
        s.image(0);
        s.run(3);
        Check.due("held back twice", 2, s.about(12));
        s.image(1);
        s.back(0);
        s.halt(9);
        s.run(2);
        s.back(1);
        s.run(3);
        Check.event(s, 2, 8, 5, 0, -1, 1);
        s.back(0);
        s.run(9);
        Check.event(s, 1, 5, 6, 0, -1, -1);
        Check.event(s, 2, 8, 5, 0, -1, 1);
    }

    private static void logsAreNotKept() {
        Check.sentence("All of the CARS, ROPES, the STRAND, SPLICES, the TURNTABLE, counts, EVENTS and TICKS is kept in a BOX");
        CableStreet s = Check.street("car c at 5 weighs 1;");
        s.log(0, 1, 9);
        s.image(0);
        s.log(0, 1, 8);
        s.later(4);
        s.untell(0);
        s.feed(0, 0, 0, 0, 0);
        s.back(0);
        Check.due("logs", 2, s.about(4));
        Check.due("the TIME", 4, s.about(5));
        Check.due("the tape", 20, s.about(6));
        Check.due("untold", false, s.untell(0));
        Check.due("false", 1, s.judge(0, 4));
    }
}
