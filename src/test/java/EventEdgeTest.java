/** ==== 2 of the document: e, BUMPS, the TURNTABLE and EVENTS at each bound. */
public final class EventEdgeTest {
    private static final String LONG_ROPE = "rope a speed 10 long 60 from 0 to 59 bears 9999;";
    /** Ends behind SEGMENT 4, so that one that grips on 5 misses. */
    private static final String SHORT_ROPE = "rope a speed 10 long 20 from 0 to 4 bears 9999;";

    private EventEdgeTest() {
    }

    public static void main(String[] args) {
        wrapping();
        ofWhatIsNotZero();
        relations();
        valuesOfTheCar();
        tickNumbers();
        aheadAndBehind();
        loadThen();
        bumpsApart();
        bumpsOfPairs();
        bumpsAheadOfTheTable();
        tableTicks();
        tableLongest();
        backAsEntered();
        sixtyKept();
        lastKept();
        causeOfMiss();
        causeOfRolls();
        causeOfCut();
        noOtherCause();
        Check.end();
    }

    private static int value(String e) {
        return Check.street(LONG_ROPE + "car c at 5 weighs 7;cross 30 when " + e + ";").asks(30, 0);
    }

    private static void wrapping() {
        Check.sentence("e: ints, wrapping");
        Check.due("times", 9000 * 9000 * 30, value("9000*9000*30"));
        Check.due("times, to 0", 0, value("256*256*(256*256)"));
        Check.due("times, to the least", Integer.MIN_VALUE, value("256*256*256*128"));
        Check.due("plus", Integer.MIN_VALUE, value("256*256*256*64+(256*256*256*64-1)+1"));
        Check.due("the most", Integer.MAX_VALUE, value("256*256*256*64+(256*256*256*64-1)"));
        Check.due("minus", Integer.MAX_VALUE, value("0-256*256*256*128-1"));
        Check.due("compared as they are then", 1, value("256*256*256*128 < 0"));
        Check.due("least below most", 1, value("256*256*256*128 < 256*256*256*128-1"));
        // What wraps to 0 holds one back.
        CableStreet s = Check.street(LONG_ROPE + "car c at 4 weighs 1;cross 5 when 256*256*256*256;");
        s.run(2);
        Check.due("held back", 1, s.count(5));
    }

    private static void ofWhatIsNotZero() {
        Check.sentence("relations, and, or, not are 1 or 0, of what is not 0");
        int[][] table = {{0, 0, 0, 0}, {0, 1, 0, 1}, {1, 0, 0, 1}, {1, 1, 1, 1}, {0, 5, 0, 1}, {5, 0, 0, 1}, {5, 7, 1, 1},
            {0, -1, 0, 1}, {-1, 0, 0, 1}, {-1, -1, 1, 1}, {-1, 1, 1, 1}, {1, -1, 1, 1}};
        for (int[] row : table) {
            String a = row[0] < 0 ? "(0-" + -row[0] + ")" : "" + row[0];
            String b = row[1] < 0 ? "(0-" + -row[1] + ")" : "" + row[1];
            Check.due(a + " and " + b, row[2], value(a + " and " + b));
            Check.due(a + " or " + b, row[3], value(a + " or " + b));
            Check.due("not " + a, row[0] == 0 ? 1 : 0, value("not " + a));
        }
        Check.due("and binds closer than or", 1, value("1 or 1 and 0"));
        Check.due("and binds closer than or", 1, value("0 and 1 or 1"));
        Check.due("many", 1, value("0 or 0 or 0 or 3"));
        Check.due("many", 0, value("1 and 2 and 3 and 0"));
    }

    private static void relations() {
        Check.sentence("one = not one | sum [(< | > | =) sum]");
        int[][] table = {{1, 2}, {2, 1}, {2, 2}, {0, 9999}};
        for (int[] row : table) {
            Check.due(row[0] + " < " + row[1], row[0] < row[1] ? 1 : 0, value(row[0] + "<" + row[1]));
            Check.due(row[0] + " > " + row[1], row[0] > row[1] ? 1 : 0, value(row[0] + ">" + row[1]));
            Check.due(row[0] + " = " + row[1], row[0] == row[1] ? 1 : 0, value(row[0] + "=" + row[1]));
        }
        Check.fault(2, "cross 5 when 1 < 2 @< 3;");
        Check.fault(2, "cross 5 when 1 = @= 3;");
        Check.due("not of it whole", 0, value("not 1 < 2"));
        Check.due("sums first", 1, value("1 + 2 < 2 * 2"));
        Check.due("from the left", 1, value("9 - 5 - 3"));
        Check.due("from the left", 7, value("9 - 5 + 3"));
    }

    private static void valuesOfTheCar() {
        Check.sentence("car: the CAR's number; speed: v; weighs");
        CableStreet s = Check.street(LONG_ROPE + "car a at 1 weighs 1;car b at 2 weighs 99;car c at 3 weighs 3;car d at 4 weighs 4;car e at 5 weighs 5;cross 30 when car;cross 31 when weighs;");
        int[] weighs = {1, 99, 3, 4, 5};
        for (int c = 0; c < 5; c++) {
            Check.due("car", c, s.asks(30, c));
            Check.due("weighs", weighs[c], s.asks(31, c));
        }
        s = Check.street("car c at 5 weighs 1;drag 0;grade 5 to 5 3;cross 31 when speed;");
        s.run(1);
        Check.due("speed below 0", -3, s.asks(31, 0));
    }

    private static void tickNumbers() {
        Check.sentence("tick: the number of the TICK");
        // The first TICK is 1.
        CableStreet s = Check.street("car c at 5 weighs 1;drag 0;grade 5 to 5 -5;cross 6 when not tick = 1;cross 9 when tick;");
        Check.due("the next", 1, s.asks(9, 0));
        s.run(1);
        Check.due("held back in TICK 1", 1, s.count(5));
        Check.due("the next", 2, s.asks(9, 0));
        s = Check.street("car c at 5 weighs 1;drag 0;grade 5 to 5 -5;cross 6 when tick = 1;");
        s.run(1);
        Check.due("held back in TICK 1", 0, s.count(5));
        s = Check.street("car c at 5 weighs 1;cross 9 when tick;");
        for (int n = 0; n < 200; n++) {
            s.run(500);
        }
        Check.due("behind the last", 100001, s.asks(9, 0));
    }

    private static void aheadAndBehind() {
        Check.sentence("tenths to the nearest CAR that is not DONE and whose x is above its own, below its own, as they stand then (999 without)");
        String crosses = "cross 30 when ahead;cross 31 when behind;";
        CableStreet s = Check.street(crosses + "car c at 5 weighs 1;");
        Check.due("alone", 999, s.asks(30, 0));
        Check.due("alone", 999, s.asks(31, 0));
        s = Check.street(crosses + "car c at 5 weighs 1;car d at 5 weighs 1;");
        Check.due("at one place", 999, s.asks(30, 0));
        Check.due("at one place", 999, s.asks(31, 1));
        s = Check.street(crosses + "car c at 0 weighs 1;car d at 59 weighs 1;car e at 58 weighs 1;car f at 1 weighs 1;");
        Check.due("the nearest", 10, s.asks(30, 0));
        Check.due("none", 999, s.asks(31, 0));
        Check.due("none", 999, s.asks(30, 1));
        Check.due("the nearest", 10, s.asks(31, 1));
        Check.due("far", 570, s.asks(30, 3));
        Check.due("far", 570, s.asks(31, 2));
        // A tenth apart is ahead and behind already.
        s = Check.street(crosses + "car c at 5 weighs 1;car d at 5 weighs 1;rope a speed 1 long 60 from 0 to 59 bears 9999;");
        s.strand(0, 0);
        s.run(1);
        Check.due("both go on", 999, s.asks(30, 0));
        s = Check.street(crosses + "car c at 5 weighs 1;car d at 4 weighs 1;drag 0;grade 4 to 4 -9;");
        s.run(1);
        Check.due("one tenth", 1, s.asks(30, 1));
        Check.due("one tenth", 1, s.asks(31, 0));
        Check.due("none behind", 999, s.asks(31, 1));
        // DONE ones are near nobody.
        s = Check.street(crosses + LONG_ROPE + "car c at 59 weighs 1;car d at 5 weighs 1;");
        s.run(1);
        Check.due("not DONE yet", 597 - 57, s.asks(30, 1));
        s.run(1);
        Check.due("DONE", 999, s.asks(30, 1));
    }

    private static void loadThen() {
        Check.sentence("load: LOAD of a ROPE then");
        CableStreet s = Check.street(LONG_ROPE.replace("59 b", "9 b") + "rope b speed 1 long 10 from 10 to 19 bears 1;rope c speed 1 long 10 from 20 to 29 bears 1;"
                + "car c at 5 weighs 1;car d at 10 weighs 2;car e at 29 weighs 3;cross 30 when load 0;cross 31 when load 1;cross 32 when load 2;");
        Check.due("load 0", 10, s.asks(30, 0));
        Check.due("load 1", 20, s.asks(31, 0));
        Check.due("load 2", 30, s.asks(32, 0));
        // In a TICK: c has let go when d asks.
        s = Check.street(LONG_ROPE + "car c at 20 weighs 3;car d at 4 weighs 2;let 20;drag 0;grade 4 to 4 1;cross 5 when load 0 = 22;");
        s.run(2);
        Check.due("held back", 0, s.count(5));
        // Of a rope that is cut, too.
        s = Check.street(SHORT_ROPE + "car c at 4 weighs 1;car d at 1 weighs 2;stop 1 for 3;cross 30 when load 0;");
        s.run(3);
        Check.due("cut", 1, s.rope(0, 1));
        Check.due("load", 20, s.asks(30, 0));
    }

    private static void bumpsApart() {
        Check.sentence("pairs of CARS that are not DONE and no more than 5 tenths apart");
        CableStreet s = Check.street("rope a speed 1 long 60 from 0 to 59 bears 9999;car c at 1 weighs 1;car d at 0 weighs 1;stop 1 for 99;");
        s.run(4);
        Check.car(s, 1, 9, 1, 0);
        Check.due("6 apart", 0, s.count(4));
        s.run(1);
        Check.due("5 apart", 1, s.count(4));
        // d passes by c, which stands at 15: from 5 behind it to 5 ahead of it, in eleven TICKS.
        s = Check.street("rope a speed 1 long 60 from 0 to 59 bears 9999;car c at 1 weighs 1;car d at 0 weighs 1;let 1;drag 0;");
        s.run(15);
        Check.car(s, 0, 15, 0, 1);
        Check.car(s, 1, 20, 1, 1);
        Check.due("5 ahead", 11, s.count(4));
        s.run(1);
        Check.due("6 ahead", 11, s.count(4));
    }

    private static void bumpsOfPairs() {
        Check.sentence("pairs of CARS that are not DONE");
        CableStreet s = Check.street("car a at 3 weighs 1;car b at 3 weighs 1;car c at 3 weighs 1;car d at 3 weighs 1;car e at 3 weighs 1;");
        s.run(1);
        Check.due("ten pairs", 10, s.count(4));
        s.run(1);
        Check.due("in each TICK", 20, s.count(4));
        s = Check.street("car a at 3 weighs 1;car b at 40 weighs 1;");
        s.run(5);
        Check.due("far apart", 0, s.count(4));
        // One DONE at 599, the other near it at 597, whichever is told first.
        for (int done = 0; done < 2; done++) {
            s = Check.street(LONG_ROPE + "car c at " + (59 - done) + " weighs 1;car d at " + (58 + done) + " weighs 1;");
            s.run(3);
            Check.car(s, done, 599, 0, 3);
            Check.car(s, 1 - done, 597, 6, 0);
            Check.due("bumps", 0, s.count(4));
        }
        Check.due("alone", 0, Check.street("car c at 5 weighs 1;").count(4));
    }

    private static void bumpsAheadOfTheTable() {
        Check.sentence("BUMPS: in a TICK's end");
        CableStreet s = Check.street(LONG_ROPE + "car c at 59 weighs 1;car d at 0 weighs 1;turn 1;stop 0 for 99;");
        s.run(3);
        Check.car(s, 0, 0, 0, 0);
        Check.car(s, 1, 5, 0, 2);
        Check.due("back behind the bumps", 0, s.count(4));
        s.run(1);
        Check.due("in the next TICK", 1, s.count(4));
    }

    private static void tableTicks() {
        Check.sentence("if a CAR is on it, it is so one TICK less; with none left it comes BACK");
        int[] turns = {1, 2, 99};
        for (int turn : turns) {
            CableStreet s = Check.street(LONG_ROPE + "car c at 59 weighs 1;turn " + turn + ";");
            s.run(2);
            Check.due("comes on it", 0, s.about(13));
            Check.due("is DONE", 3, s.car(0, 2));
            s.run(turn - 1);
            Check.due("on it", 0, s.about(13));
            Check.due("trips", 0, s.trips(0));
            Check.due("run", 1, s.run(1));
            Check.due("on it", -1, s.about(13));
            Check.car(s, 0, 0, 0, 0);
            Check.due("trips", 1, s.trips(0));
            Check.due("back", 1, s.count(7));
            Check.event(s, 0, 2 + turn, 8, 0, -1, -1);
        }
        // Nobody is DONE: nobody is on it.
        CableStreet s = Check.street(LONG_ROPE + "car c at 5 weighs 1;turn 1;");
        s.run(9);
        Check.due("on it", -1, s.about(13));
    }

    private static void tableLongest() {
        Check.sentence("If none is on it, the CAR that is DONE the longest (of like ones the least number) comes on it, for turn TICKS.");
        // DONE in TICKS 4, 2, 2, 3: d (58 is 585, 587, 591, 597, 605 ..) comes last though its number is least.
        CableStreet s = Check.street("drag 0;car c at 57 weighs 1;car d at 59 weighs 1;car e at 59 weighs 1;car f at 58 weighs 1;turn 2;grade 56 to 59 -6;");
        s.run(1);
        Check.due("d, e are done", 33, 10 * s.car(1, 2) + s.car(2, 2));
        Check.due("the least of like ones", 1, s.about(13));
        s.run(1);
        Check.due("f is done", 3, s.car(3, 2));
        s.run(1);
        Check.due("c is done", 3, s.car(0, 2));
        Check.due("d is back", 1, s.trips(1));
        Check.due("e", 2, s.about(13));
        s.run(2);
        Check.due("f", 3, s.about(13));
        s.run(2);
        Check.due("c", 0, s.about(13));
        s.run(1);
        Check.due("c still", 0, s.about(13));
        s.run(1);
        Check.due("none", -1, s.about(13));
        Check.due("back", 4, s.count(7));
    }

    private static void backAsEntered() {
        Check.sentence("x 0, v 0, GRIPS, having gripped none, not CAUGHT, as one that entered its SEGMENT");
        String text = "rope a speed 10 long 60 from 0 to 59 bears 9999;car c at 59 weighs 1;turn 1;";
        CableStreet s = Check.street(text + "let 0;");
        s.run(3);
        Check.car(s, 0, 0, 0, 0);
        s.run(1);
        Check.car(s, 0, 0, 0, 1);
        s = Check.street(text);
        s.strand(0, 585);
        s.run(2);
        Check.due("caught", 1, s.car(0, 3));
        s.run(1);
        Check.due("caught", 0, s.car(0, 3));
        Check.due("free", false, s.free(0));
        // Gripped none: the rope at the street's end is not cut when it misses at its begin.
        s = Check.street("rope a speed 10 long 60 from 50 to 59 bears 9999;car c at 59 weighs 1;turn 1;");
        s.run(4);
        Check.due("misses", 1, s.count(0));
        Check.due("cuts", 0, s.count(2));
    }

    private static void sixtyKept() {
        Check.sentence("EVENTS: the first 60 are kept, as they come");
        CableStreet s = Check.street("rope a speed 1 long 60 from 0 to 59 bears 1;car c at 9 weighs 99;");
        s.run(59);
        Check.due("kept", 59, s.about(12));
        Check.due("event 58", 59, s.event(58, 0));
        Check.due("event 59", -1, s.event(59, 0));
        s.run(1);
        Check.due("kept", 60, s.about(12));
        Check.event(s, 59, 60, 3, -1, 0, -1);
        s.run(1);
        Check.due("kept", 60, s.about(12));
        Check.event(s, 59, 60, 3, -1, 0, -1);
        Check.event(s, 0, 1, 3, -1, 0, -1);
        Check.due("event 60", -1, s.event(60, 0));
        Check.due("all are counted", 61, s.count(3));
    }

    private static void lastKept() {
        Check.sentence("one that is not kept is none");
        // b dips in every TICK; c misses in TICK 3, if it does not wait.
        String text = SHORT_ROPE + "rope b speed 1 long 60 from 20 to 29 bears 1;car c at 4 weighs 1;car d at 22 weighs 9;stop 4 for ";
        CableStreet s = Check.street(text + "55;");
        s.run(70);
        Check.event(s, 58, 58, 0, 0, -1, -1);
        Check.event(s, 59, 58, 2, 0, 0, 58);
        s = Check.street(text + "56;");
        s.run(70);
        Check.event(s, 58, 59, 3, -1, 1, -1);
        Check.event(s, 59, 59, 0, 0, -1, -1);
        Check.due("event 60", -1, s.event(60, 1));
        Check.due("kept", 60, s.about(12));
        Check.due("the cut is counted", 1, s.count(2));
        s = Check.street(text + "57;");
        s.run(70);
        Check.event(s, 59, 60, 3, -1, 1, -1);
        Check.due("the miss is counted", 1, s.count(0));
        Check.due("the rope is cut", 1, s.rope(0, 1));
    }

    private static void causeOfMiss() {
        Check.sentence("0 MISS of a CAR (CAUSE: the latest CAUGHT of it)");
        // Caught twice: the later one. The other car's is not its own.
        CableStreet s = Check.street(SHORT_ROPE + "car c at 3 weighs 1;car d at 1 weighs 1;catch 5;");
        s.strand(0, 25);
        s.run(1);
        s.free(0);
        s.strand(0, 25);
        s.run(1);
        s.strand(0, 15);
        s.run(1);
        Check.event(s, 0, 1, 4, 0, 0, -1);
        Check.event(s, 1, 2, 4, 0, 0, -1);
        Check.event(s, 2, 3, 4, 1, 0, -1);
        s.run(2);
        Check.event(s, 3, 5, 0, 0, -1, 1);
        Check.event(s, 4, 5, 1, 0, -1, 3);
        // Though it is free again, it was CAUGHT.
        s = Check.street(SHORT_ROPE + "car c at 4 weighs 1;");
        s.strand(0, 35);
        s.run(1);
        s.free(0);
        s.run(2);
        Check.event(s, 1, 3, 0, 0, -1, 0);
        // It was so on the trip before, too.
        s = Check.street("rope a speed 10 long 60 from 50 to 59 bears 9999;car c at 59 weighs 1;turn 1;");
        s.strand(0, 85);
        s.run(4);
        Check.event(s, 0, 1, 4, 0, 0, -1);
        Check.event(s, 1, 3, 8, 0, -1, -1);
        Check.event(s, 2, 4, 0, 0, -1, 0);
        // Never caught: none.
        s = Check.street(SHORT_ROPE + "car c at 4 weighs 1;car d at 1 weighs 1;");
        s.strand(0, 5);
        s.run(3);
        Check.event(s, 0, 1, 4, 1, 0, -1);
        Check.event(s, 1, 3, 0, 0, -1, -1);
    }

    private static void causeOfRolls() {
        Check.sentence("5 ROLLS: a CAR that WAITS is not held (the latest HELD BACK of it)");
        // c is held back in TICKS 2 and 5; then all must wait, where brakes do not hold.
        CableStreet s = Check.street(LONG_ROPE + "car c at 4 weighs 9;car d at 24 weighs 9;cross 5 when 0;cross 25 when 0;grade 24 to 24 2;brake 17;");
        s.run(2);
        Check.event(s, 0, 2, 6, 0, -1, -1);
        Check.event(s, 1, 2, 6, 1, -1, -1);
        s.run(1);
        Check.event(s, 2, 3, 5, 1, -1, 1);
        s = Check.street(LONG_ROPE + "car c at 4 weighs 9;cross 5 when tick > 5;grade 5 to 5 2;brake 17;stop 5 for 9;");
        s.run(6);
        Check.event(s, 0, 2, 6, 0, -1, -1);
        Check.event(s, 1, 5, 6, 0, -1, -1);
        s.run(2);
        Check.due("rolls", 1, s.count(6));
        Check.event(s, 2, 8, 5, 0, -1, 1);
        // On the trip before, too.
        s = Check.street(LONG_ROPE + "car c at 58 weighs 99;cross 59 when tick > 3;turn 1;stop 0 for 5;grade 0 to 0 9;");
        s.run(12);
        Check.event(s, 0, 2, 6, 0, -1, -1);
        Check.due("back", 8, s.event(1, 1));
        Check.due("rolls", 5, s.event(2, 1));
        Check.due("held back", 0, s.event(2, 4));
        // Not held back ever: none.
        s = Check.street(LONG_ROPE + "car c at 4 weighs 9;car d at 24 weighs 9;cross 5 when 0;grade 24 to 26 2;brake 17;");
        s.run(2);
        s.halt(1);
        s.run(1);
        Check.event(s, 1, 3, 5, 1, -1, -1);
    }

    private static void causeOfCut() {
        Check.sentence("2 CUT of a ROPE, by a CAR or none (the MISS, or WORN)");
        CableStreet s = Check.street(SHORT_ROPE + "rope b speed 1 long 10 from 10 to 19 bears 9999;splice x on b at 19 lasts 2;car c at 4 weighs 1;car d at 12 weighs 1;");
        s.run(3);
        Check.event(s, 0, 2, 7, -1, 1, -1);
        Check.event(s, 1, 2, 2, -1, 1, 0);
        Check.event(s, 2, 3, 0, 0, -1, -1);
        Check.event(s, 3, 3, 2, 0, 0, 2);
    }

    private static void noOtherCause() {
        Check.sentence("Other ones have no CAUSE");
        CableStreet s = Busy.street();
        s.run(25);
        boolean[] seen = new boolean[9];
        for (int i = 0; i < s.about(12); i++) {
            int sort = s.event(i, 1);
            seen[sort] = true;
            if (sort == 3 || sort == 4 || sort == 6 || sort == 7 || sort == 8) {
                Check.due("cause of " + i, -1, s.event(i, 4));
            }
        }
        Check.due("dip, caught, held back, back were there", true, seen[3] && seen[4] && seen[6] && seen[8]);
    }
}
