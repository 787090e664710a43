import java.util.function.Supplier;

/** ==== 3 of the document: WHAT COMES at each bound. */
public final class ComingEdgeTest {
    private static final String LONG_ROPE = "rope a speed 10 long 60 from 0 to 59 bears 9999;";
    private static final String SLOW_ROPE = "rope a speed 1 long 60 from 0 to 59 bears 9999;";
    /** Ends behind SEGMENT 4, so that one that grips on 5 misses. */
    private static final String SHORT_ROPE = "rope a speed 10 long 20 from 0 to 4 bears 9999;";

    private static final int MAX = Integer.MAX_VALUE;
    private static final int MIN = Integer.MIN_VALUE;

    private ComingEdgeTest() {
    }

    public static void main(String[] args) {
        leavesAll();
        comes();
        coastsFrom();
        coastsToARope();
        coastsTillZeroOrTurned();
        coastsOffTheStreet();
        coastsAtMost500();
        firstBehindATick();
        needs();
        takesWithin500();
        headOfTheNextTicks();
        headOfThoseNotDone();
        spreadWaits();
        spreadOfOneThatWaits();
        spreadOfLikeOnes();
        powerAsEachTickBegins();
        powerOfRopesNotCut();
        peaks();
        runawayBrakes();
        runawayTillZero();
        runawayLeaves();
        runawayAtMost500();
        orders();
        dueIn500();
        costs();
        rollsAsBits();
        whereInTheLoop();
        dueRefused();
        costRefused();
        rollsAnswered();
        coastsRefused();
        coastsAnswered();
        needRefused();
        takesNone();
        spreadRefused();
        powerRefused();
        runawayRefused();
        orderRefused();
        whereRefused();
        Check.end();
    }

    private static void leaves(String name, Busy.Call call) {
        Busy.leavesAll(name, call.of(Busy.street()), call);
    }

    private static void leavesAll() {
        Check.sentence("WHAT COMES is found on what there is, and leaves it as it was.");
        leaves("due", s -> s.due(0) + s.due(1));
        leaves("cost", s -> s.cost(7, 300));
        leaves("rolls", s -> s.rolls());
        leaves("coasts", s -> s.coasts(20, 60, 0));
        leaves("need", s -> s.need(20));
        leaves("takes", s -> s.takes());
        leaves("head", s -> s.head(300));
        leaves("spread", s -> s.spread(0, 0));
        leaves("power", s -> s.power(300, 0) + s.power(300, 1));
        leaves("runaway", s -> s.runaway(0, 8));
        leaves("order", s -> s.order(0));
        leaves("where", s -> s.where(0, 33, 9));
        leaves("asks", s -> s.asks(14, 1));
        leaves("judge", s -> s.judge(0, 3));
    }

    private static void comes() {
        Check.sentence("WHAT COMES is found on what there is");
        foretold("busy", Busy::street);
        foretold("full", () -> {
            CableStreet s = Check.street(Busy.FULL);
            s.strand(2, 5);
            s.run(3);
            return s;
        });
    }

    /** HEAD, POWER and PEAK are what then comes, TICK by TICK. */
    private static void foretold(String name, Supplier<CableStreet> make) {
        CableStreet s = make.get();
        CableStreet asked = make.get();
        int head = -1;
        int power = 0;
        int peak = 0;
        for (int n = 1; n <= 12; n++) {
            int loads = 0;
            for (int r = 0; r < s.about(0); r++) {
                loads += s.rope(r, 1) == 1 ? 0 : s.rope(r, 0);
            }
            power += loads;
            peak = Math.max(peak, loads);
            s.run(1);
            int gap = gap(s);
            head = gap < 0 ? head : head < 0 ? gap : Math.min(head, gap);
            Check.due(name + ": head " + n, head, asked.head(n));
            Check.due(name + ": power " + n, power, asked.power(n, 0));
            Check.due(name + ": peak " + n, peak, asked.power(n, 1));
        }
    }

    private static int gap(CableStreet s) {
        int[] x = new int[s.about(1)];
        int least = -1;
        for (int a = 0; a < x.length; a++) {
            x[a] = s.car(a, 2) == 3 ? -1 : s.car(a, 0);
            for (int b = 0; b < a; b++) {
                if (x[a] >= 0 && x[b] >= 0) {
                    int gap = Math.abs(x[a] - x[b]);
                    least = least < 0 ? gap : Math.min(least, gap);
                }
            }
        }
        return least;
    }

    private static void coast(CableStreet s, int segment, int v, int... due) {
        for (int what = 0; what < 3; what++) {
            Check.due("coasts " + segment + ", " + v + ", " + what, due[what], s.coasts(segment, v, what));
        }
    }

    private static void coastsFrom() {
        Check.sentence("COASTS from a SEGMENT's begin (x 10 times it) at v (-60 .. 60), OFF");
        CableStreet s = Check.street("drag 0;");
        coast(s, 0, 60, -1, 0, 10);
        coast(s, 59, -60, -1, 0, 10);
        coast(s, 59, 60, -1, 0, 1);
        coast(s, 0, -60, -1, 0, 1);
        // From its first tenth: 9 stays on it, 10 does not.
        s = Check.street("drag 9;");
        coast(s, 20, 18, 20, 0, 2);
        coast(s, 20, 19, 21, 0, 3);
        coast(s, 20, -10, 19, 0, 2);
        coast(s, 20, -9, 20, 0, 1);
    }

    private static void coastsToARope() {
        Check.sentence("till it is on a SEGMENT with a ROPE (CUT or not)");
        String text = SHORT_ROPE + "rope b speed 1 long 10 from 8 to 8 bears 1;car c at 4 weighs 1;drag 0;";
        CableStreet s = Check.street(text);
        coast(s, 5, -1, 4, 1, 1);
        coast(s, 6, -1, 4, 1, 11);
        coast(s, 7, 1, 8, 1, 10);
        coast(s, 7, 10, 8, 1, 1);
        coast(s, 9, -1, 8, 1, 1);
        // It may pass over one.
        coast(s, 6, 40, -1, 0, 14);
        s.run(3);
        Check.due("cut", 1, s.rope(0, 1));
        coast(s, 5, -1, 4, 1, 1);
        coast(s, 6, -1, 4, 1, 11);
    }

    private static void coastsTillZeroOrTurned() {
        Check.sentence("or v is 0 or has another sign than it had");
        CableStreet s = Check.street("drag 1;grade 20 to 29 4;grade 30 to 39 -4;");
        coast(s, 10, 1, 10, 0, 1);
        coast(s, 10, 2, 10, 0, 2);
        coast(s, 10, -1, 10, 0, 1);
        coast(s, 10, -2, 9, 0, 2);
        // 5 - 4 - 1 is 0; 4 - 4 is 0; 3 - 4 is -1, and 0 by drag; 2 - 4 is -2, and -1: turned.
        coast(s, 20, 5, 20, 0, 1);
        coast(s, 20, 4, 20, 0, 1);
        coast(s, 20, 3, 20, 0, 1);
        coast(s, 20, 2, 19, 0, 1);
        coast(s, 20, 6, 19, 0, 2);
        coast(s, 30, -2, 30, 0, 1);
        coast(s, 30, -5, 30, 0, 1);
        coast(s, 30, -6, -1, 0, 19);
        coast(s, 10, 0, 10, 0, 1);
        // From v 0 on a grade it has a sign, which is another than 0 had: read so, see NOTES.md.
        coast(s, 20, 0, 19, 0, 1);
        coast(s, 30, 0, 30, 0, 1);
    }

    private static void coastsOffTheStreet() {
        Check.sentence("or it leaves the street");
        CableStreet s = Check.street("drag 0;");
        coast(s, 59, 9, -1, 0, 2);
        coast(s, 59, 10, -1, 0, 1);
        coast(s, 0, -1, -1, 0, 1);
        // At 0 it is on the street still.
        coast(s, 1, -10, -1, 0, 2);
        coast(s, 1, -11, -1, 0, 1);
        // Beside the street there is no rope.
        s = Check.street(LONG_ROPE + "drag 0;");
        coast(s, 0, -1, -1, 0, 1);
        coast(s, 59, 10, -1, 0, 1);
        coast(s, 59, 9, 59, 1, 1);
    }

    private static void coastsAtMost500() {
        Check.sentence("at most 500 TICKS (first of these behind a TICK)");
        CableStreet s = Check.street("drag 0;");
        coast(s, 0, 1, 50, 0, 500);
        coast(s, 9, 1, 59, 0, 500);
        coast(s, 10, 1, -1, 0, 500);
        coast(s, 11, 1, -1, 0, 490);
        coast(s, 59, -1, 9, 0, 500);
        coast(s, 50, -1, 0, 0, 500);
        coast(s, 49, -1, -1, 0, 491);
        s = Check.street("drag 0;rope a speed 1 long 10 from 50 to 50 bears 1;");
        coast(s, 0, 1, 50, 1, 500);
        s = Check.street("drag 0;rope a speed 1 long 10 from 51 to 51 bears 1;");
        coast(s, 0, 1, 50, 0, 500);
        Check.due("need", 2, s.need(0));
    }

    private static void firstBehindATick() {
        Check.sentence("(first of these behind a TICK)");
        // It begins on a rope, and is asked behind a TICK alone, when it is beside it.
        CableStreet s = Check.street("drag 0;rope a speed 1 long 10 from 5 to 5 bears 1;");
        coast(s, 5, 10, -1, 0, 55);
        coast(s, 5, 9, 5, 1, 1);
        coast(s, 5, -1, -1, 0, 51);
        coast(s, 5, 0, 5, 1, 1);
    }

    private static void needs() {
        Check.sentence("NEED: the least v (1 .. 60) at which it comes to a ROPE so.");
        // With drag 9 at 60: 51, 42, 33, 24, 15, 6: 171 in all; at 59: 165.
        CableStreet s = Check.street("drag 9;rope a speed 1 long 60 from 17 to 59 bears 1;");
        Check.due("need 60", 60, s.need(0));
        Check.due("59 is not enough", 0, s.coasts(0, 59, 1));
        s = Check.street("drag 9;rope a speed 1 long 60 from 18 to 59 bears 1;");
        Check.due("61 would be", -1, s.need(0));
        Check.due("from 1 on", 60, s.need(1));
        Check.due("on it", 1, s.need(18));
        Check.due("at its end", 1, s.need(59));
        // More than enough may pass over it: the least is told.
        s = Check.street("drag 0;rope a speed 1 long 10 from 10 to 10 bears 1;");
        Check.due("least", 1, s.need(9));
        Check.due("and at 59", -1, s.need(59));
    }

    private static void takesWithin500() {
        Check.sentence("TAKES: the CAR that the STRAND catches within 500 TICKS.");
        // Speed 1, a loop of 2000: from 1500 the strand is at 0 behind 500 TICKS; c stands on 0, dipping never.
        String text = "rope a speed 1 long 200 from 0 to 9 bears 9999;rope b speed 2 long 10 from 20 to 29 bears 1;car d at 25 weighs 1;car c at 0 weighs 1;cross 1 when 0;";
        CableStreet s = Check.street(text);
        s.strand(0, 1498);
        Check.due("never to d", -1, s.takes());
        // c grips as TICKS 1 to 5, 7, 9 .. begin: from then on in odd ones.
        s.strand(0, 1501);
        Check.due("in 499", 1, s.takes());
        s.run(1);
        s.strand(0, 1500);
        Check.due("in 500", 1, s.takes());
        s.run(1);
        s.strand(0, 1499);
        Check.due("in 501", -1, s.takes());
        s.run(1);
        s.strand(0, 1499);
        Check.due("in 501", -1, s.takes());
        // In the very next TICK.
        s = Check.street(LONG_ROPE + "car c at 5 weighs 1;car d at 5 weighs 1;");
        s.strand(0, 45);
        Check.due("the least number", 0, s.takes());
        s.run(1);
        Check.due("gone", -1, s.takes());
        // Its rope is cut ahead of it.
        s = Check.street(SHORT_ROPE + "car c at 4 weighs 1;car d at 1 weighs 1;stop 1 for 4;");
        s.strand(0, 160);
        Check.due("cut in TICK 3", -1, s.takes());
        s.run(3);
        Check.due("cut", 1, s.rope(0, 1));
        Check.due("still", -1, s.takes());
    }

    private static void headOfTheNextTicks() {
        Check.sentence("HEAD of n: the least that two CARS that are not DONE are apart at the end of any of the next n TICKS.");
        // c stands at 595; d comes nearer by 1 a TICK.
        CableStreet s = Check.street(SLOW_ROPE + "car c at 59 weighs 1;car d at 0 weighs 1;let 59;");
        Check.due("1", 589, s.head(1));
        Check.due("2", 588, s.head(2));
        Check.due("299", 291, s.head(299));
        Check.due("300", 290, s.head(300));
        Check.due("0", -1, s.head(0));
        Check.due("301", -1, s.head(301));
        Check.due("-1", -1, s.head(-1));
        // Not as they are now: at one place now, apart behind the TICK.
        s = Check.street("drag 0;grade 5 to 5 -9;car c at 5 weighs 1;car d at 5 weighs 1;stop 5 for 99;");
        Check.due("both wait", 0, s.head(9));
        s = Check.street(LONG_ROPE + "car c at 5 weighs 1;car d at 6 weighs 1;stop 5 for 9;");
        Check.due("10 now, 12 then", 12, s.head(1));
        Check.due("12 is the least", 12, s.head(8));
        // The nearest two of three, whichever they are.
        s = Check.street("car a at 1 weighs 1;car b at 9 weighs 1;car c at 4 weighs 1;");
        Check.due("1 and 4", 30, s.head(1));
        s = Check.street("car a at 1 weighs 1;car b at 9 weighs 1;car c at 7 weighs 1;");
        Check.due("9 and 7", 20, s.head(1));
        s = Check.street("car a at 1 weighs 1;car b at 2 weighs 1;car c at 7 weighs 1;");
        Check.due("1 and 2", 10, s.head(1));
        s = Check.street("car a at 3 weighs 1;car b at 3 weighs 1;car c at 7 weighs 1;");
        Check.due("one place", 0, s.head(300));
        // d passes by c, which stands at 15.
        s = Check.street(SLOW_ROPE + "car c at 1 weighs 1;car d at 0 weighs 1;let 1;drag 0;");
        Check.due("2", 2, s.head(8));
        Check.due("1", 1, s.head(9));
        Check.due("0", 0, s.head(10));
        Check.due("0", 0, s.head(300));
    }

    private static void headOfThoseNotDone() {
        Check.sentence("NONE if there are never two, or another n");
        Check.due("no car", -1, Check.street(LONG_ROPE).head(1));
        Check.due("one car", -1, Check.street(LONG_ROPE + "car c at 5 weighs 1;").head(300));
        CableStreet s = Check.street(LONG_ROPE + "car c at 59 weighs 1;car d at 3 weighs 1;");
        s.run(1);
        Check.due("one is DONE then", -1, s.head(300));
        s = Check.street(LONG_ROPE + "car c at 59 weighs 1;car d at 3 weighs 1;");
        Check.due("two at the first TICK's end", 597 - 37, s.head(300));
        // Brought BACK, they are two again.
        s = Check.street(SLOW_ROPE + "car c at 59 weighs 1;car d at 3 weighs 1;turn 99;");
        s.run(5);
        Check.due("done", 3, s.car(0, 2));
        Check.due("still away", -1, s.head(98));
        Check.due("back at 0", 35 + 5 + 99, s.head(99));
    }

    private static void spreadWaits() {
        Check.sentence("SPREAD of a CAR: the w (0 .. 20) so that, if it WAITS w TICKS more at first (v 0), HEAD of 200 is most; of like ones the least.");
        // c stands at 595; d is at 5 + 200 - w behind 200 TICKS.
        CableStreet s = Check.street(SLOW_ROPE + "car c at 59 weighs 1;car d at 0 weighs 1;let 59;");
        Check.due("w", 20, s.spread(1, 0));
        Check.due("head", 410, s.spread(1, 1));
        // Waiting w TICKS from v 10 on it is at v 0: were it not, it would come nearer.
        s = Check.street(LONG_ROPE + "car c at 10 weighs 1;car d at 8 weighs 1;");
        s.run(5);
        Check.due("w of c, which goes on as it is", 0, s.spread(0, 0));
        Check.due("head", 20, s.spread(0, 1));
        Check.due("w of d", 1, s.spread(1, 0));
        Check.due("head", 30, s.spread(1, 1));
        // On a grade where brakes do not hold, it rolls from v 0, not from 10: 135, 131, and on, away from d at 205.
        s = Check.street(LONG_ROPE + "grade 0 to 15 5;car c at 10 weighs 99;car d at 20 weighs 1;let 20;brake 100;");
        s.run(5);
        Check.car(s, 0, 135, 10, 0);
        Check.due("w", 1, s.spread(0, 0));
        Check.due("head", 205 - 131, s.spread(0, 1));
    }

    private static void spreadOfOneThatWaits() {
        Check.sentence("if it WAITS w TICKS more at first (v 0)");
        CableStreet s = Check.street(SLOW_ROPE + "car c at 59 weighs 1;car d at 0 weighs 1;let 59;stop 0 for 6;");
        s.run(1);
        // It waits 5 and 20: at 5 + 175 behind 200 TICKS.
        Check.due("w", 20, s.spread(1, 0));
        Check.due("head", 595 - 180, s.spread(1, 1));
        Check.due("waits as it was", 5, s.car(1, 4));
    }

    private static void spreadOfLikeOnes() {
        Check.sentence("of like ones the least");
        CableStreet s = Check.street("car c at 10 weighs 1;car d at 8 weighs 1;");
        Check.due("all alike", 0, s.spread(0, 0));
        Check.due("head", 20, s.spread(0, 1));
        // With w 0 it would be DONE at once, and they never two.
        s = Check.street(LONG_ROPE + "car c at 59 weighs 1;car d at 3 weighs 1;");
        s.run(1);
        Check.due("w", 1, s.spread(0, 0));
        Check.due("head, at 599 in the last TICK", 599 - 47, s.spread(0, 1));
    }

    private static void powerAsEachTickBegins() {
        Check.sentence("POWER of n: all LOADS of ROPES that are not CUT (as each TICK begins), together, of the next n TICKS");
        CableStreet s = Check.street(SLOW_ROPE + "grade 1 to 1 5;car c at 0 weighs 1;");
        // At 5 .. 9 as TICKS 1 to 5 begin, at 10 .. 19 as 6 to 15 do.
        Check.due("1", 10, s.power(1, 0));
        Check.due("5", 50, s.power(5, 0));
        Check.due("6", 65, s.power(6, 0));
        Check.due("15", 200, s.power(15, 0));
        Check.due("16", 210, s.power(16, 0));
        Check.due("299", 3040, s.power(299, 0));
        Check.due("300", 3050, s.power(300, 0));
        Check.due("peak 5", 10, s.power(5, 1));
        Check.due("peak 6", 15, s.power(6, 1));
        Check.due("peak 300", 15, s.power(300, 1));
    }

    private static void powerOfRopesNotCut() {
        Check.sentence("all LOADS of ROPES that are not CUT");
        CableStreet s = Check.street(SHORT_ROPE + "rope b speed 1 long 60 from 20 to 29 bears 9999;car c at 4 weighs 1;car d at 1 weighs 2;car e at 22 weighs 3;stop 1 for 3;");
        Check.due("both", 60, s.power(1, 0));
        s.run(3);
        Check.due("cut, though d grips it", 20, s.rope(0, 0));
        Check.due("b alone", 30, s.power(1, 0));
        Check.due("peak", 30, s.power(1, 1));
    }

    private static void peaks() {
        Check.sentence("PEAK: the greatest such sum of one TICK");
        CableStreet s = Check.street(LONG_ROPE + "car c at 5 weighs 9;car d at 5 weighs 7;stop 8 for 9;");
        Check.due("both together", 160, s.power(9, 1));
        s.halt(9);
        Check.due("none grips", 0, s.power(9, 1));
        Check.due("none grips", 0, s.power(9, 0));
        Check.due("in TICK 10", 160, s.power(10, 1));
        s = Check.street("car c at 5 weighs 9;");
        Check.due("no rope", 0, s.power(300, 0));
        Check.due("no rope", 0, s.power(300, 1));
    }

    private static void runawayBrakes() {
        Check.sentence("if brakes hold there (weighs * grade, without its sign, no more than brake), none");
        CableStreet s = Check.street("grade 10 to 10 4;grade 20 to 20 -4;car c at 1 weighs 25;car d at 1 weighs 26;brake 100;drag 0;");
        Check.due("100", -1, s.runaway(0, 10));
        Check.due("104", true, s.runaway(1, 10) > 0);
        Check.due("100", -1, s.runaway(0, 20));
        Check.due("104", true, s.runaway(1, 20) > 0);
        Check.due("level", -1, s.runaway(1, 30));
        Check.due("its end", -1, s.runaway(1, 59));
    }

    private static void runawayTillZero() {
        Check.sentence("a CAR on a SEGMENT (x 10 times it, and 5), OFF, v 0");
        // From 105: 4, 8 (117), then 7, 6 .. on the level; from 106 it would be 119 and 12.
        CableStreet s = Check.street("grade 10 to 11 -5;car c at 1 weighs 99;brake 1;");
        Check.due("105, 109, 117, 129", 12, s.runaway(0, 10));
        Check.due("115, 119, 127", 8, s.runaway(0, 11));
        s = Check.street("grade 11 to 11 -5;car c at 1 weighs 99;brake 1;drag 0;");
        Check.due("115, 120, and on", 5, s.runaway(0, 11));
        s = Check.street("grade 11 to 11 -4;car c at 1 weighs 99;brake 1;drag 0;");
        Check.due("115, 119, 127", 8, s.runaway(0, 11));
        s = Check.street("grade 10 to 10 5;car c at 1 weighs 99;brake 1;drag 0;");
        Check.due("105, 100, 90", 10, s.runaway(0, 10));
        s = Check.street("grade 10 to 10 6;car c at 1 weighs 99;brake 1;drag 0;");
        Check.due("105, 99", 6, s.runaway(0, 10));
        // Till v is 0 again: 8, 1, then back: -4, -9, 0.
        s = Check.street("grade 20 to 20 -9;grade 21 to 21 6;grade 22 to 22 -1;car c at 1 weighs 99;");
        Check.due("0 again", 9, s.runaway(0, 20));
        s = Check.street("grade 0 to 0 9;car c at 1 weighs 99;drag 9;");
        Check.due("drag holds it", 0, s.runaway(0, 0));
    }

    private static void runawayLeaves() {
        Check.sentence("till v is 0 again or it leaves the street (500 TICKS)");
        // At 0 it is on the street still, at -1 not.
        CableStreet s = Check.street("grade 0 to 0 5;car c at 1 weighs 99;brake 1;drag 0;");
        Check.due("5, 0, -10", 10, s.runaway(0, 0));
        s = Check.street("grade 0 to 0 6;car c at 1 weighs 99;brake 1;drag 0;");
        Check.due("5, -1", 6, s.runaway(0, 0));
        s = Check.street("grade 59 to 59 -4;car c at 1 weighs 99;brake 1;drag 0;");
        Check.due("595, 599, 607", 8, s.runaway(0, 59));
        s = Check.street("grade 59 to 59 -5;car c at 1 weighs 99;brake 1;drag 0;");
        Check.due("595, 600", 5, s.runaway(0, 59));
        // The whole street down, 9 a TICK more: 599 behind TICK 11.
        s = Check.street("grade 0 to 59 -9;car c at 1 weighs 99;brake 1;drag 0;");
        Check.due("faster and faster", 9 * 12, s.runaway(0, 0));
    }

    private static void runawayAtMost500() {
        Check.sentence("or it leaves the street (500 TICKS)");
        // To and fro without end, a little faster now and then: in TICK 500 it is 19 for the first time.
        CableStreet s = Check.street("drag 0;grade 13 to 15 -7;grade 43 to 59 3;car c at 1 weighs 99;brake 1;");
        Check.due("in TICK 500", 19, s.runaway(0, 46));
        // Here it would be 8 in TICK 501.
        s = Check.street("drag 0;grade 0 to 21 -5;grade 56 to 59 7;car c at 1 weighs 99;brake 1;");
        Check.due("in TICK 501", 6, s.runaway(0, 21));
    }

    private static void orders() {
        Check.sentence("CARS by weighs * grade of where they are, without its sign, the greatest first, of like ones the least number (DONE ones left out)");
        CableStreet s = Check.street("grade 5 to 5 -9;grade 6 to 6 1;car a at 7 weighs 99;car b at 6 weighs 9;car c at 5 weighs 1;car d at 6 weighs 10;car e at 8 weighs 1;");
        int[] due = {3, 1, 2, 0, 4};
        for (int i = 0; i < due.length; i++) {
            Check.due("order " + i, due[i], s.order(i));
        }
        s = Check.street(LONG_ROPE + "grade 59 to 59 9;car a at 59 weighs 99;car b at 3 weighs 1;car c at 59 weighs 99;");
        Check.due("steepest", 0, s.order(0));
        Check.due("of like ones", 2, s.order(1));
        Check.due("least", 1, s.order(2));
        s.run(2);
        Check.due("DONE ones left out", 1, s.order(0));
        Check.due("no more", -1, s.order(1));
    }

    private static void dueIn500() {
        Check.sentence("DUE of a SPLICE: in how many TICKS (500 at most) its ROPE is WORN by it.");
        String still = "rope a speed 1 long 20 from 0 to 9 bears 1;car c at 3 weighs 1;splice x on a at 30 lasts ";
        Check.due("1", 1, Check.street(still + "1;").due(0));
        Check.due("499", 499, Check.street(still + "499;").due(0));
        Check.due("500", 500, Check.street(still + "500;").due(0));
        Check.due("501", -1, Check.street(still + "501;").due(0));
        CableStreet s = Check.street(still + "501;");
        s.run(1);
        Check.due("501, one TICK on", 500, s.due(0));
        s = Check.street(still + "2;");
        s.run(2);
        Check.due("worn already", -1, s.due(0));
        // Cut by a miss before it is worn.
        s = Check.street(SHORT_ROPE + "car c at 4 weighs 1;splice x on a at 190 lasts 1;car d at 2 weighs 1;stop 2 for 2;");
        Check.due("in TICK 3, ahead of the miss", 3, s.due(0));
        s = Check.street(SHORT_ROPE + "car c at 4 weighs 1;splice x on a at 170 lasts 1;");
        Check.due("cut first", -1, s.due(0));
        // By another one first, or in the same TICK by one told ahead.
        s = Check.street(still + "3;splice y on a at 30 lasts 2;splice z on a at 30 lasts 2;");
        Check.due("x", -1, s.due(0));
        Check.due("y", 2, s.due(1));
        Check.due("z", -1, s.due(2));
    }

    private static void costs() {
        Check.sentence("COST of a stop mark: POWER of n TICKS less that without it.");
        CableStreet s = Check.street(LONG_ROPE + "car c at 4 weighs 1;stop 5 for 3;stop 3 for 9;let 2;");
        Check.due("1", 0, s.cost(5, 1));
        Check.due("3", 0, s.cost(5, 3));
        Check.due("4", -10, s.cost(5, 4));
        // Without it the car is DONE in TICK 58; with it in TICK 62, having gripped in 60 of them.
        Check.due("58", -20, s.cost(5, 58));
        Check.due("59", -10, s.cost(5, 59));
        Check.due("62", 20, s.cost(5, 62));
        Check.due("300", 20, s.cost(5, 300));
        Check.due("nobody comes there", 0, s.cost(3, 300));
        // At both ends of the street; the mark is there again behind the asking.
        s = Check.street(LONG_ROPE + "car c at 0 weighs 1;car d at 59 weighs 1;stop 0 for 99;stop 59 for 99;");
        // Without it the car is DONE in TICK 62.
        Check.due("on 0", 10 - 620, s.cost(0, 99));
        Check.due("on 59", 10 - 20, s.cost(59, 3));
        s.run(1);
        Check.due("waits", 98, s.car(0, 4));
        Check.due("waits", 98, s.car(1, 4));
    }

    private static void rollsAsBits() {
        Check.sentence("ROLLS: CARS, not DONE, that brakes do not hold where they are.");
        CableStreet s = Check.street("grade 5 to 5 4;grade 6 to 6 -4;car a at 5 weighs 25;car b at 5 weighs 26;car c at 6 weighs 25;car d at 6 weighs 26;car e at 7 weighs 99;brake 100;");
        Check.due("b, d", 2 + 8, s.rolls());
        s = Check.street("grade 0 to 59 1;brake 1;car a at 5 weighs 2;car b at 0 weighs 2;car c at 59 weighs 2;car d at 6 weighs 2;car e at 7 weighs 2;");
        Check.due("all", 31, s.rolls());
        Check.due("nobody", 0, Check.street("grade 0 to 59 9;brake 1;").rolls());
        s = Check.street(LONG_ROPE + "grade 59 to 59 9;car a at 59 weighs 99;car b at 59 weighs 99;brake 1;stop 59 for 1;");
        Check.due("both", 3, s.rolls());
        s = Check.street("drag 0;grade 59 to 59 -9;car a at 59 weighs 99;car b at 58 weighs 99;brake 1;");
        s.run(1);
        Check.due("a is DONE", 0, s.rolls());
    }

    private static void whereInTheLoop() {
        Check.sentence("WHERE a STRAND of a ROPE will be that is at a place now, behind so many TICKS at its told speed: the SEGMENT, or below.");
        // It dips, but its told speed is 7. A loop of 100, 30 of them in the street.
        CableStreet s = Check.street("rope b speed 1 long 200 from 50 to 59 bears 1;rope a speed 7 long 10 from 5 to 7 bears 1;car c at 6 weighs 99;");
        int[][] due = {{0, 0, 5}, {9, 0, 5}, {10, 0, 6}, {29, 0, 7}, {30, 0, -1}, {99, 0, -1}, {22, 1, 7}, {23, 1, -1},
            {92, 1, -1}, {93, 1, 5}, {0, 4, 7}, {0, 5, -1}, {0, 100, 5}, {50, 9999, -1}, {0, 9999, -1}, {7, 9999, 5}, {36, 9999, 7}};
        for (int[] of : due) {
            Check.due("where " + of[0] + ", " + of[1], of[2], s.where(1, of[0], of[1]));
        }
        Check.due("the longest loop", 59, s.where(0, 1999, 100));
        Check.due("the longest loop", -1, s.where(0, 1999, 0));
        // Of a rope that is cut, too: it is asked of its loop and speed alone.
        s = Check.street(SHORT_ROPE + "car c at 4 weighs 1;");
        s.run(3);
        Check.due("cut", 1, s.rope(0, 1));
        Check.due("where", 1, s.where(0, 0, 1));
    }

    private static void dueRefused() {
        Check.sentence("DUE; NONE if it is not in 500, the ROPE is CUT, or there is none such.");
        CableStreet s = Check.street("rope a speed 1 long 20 from 0 to 9 bears 1;car c at 3 weighs 1;splice x on a at 30 lasts 2;"
                + "splice y on a at 30 lasts 999;");
        Check.due("due", 2, s.due(0));
        Check.due("not in 500", -1, s.due(1));
        for (int no : new int[] {-1, 2, 6, MAX, MIN}) {
            Check.due("due " + no, -1, s.due(no));
        }
        s.run(2);
        Check.due("cut", -1, s.due(0));
        Check.due("no splice", -1, Check.street(LONG_ROPE).due(0));
    }

    private static void costRefused() {
        Check.sentence("COST of the stop mark on a SEGMENT, for n (1 .. 300; it may be below 0); -1000000 if there is none, or for another n.");
        CableStreet s = Check.street(LONG_ROPE + "car c at 5 weighs 1;stop 5 for 3;let 6;grip 7;catch 8;cross 9 when 1;");
        Check.due("below 0", -10, s.cost(5, 2));
        Check.due("n 1", 0, s.cost(5, 1));
        Check.due("n 300", true, s.cost(5, 300) > -1000);
        for (int n : new int[] {0, -1, 301, MAX, MIN}) {
            Check.due("n " + n, -1000000, s.cost(5, n));
        }
        for (int no : new int[] {-1, 4, 6, 7, 8, 9, 60, MAX, MIN}) {
            Check.due("segment " + no, -1000000, s.cost(no, 9));
        }
    }

    private static void rollsAnswered() {
        Check.sentence("ROLLS, as bits.");
        for (int number = 0; number < 5; number++) {
            StringBuilder cars = new StringBuilder("grade 5 to 5 9;brake 8;");
            for (int c = 0; c < 5; c++) {
                cars.append("car ").append("abcde".charAt(c)).append(" at ").append(c == number ? 5 : 6).append(" weighs 1;");
            }
            Check.due("car " + number, 1 << number, Check.street(cars.toString()).rolls());
        }
    }

    private static void coastsRefused() {
        Check.sentence("-2 if one can't be");
        CableStreet s = Check.street("drag 0;");
        int[][] cannot = {{0, 61}, {0, -61}, {60, 0}, {-1, 0}, {0, MAX}, {0, MIN}, {MAX, 0}, {MIN, 0}};
        for (int[] of : cannot) {
            for (int what = 0; what < 3; what++) {
                Check.due("coasts " + of[0] + ", " + of[1], -2, s.coasts(of[0], of[1], what));
            }
        }
        for (int what : new int[] {-1, 3, MAX, MIN}) {
            Check.due("what " + what, -2, s.coasts(0, 0, what));
        }
    }

    private static void coastsAnswered() {
        Check.sentence("COASTS what 0: the SEGMENT on which it ends (NONE: it left the street), 1: 1 if there is a ROPE, else 0, 2: TICKS.");
        CableStreet s = Check.street("drag 3;rope a speed 1 long 10 from 30 to 31 bears 1;");
        coast(s, 0, 4, 0, 0, 2);
        coast(s, 59, 4, 59, 0, 2);
        coast(s, 59, 60, -1, 0, 1);
        coast(s, 29, 13, 30, 1, 1);
        coast(s, 31, 13, 33, 0, 5);
    }

    private static void needRefused() {
        Check.sentence("NEED; NONE if none is enough, or there is no such SEGMENT.");
        CableStreet s = Check.street("rope a speed 1 long 10 from 59 to 59 bears 1;drag 9;");
        Check.due("none is enough", -1, s.need(0));
        Check.due("on it", 1, s.need(59));
        for (int no : new int[] {60, -1, MAX, MIN}) {
            Check.due("need " + no, -1, s.need(no));
        }
        Check.due("no rope", -1, Check.street("").need(0));
    }

    private static void takesNone() {
        Check.sentence("TAKES; NONE if none, or there is no STRAND.");
        CableStreet s = Check.street(LONG_ROPE + "car c at 30 weighs 1;");
        Check.due("no strand", -1, s.takes());
        s.strand(0, 295);
        Check.due("c", 0, s.takes());
        s.strand(0, 350);
        Check.due("none", -1, s.takes());
        s = Check.street(LONG_ROPE);
        s.strand(0, 0);
        Check.due("no car", -1, s.takes());
    }

    private static void spreadRefused() {
        Check.sentence("SPREAD what 0: w, 1: HEAD of 200 then; NONE if there is no such CAR, it is DONE, there are never two, or for another what.");
        CableStreet s = Check.street("car c at 10 weighs 1;car d at 8 weighs 1;");
        for (int no : new int[] {-1, 2, 5, MAX, MIN}) {
            Check.due("car " + no, -1, s.spread(no, 0));
            Check.due("car " + no, -1, s.spread(no, 1));
            Check.due("what " + no, -1, s.spread(0, no));
        }
        s = Check.street("car c at 10 weighs 1;");
        Check.due("alone", -1, s.spread(0, 0));
        Check.due("alone", -1, s.spread(0, 1));
        // c and e are DONE: d is alone, whatever it does.
        s = Check.street(LONG_ROPE + "car c at 59 weighs 1;car d at 3 weighs 1;car e at 58 weighs 1;");
        s.run(5);
        Check.due("c is DONE", -1, s.spread(0, 0));
        Check.due("c is DONE", -1, s.spread(0, 1));
        Check.due("never two", -1, s.spread(1, 0));
        Check.due("never two", -1, s.spread(1, 1));
    }

    private static void powerRefused() {
        Check.sentence("POWER (what 0), PEAK (1) of n (1 .. 300); NONE for another what or n.");
        CableStreet s = Check.street(LONG_ROPE + "car c at 10 weighs 1;");
        Check.due("n 1", 10, s.power(1, 0));
        Check.due("n 1", 10, s.power(1, 1));
        for (int n : new int[] {0, -1, 301, MAX, MIN}) {
            Check.due("n " + n, -1, s.power(n, 0));
            Check.due("n " + n, -1, s.power(n, 1));
        }
        for (int what : new int[] {-1, 2, MAX, MIN}) {
            Check.due("what " + what, -1, s.power(1, what));
        }
    }

    private static void runawayRefused() {
        Check.sentence("RUNAWAY; NONE if there is no such CAR or SEGMENT, or brakes hold.");
        CableStreet s = Check.street("grade 0 to 59 1;car c at 1 weighs 2;car d at 1 weighs 1;brake 1;drag 0;");
        Check.due("on 0", 3, s.runaway(0, 0));
        Check.due("on 59", true, s.runaway(0, 59) > 0);
        Check.due("brakes hold", -1, s.runaway(1, 0));
        for (int no : new int[] {-1, 2, 5, MAX, MIN}) {
            Check.due("car " + no, -1, s.runaway(no, 10));
        }
        for (int no : new int[] {-1, 60, MAX, MIN}) {
            Check.due("segment " + no, -1, s.runaway(0, no));
        }
        Check.due("no car", -1, Check.street("grade 0 to 59 9;brake 1;").runaway(0, 10));
    }

    private static void orderRefused() {
        Check.sentence("The i-th (from 0 on) of ORDER; NONE if there is none such.");
        CableStreet s = Check.street("car a at 7 weighs 9;car b at 6 weighs 9;");
        Check.due("order 0", 0, s.order(0));
        Check.due("order 1", 1, s.order(1));
        for (int no : new int[] {-1, 2, 5, MAX, MIN}) {
            Check.due("order " + no, -1, s.order(no));
        }
        Check.due("nobody", -1, Check.street("").order(0));
    }

    private static void whereRefused() {
        Check.sentence("WHERE (ticks 0 .. 9999); NONE: below; -2 if one can't be.");
        CableStreet s = Check.street("rope b speed 1 long 200 from 50 to 59 bears 1;rope a speed 7 long 10 from 5 to 7 bears 1;");
        Check.due("ticks 0", 5, s.where(1, 0, 0));
        // 7 + 69993 is a multiple of 100.
        Check.due("ticks 9999", 5, s.where(1, 7, 9999));
        Check.due("below", -1, s.where(1, 99, 0));
        Check.due("the last place of the other", -1, s.where(0, 1999, 0));
        int[][] cannot = {{1, 100, 0}, {1, -1, 0}, {1, 0, -1}, {1, 0, 10000}, {2, 0, 0}, {-1, 0, 0}, {0, 2000, 0},
            {0, MAX, 0}, {0, MIN, 0}, {0, 0, MAX}, {0, 0, MIN}, {MAX, 0, 0}, {MIN, 0, 0}};
        for (int[] of : cannot) {
            Check.due("where " + of[0] + ", " + of[1] + ", " + of[2], -2, s.where(of[0], of[1], of[2]));
        }
    }
}
