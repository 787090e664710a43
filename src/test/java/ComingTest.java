/** Promises 15, 16, 18 and 22 to 30: what comes, found without changing what there is. */
public final class ComingTest {
    private static final String LONG_ROPE = "rope a speed 10 long 60 from 0 to 59 bears 9999;";

    private ComingTest() {
    }

    public static void main(String[] args) {
        due();
        cost();
        rolls();
        coasts();
        need();
        takes();
        head();
        spread();
        power();
        runaway();
        order();
        where();
        Check.end();
    }

    private static void due() {
        String rope = "rope a speed 5 long 10 from 20 to 25 bears 9999;";
        CableStreet s = Check.street(rope + "car c at 22 weighs 1;splice x on a at 5 lasts 2;splice y on a at 0 lasts 9999;stop 23 for 9;");
        // The car: 227, 231, then it stops; the splice: 10, 15, 20, 25: on 22 behind tick 3, when nobody is there.
        Check.due("due", -1, s.due(0));
        s = Check.street(rope + "car c at 22 weighs 1;splice x on a at 15 lasts 2;splice y on a at 99 lasts 9999;");
        // Tick 1: splice 20 on 22, as the car (225): 1. Tick 2: 25, the car 227: 2.
        Check.due("due", 2, s.due(0));
        Check.due("due of y", -1, s.due(1));
        Check.due("due of none", -1, s.due(2));
        Check.due("due of none", -1, s.due(-1));
        s.run(1);
        Check.due("due", 1, s.due(0));
        s.run(1);
        Check.due("cut", -1, s.due(0));
        // Worn by another splice first.
        s = Check.street(rope + "car c at 22 weighs 1;splice x on a at 15 lasts 2;splice y on a at 15 lasts 1;");
        Check.due("due of x", -1, s.due(0));
        Check.due("due of y", 1, s.due(1));
        // A rope that dips to speed 0 keeps splice and car together: worn by 1 a TICK.
        String still = "rope a speed 1 long 20 from 0 to 9 bears 1;car c at 3 weighs 1;splice x on a at 30 lasts ";
        Check.due("in 500", 500, Check.street(still + "500;").due(0));
        Check.due("in 501", -1, Check.street(still + "501;").due(0));
        // In the same TICK the one with the least number comes first.
        s = Check.street(rope + "car c at 22 weighs 1;splice x on a at 15 lasts 1;splice y on a at 15 lasts 1;");
        Check.due("due of x", 1, s.due(0));
        Check.due("due of y", -1, s.due(1));
    }

    private static void cost() {
        CableStreet s = Check.street(LONG_ROPE + "car c at 4 weighs 2;stop 5 for 3;stop 40 for 1;");
        // Ticks 3 to 5 it waits: the loads as ticks 4 and 5 begin are missing.
        Check.due("cost of 3", 0, s.cost(5, 3));
        Check.due("cost of 4", -20, s.cost(5, 4));
        Check.due("cost of 5", -40, s.cost(5, 5));
        Check.due("cost of 6", -40, s.cost(5, 6));
        Check.due("n 0", -1000000, s.cost(5, 0));
        Check.due("n 301", -1000000, s.cost(5, 301));
        Check.due("no mark", -1000000, s.cost(6, 5));
        Check.due("no segment", -1000000, s.cost(60, 5));
        Check.due("no segment", -1000000, s.cost(-1, 5));
        // Without the stop it would be sooner DONE: the stop costs.
        Check.due("cost of 300 is above 0", true, s.cost(5, 300) > 0);
        // A let or another mark there is no stop.
        s = Check.street(LONG_ROPE + "car c at 4 weighs 2;let 5;");
        Check.due("no stop", -1000000, s.cost(5, 5));
    }

    private static void rolls() {
        CableStreet s = Check.street("grade 5 to 5 4;grade 6 to 6 -4;car a at 5 weighs 50;car b at 5 weighs 51;car c at 6 weighs 51;car d at 7 weighs 99;");
        Check.due("rolls", 6, s.rolls());
        s = Check.street(LONG_ROPE + "grade 59 to 59 9;car a at 59 weighs 99;");
        Check.due("rolls", 1, s.rolls());
        s.run(3);
        Check.due("a DONE one does not", 0, s.rolls());
    }

    private static void coast(CableStreet s, int segment, int v, int... due) {
        for (int what = 0; what < 3; what++) {
            Check.due("coasts " + segment + ", " + v + ", " + what, due[what], s.coasts(segment, v, what));
        }
    }

    private static void coasts() {
        CableStreet s = Check.street("rope a speed 10 long 20 from 30 to 39 bears 1;grade 10 to 19 2;grade 50 to 59 -3;drag 1;");
        // 5, 4 .. 1 and 0: 203 + 2 ...
        coast(s, 20, 6, 21, 0, 6);
        coast(s, 45, -3, 44, 0, 3);
        // On the grade: 10 - 3 = 7, 4, 1, and then back: -1 + 1 is 0.
        coast(s, 10, 10, 11, 0, 4);
        // It turns without being 0.
        coast(s, 10, 11, 11, 0, 4);
        coast(s, 29, 11, 30, 1, 1);
        coast(s, 30, 0, 30, 1, 1);
        coast(s, 40, -60, 34, 1, 1);
        coast(s, 2, -60, -1, 0, 1);
        coast(s, 59, 60, -1, 0, 1);
        coast(s, 5, 0, 5, 0, 1);
        Check.due("what 3", -2, s.coasts(5, 0, 3));
        Check.due("what -1", -2, s.coasts(5, 0, -1));
        Check.due("v 61", -2, s.coasts(5, 61, 0));
        Check.due("v -61", -2, s.coasts(5, -61, 0));
        Check.due("segment 60", -2, s.coasts(60, 0, 0));
        Check.due("segment -1", -2, s.coasts(-1, 0, 0));
        // Without drag on the level it goes on: 500 TICKS.
        s = Check.street("drag 0;");
        coast(s, 0, 1, 50, 0, 500);
        coast(s, 20, 1, -1, 0, 400);
        coast(s, 59, -1, 9, 0, 500);
    }

    private static void need() {
        CableStreet s = Check.street("rope a speed 10 long 20 from 30 to 39 bears 1;grade 20 to 29 2;");
        // On the level from 19 (190) it must come 110 tenths; on the rope itself 1 is enough.
        Check.due("need on the rope", 1, s.need(30));
        int v = s.need(28);
        Check.due("enough", 1, s.coasts(28, v, 1));
        Check.due("less is not", 0, s.coasts(28, v - 1, 1));
        // 28: 280; 12 - 3 = 9, 6, 3, 0: 298; 13: 10, 7, 4, 1, turns: 302.
        Check.due("need", 13, v);
        Check.due("never", -1, s.need(40));
        Check.due("segment 60", -1, s.need(60));
        Check.due("segment -1", -1, s.need(-1));
        s = Check.street("car c at 1 weighs 1;");
        Check.due("no rope", -1, s.need(0));
    }

    private static void takes() {
        CableStreet s = Check.street(LONG_ROPE + "car c at 30 weighs 1;car d at 10 weighs 1;stop 10 for 99;");
        Check.due("no strand", -1, s.takes());
        s.strand(0, 0);
        // It goes 10 a TICK and so does car c, far ahead; car d waits where it is, and does not grip.
        Check.due("takes", -1, s.takes());
        s.strand(0, 290);
        Check.due("takes", 0, s.takes());
        Check.due("still there", 290, s.strandNow(1));
        s = Check.street("rope a speed 10 long 60 from 0 to 59 bears 9999;car c at 50 weighs 1;car d at 10 weighs 1;stop 10 for 4;");
        s.strand(0, 0);
        Check.due("when it goes on", -1, s.takes());
        s.strand(0, 60);
        Check.due("a TICK too early", -1, s.takes());
        s.strand(0, 50);
        Check.due("as it grips again", 1, s.takes());
        // Held back for ever, it grips as every odd TICK from the 7th on begins.
        String held = "rope a speed 1 long 200 from 0 to 9 bears 9999;car c at 0 weighs 1;cross 1 when 0;";
        s = Check.street(held);
        s.strand(0, 1499);
        Check.due("in 501", -1, s.takes());
        s.run(1);
        s.strand(0, 1500);
        Check.due("in 500", 0, s.takes());
    }

    private static void head() {
        CableStreet s = Check.street(LONG_ROPE + "car c at 10 weighs 1;car d at 4 weighs 1;stop 10 for 9;");
        // d: 45, 47, 51, 57, 65 ..; c waits at 105 till tick 9.
        Check.due("head 1", 58, s.head(1));
        Check.due("head 4", 40, s.head(4));
        Check.due("n 0", -1, s.head(0));
        Check.due("n 301", -1, s.head(301));
        Check.due("head 300", true, s.head(300) >= 0);
        s = Check.street(LONG_ROPE + "car c at 10 weighs 1;");
        Check.due("one alone", -1, s.head(300));
        // Brought BACK, they are two again.
        s = Check.street(LONG_ROPE + "car c at 59 weighs 1;car d at 1 weighs 1;turn 1;");
        Check.due("before", 580 + 2 - 2, s.head(1));
        s.run(2);
        Check.due("back at 0 in a TICK's end", 15 + 2 + 4 + 6, s.head(1));
    }

    private static void spread() {
        CableStreet s = Check.street(LONG_ROPE + "car c at 10 weighs 1;car d at 8 weighs 1;stop 11 for 5;");
        int w = s.spread(1, 0);
        Check.due("w lies within", true, w >= 0 && w <= 20);
        s = Check.street("rope a speed 10 long 60 from 0 to 59 bears 9999;car c at 10 weighs 1;car d at 8 weighs 1;");
        // Both go alike, 20 apart; if d waits, they are 22 apart behind the first TICK, however long it waits.
        Check.due("w of d", 1, s.spread(1, 0));
        Check.due("head then", 22, s.spread(1, 1));
        // c lets d pass if it waits: HEAD is least then; going on is best.
        Check.due("w of c", 0, s.spread(0, 0));
        Check.due("head then", 20, s.spread(0, 1));
        Check.due("what 2", -1, s.spread(0, 2));
        Check.due("what -1", -1, s.spread(0, -1));
        Check.due("car 2", -1, s.spread(2, 0));
        Check.due("car -1", -1, s.spread(-1, 0));
        s = Check.street(LONG_ROPE + "car c at 10 weighs 1;");
        Check.due("alone", -1, s.spread(0, 0));
        Check.due("alone", -1, s.spread(0, 1));
        s = Check.street(LONG_ROPE + "car c at 59 weighs 1;car d at 1 weighs 1;car e at 7 weighs 1;");
        s.run(2);
        Check.due("DONE", -1, s.spread(0, 0));
    }

    private static void power() {
        CableStreet s = Check.street("rope a speed 10 long 20 from 0 to 4 bears 9999;rope b speed 5 long 20 from 10 to 14 bears 9999;"
                + "car c at 4 weighs 3;car d at 10 weighs 2;grade 11 to 11 5;");
        // c: 30, 30 (47, 51), then it misses: rope a is cut; d: 20 (105, 107), 20, 30 (111) ...
        Check.due("1", 50, s.power(1, 0));
        Check.due("2", 100, s.power(2, 0));
        Check.due("3", 100 + 30, s.power(3, 0));
        Check.due("4", 100 + 60, s.power(4, 0));
        Check.due("peak 4", 50, s.power(4, 1));
        Check.due("what 2", -1, s.power(4, 2));
        Check.due("what -1", -1, s.power(4, -1));
        Check.due("n 0", -1, s.power(0, 0));
        Check.due("n 301", -1, s.power(301, 0));
        Check.due("n 300", true, s.power(300, 0) > 160);
    }

    private static void runaway() {
        CableStreet s = Check.street("grade 10 to 11 -9;grade 59 to 59 -9;grade 0 to 0 1;car c at 1 weighs 30;drag 1;car d at 1 weighs 20;brake 200;");
        // 105: 8 (113), 16 (129), then 15 ..
        Check.due("runaway", 16, s.runaway(0, 10));
        // It leaves the street as fast as it is then: 595 and 8.
        Check.due("off the end", 8, s.runaway(0, 59));
        Check.due("brakes hold", -1, s.runaway(1, 10));
        Check.due("level", -1, s.runaway(0, 5));
        Check.due("car 2", -1, s.runaway(2, 10));
        Check.due("car -1", -1, s.runaway(-1, 10));
        Check.due("segment 60", -1, s.runaway(0, 60));
        Check.due("segment -1", -1, s.runaway(0, -1));
        s = Check.street("grade 0 to 0 1;car c at 1 weighs 30;drag 1;brake 29;");
        Check.due("drag holds it", 0, s.runaway(0, 0));
        // 8, 1, -4, -9, 0: there it ends, though it would go on and be faster later.
        s = Check.street("grade 20 to 20 -9;grade 21 to 21 6;grade 22 to 22 -1;car c at 1 weighs 99;");
        Check.due("till v is 0 again", 9, s.runaway(0, 20));
    }

    private static void order() {
        CableStreet s = Check.street("grade 5 to 5 -4;grade 6 to 6 2;car a at 7 weighs 9;car b at 6 weighs 20;car c at 5 weighs 10;car d at 5 weighs 11;car e at 8 weighs 99;");
        int[] due = {3, 1, 2, 0, 4, -1};
        for (int i = 0; i < due.length; i++) {
            Check.due("order " + i, due[i], s.order(i));
        }
        Check.due("order -1", -1, s.order(-1));
        s = Check.street(LONG_ROPE + "car a at 59 weighs 1;car b at 3 weighs 1;");
        s.run(2);
        Check.due("DONE ones are left out", 1, s.order(0));
        Check.due("order 1", -1, s.order(1));
    }

    private static void where() {
        CableStreet s = Check.street("rope a speed 7 long 20 from 10 to 19 bears 1;car c at 10 weighs 99;");
        Check.due("now", 10, s.where(0, 0, 0));
        Check.due("1", 19, s.where(0, 92, 1));
        Check.due("below", -1, s.where(0, 93, 1));
        Check.due("around", 10, s.where(0, 193, 1));
        // 50 + 69993 is 43 in a loop of 200
        Check.due("9999", 14, s.where(0, 50, 9999));
        Check.due("10000", -2, s.where(0, 0, 10000));
        Check.due("-1", -2, s.where(0, 0, -1));
        Check.due("place 200", -2, s.where(0, 200, 0));
        Check.due("place -1", -2, s.where(0, -1, 0));
        Check.due("rope 1", -2, s.where(1, 0, 0));
        Check.due("rope -1", -2, s.where(-1, 0, 0));
    }
}
