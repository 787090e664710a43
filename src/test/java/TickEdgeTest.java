/** ==== 2 of the document, (1) and (2) of a TICK: ropes, the strand and splices at each bound. */
public final class TickEdgeTest {
    private static final String LONG_ROPE = "rope a speed 10 long 60 from 0 to 59 bears 9999;";
    /** Ends behind SEGMENT 4, so that one that grips on 5 misses. */
    private static final String SHORT_ROPE = "rope a speed 10 long 20 from 0 to 4 bears 9999;";

    private TickEdgeTest() {
    }

    public static void main(String[] args) {
        atFirst();
        loads();
        dipsAbove();
        halfCut();
        dipsInThisTick();
        noDipIfCut();
        strandInItsLoop();
        strandInTheStreet();
        strandOnCutRope();
        strandOnDippingRope();
        caughtOnItsSegment();
        onlyOneThatGrips();
        splicesGoOn();
        wears();
        wornAtLasts();
        wornByNumber();
        strandAheadOfSplices();
        Check.end();
    }

    private static void atFirst() {
        Check.sentence("tenths of SEGMENTS; 10 * at, and 5, at first");
        CableStreet s = Check.street("car c at 0 weighs 1;car d at 59 weighs 99;");
        Check.car(s, 0, 5, 0, 0);
        Check.car(s, 1, 595, 0, 0);
        for (int c = 0; c < 2; c++) {
            Check.due("caught", 0, s.car(c, 3));
            Check.due("waits", 0, s.car(c, 4));
            Check.due("trips", 0, s.trips(c));
        }
        Check.due("no cut rope", 0, Check.street(LONG_ROPE).rope(0, 1));
    }

    private static void loads() {
        Check.sentence("for all CARS that GRIP on its SEGMENTS weighs * (10 + grade of theirs), together (0 at least)");
        String ropes = "rope a speed 1 long 60 from 10 to 19 bears 9999;rope b speed 1 long 60 from 21 to 21 bears 9999;";
        CableStreet s = Check.street(ropes + "grade 10 to 10 -9;grade 19 to 19 9;car c at 10 weighs 99;car d at 19 weighs 99;"
                + "car e at 9 weighs 50;car f at 20 weighs 50;car g at 21 weighs 3;");
        Check.due("both ends of a", 99 * 1 + 99 * 19, s.rope(0, 0));
        Check.due("b", 30, s.rope(1, 0));
        Check.due("nobody grips", 0, Check.street(ropes).rope(0, 0));
        s.halt(1);
        Check.due("all wait", 0, s.rope(0, 0));
        s = Check.street(LONG_ROPE + "let 5;car c at 5 weighs 3;car d at 6 weighs 5;car e at 59 weighs 7;");
        Check.due("all grip", 150, s.rope(0, 0));
        s.run(1);
        Check.due("c is OFF", 120, s.rope(0, 0));
        s.run(2);
        Check.due("e is DONE", 50, s.rope(0, 0));
    }

    private static void dipsAbove() {
        Check.sentence("a ROPE (not CUT) whose LOAD is above bears goes at half its speed (cut) in this TICK");
        String text = "car c at 5 weighs 7;rope a speed 8 long 60 from 0 to 59 bears ";
        CableStreet s = Check.street(text + "70;");
        Check.due("as much as it bears", 0, s.rope(0, 2));
        s.run(4);
        Check.due("dips", 0, s.count(3));
        Check.due("v", 8, s.speed(0));
        s = Check.street(text + "69;");
        Check.due("more than it bears", 1, s.rope(0, 2));
        s.run(4);
        Check.due("dips", 4, s.count(3));
        Check.due("v", 4, s.speed(0));
        s = Check.street("car c at 0 weighs 1;rope a speed 2 long 60 from 0 to 59 bears 9;");
        s.run(3);
        Check.due("10 is above 9", 3, s.count(3));
        // The most that cars can weigh on a rope: 5 * 99 * 19 is 9405.
        text = "grade 0 to 59 9;car a at 1 weighs 99;car b at 2 weighs 99;car c at 3 weighs 99;car d at 4 weighs 99;car e at 5 weighs 99;rope a speed 10 long 60 from 0 to 59 bears ";
        Check.due("9405", 0, Check.street(text + "9405;").rope(0, 2));
        Check.due("9404", 1, Check.street(text + "9404;").rope(0, 2));
    }

    private static void halfCut() {
        Check.sentence("half its speed (cut)");
        int[][] halves = {{1, 0}, {2, 1}, {3, 1}, {29, 14}, {30, 15}};
        for (int[] half : halves) {
            CableStreet s = Check.street("car c at 0 weighs 1;rope a speed " + half[0] + " long 60 from 0 to 59 bears 1;");
            s.run(9);
            Check.due("half of " + half[0], half[1], s.speed(0));
        }
    }

    private static void dipsInThisTick() {
        Check.sentence("goes at half its speed (cut) in this TICK");
        // d waits in TICKS 1 to 3: both are heavy as TICKS 1 and 4 begin.
        CableStreet s = Check.street("rope a speed 9 long 60 from 0 to 59 bears 100;car c at 5 weighs 6;car d at 30 weighs 5;stop 30 for 3;");
        int[] v = {2, 4, 6, 4};
        int[] dips = {1, 1, 1, 2};
        for (int t = 0; t < v.length; t++) {
            s.run(1);
            Check.due("v in TICK " + (t + 1), v[t], s.speed(0));
            Check.due("dips till TICK " + (t + 1), dips[t], s.count(3));
        }
        Check.event(s, 0, 1, 3, -1, 0, -1);
        Check.event(s, 1, 4, 3, -1, 0, -1);
        // Each rope by itself, by its number.
        s = Check.street("rope a speed 9 long 10 from 0 to 9 bears 9;rope b speed 9 long 10 from 10 to 19 bears 9999;"
                + "rope c speed 9 long 10 from 20 to 29 bears 9;car c at 0 weighs 1;car d at 10 weighs 1;car e at 20 weighs 1;");
        s.run(1);
        Check.due("dips", 2, s.count(3));
        Check.event(s, 0, 1, 3, -1, 0, -1);
        Check.event(s, 1, 1, 3, -1, 2, -1);
    }

    private static void noDipIfCut() {
        Check.sentence("DIPS: a ROPE (not CUT)");
        CableStreet s = Check.street(SHORT_ROPE.replace("9999", "1") + "car c at 4 weighs 1;car d at 1 weighs 2;stop 1 for 3;");
        s.run(3);
        // c missed: the rope is cut, and d grips it now.
        Check.due("cut", 1, s.rope(0, 1));
        Check.due("load", 20, s.rope(0, 0));
        Check.due("would dip", 0, s.rope(0, 2));
        Check.due("dips", 2, s.count(3));
        s.run(1);
        Check.due("dips", 2, s.count(3));
        Check.due("d lets go", 1, s.car(1, 2));
    }

    private static void strandInItsLoop() {
        Check.sentence("goes on by the ROPE's speed (in its loop of 10 * long;");
        int[][] steps = {{0, 7}, {92, 99}, {93, 0}, {94, 1}, {99, 6}};
        for (int[] step : steps) {
            CableStreet s = Check.street("rope a speed 7 long 10 from 0 to 9 bears 1;");
            s.strand(0, step[0]);
            s.run(1);
            Check.due("from " + step[0], step[1], s.strandNow(1));
        }
        CableStreet s = Check.street("rope a speed 30 long 200 from 0 to 9 bears 1;");
        s.strand(0, 1970);
        s.run(1);
        Check.due("from 1970", 0, s.strandNow(1));
        s.strand(0, 1969);
        s.run(1);
        Check.due("from 1969", 1999, s.strandNow(1));
    }

    private static void strandInTheStreet() {
        Check.sentence("from 0 on its first tenths lie in the street, SEGMENT from + place / 10, as far as to; the rest below");
        int[][] places = {{0, 5}, {9, 5}, {10, 6}, {20, 7}, {29, 7}, {30, -1}, {99, -1}};
        CableStreet s = Check.street("rope a speed 1 long 10 from 5 to 7 bears 1;");
        for (int[] place : places) {
            s.strand(0, place[0]);
            Check.due("at " + place[0], place[1], s.strandNow(2));
        }
        // Of a rope no longer than its SEGMENTS nothing is below.
        s = Check.street("rope a speed 1 long 10 from 5 to 14 bears 1;");
        s.strand(0, 99);
        Check.due("at 99", 14, s.strandNow(2));
    }

    private static void strandOnCutRope() {
        Check.sentence("The STRAND, if there is one on a ROPE that is not CUT, goes on");
        CableStreet s = Check.street(SHORT_ROPE + "car c at 4 weighs 1;");
        s.strand(0, 100);
        s.run(3);
        Check.due("gone on ahead of the cut", 130, s.strandNow(1));
        Check.due("cut", 1, s.rope(0, 1));
        s.run(9);
        Check.due("it stays", 130, s.strandNow(1));
        Check.due("on its rope", 0, s.strandNow(0));
        // It catches none there, though one grips on its SEGMENT.
        s = Check.street(SHORT_ROPE + "car c at 4 weighs 1;car d at 1 weighs 1;stop 1 for 3;");
        s.strand(0, 180);
        s.run(3);
        Check.due("place", 10, s.strandNow(1));
        Check.due("d grips on it", 0, s.car(1, 2));
        s.run(1);
        Check.due("caught", 0, s.car(1, 3));
        Check.due("events", 2, s.about(12));
        Check.due("it stays", 10, s.strandNow(1));
    }

    private static void strandOnDippingRope() {
        Check.sentence("goes on by the ROPE's speed");
        CableStreet s = Check.street("rope a speed 9 long 60 from 0 to 59 bears 1;car c at 5 weighs 1;");
        s.strand(0, 300);
        s.run(1);
        Check.due("half of 9", 304, s.strandNow(1));
        // Going on by 0 it catches the one that is there.
        s = Check.street("rope a speed 1 long 60 from 0 to 59 bears 1;car c at 5 weighs 1;");
        s.strand(0, 50);
        s.run(1);
        Check.due("caught", 1, s.car(0, 3));
    }

    private static void caughtOnItsSegment() {
        Check.sentence("A CAR that GRIPS on its SEGMENT then (the least number) is CAUGHT, and the STRAND is gone.");
        int[][] places = {{48, 0}, {49, 1}, {50, 1}, {58, 1}, {59, 0}};
        for (int[] place : places) {
            CableStreet s = Check.street("rope a speed 1 long 60 from 0 to 59 bears 9999;car c at 5 weighs 1;");
            s.strand(0, place[0]);
            s.run(1);
            Check.due("caught from " + place[0], place[1], s.car(0, 3));
            Check.due("gone from " + place[0], place[1] == 1 ? -1 : place[0] + 1, s.strandNow(1));
            Check.due("its rope", place[1] == 1 ? -1 : 0, s.strandNow(0));
        }
        // Below it is on no SEGMENT, not on that behind the rope's last.
        CableStreet s = Check.street("rope a speed 1 long 60 from 0 to 4 bears 9999;car c at 5 weighs 1;catch 5;");
        s.strand(0, 49);
        s.run(1);
        Check.due("beside the rope", 0, s.car(0, 3));
        Check.due("below", -1, s.strandNow(2));
        // The least number of three, though it came last; those behind it stay free.
        s = Check.street(LONG_ROPE + "car c at 6 weighs 1;car d at 5 weighs 1;car e at 5 weighs 1;");
        s.strand(0, 45);
        s.run(1);
        Check.due("caught", 10, 100 * s.car(0, 3) + 10 * s.car(1, 3) + s.car(2, 3));
        Check.event(s, 0, 1, 4, 1, 0, -1);
        // By the strand of a rope that is not the first.
        s = Check.street(SHORT_ROPE + "rope b speed 3 long 10 from 10 to 19 bears 9999;car c at 1 weighs 1;car d at 11 weighs 1;");
        s.strand(1, 10);
        s.run(1);
        Check.event(s, 0, 1, 4, 1, 1, -1);
        Check.due("c is free", 0, s.car(0, 3));
    }

    private static void onlyOneThatGrips() {
        Check.sentence("A CAR that GRIPS on its SEGMENT then");
        // OFF: c let go in the first TICK and stands on 5; d, with a greater number, grips there.
        CableStreet s = Check.street(LONG_ROPE + "car c at 5 weighs 1;car d at 4 weighs 1;let 5;");
        s.run(2);
        Check.car(s, 0, 55, 0, 1);
        Check.car(s, 1, 51, 4, 0);
        s.strand(0, 45);
        s.run(1);
        Check.due("c", 0, s.car(0, 3));
        Check.due("d, ahead of its let", 1, s.car(1, 3));
        Check.car(s, 1, 57, 6, 0);
        // WAITS.
        s = Check.street(LONG_ROPE + "car c at 5 weighs 1;");
        s.halt(2);
        s.strand(0, 40);
        s.run(1);
        Check.due("it waits", 0, s.car(0, 3));
        Check.due("the strand is there", 5, s.strandNow(2));
        s.strand(0, 40);
        s.run(1);
        Check.due("it waits still", 0, s.car(0, 3));
        s.strand(0, 40);
        s.run(1);
        Check.due("it grips", 1, s.car(0, 3));
        // DONE, at 599.
        s = Check.street(LONG_ROPE + "car c at 59 weighs 1;");
        s.run(3);
        s.strand(0, 589);
        s.run(1);
        Check.due("done", 0, s.car(0, 3));
        Check.due("the strand is there", 59, s.strandNow(2));
    }

    private static void splicesGoOn() {
        Check.sentence("Then each SPLICE (by number) of a ROPE that is not CUT goes on likewise");
        CableStreet s = Check.street("rope a speed 7 long 10 from 5 to 7 bears 1;splice u on a at 92 lasts 1;splice v on a at 93 lasts 1;splice w on a at 16 lasts 1;splice x on a at 22 lasts 1;splice y on a at 23 lasts 1;");
        s.run(1);
        int[][] due = {{99, -1}, {0, 5}, {23, 7}, {29, 7}, {30, -1}};
        for (int i = 0; i < due.length; i++) {
            Check.due("place of " + i, due[i][0], s.splice(i, 1));
            Check.due("segment of " + i, due[i][1], s.splice(i, 2));
        }
        s = Check.street(SHORT_ROPE + "rope b speed 3 long 10 from 10 to 19 bears 9999;splice x on a at 190 lasts 9;splice y on b at 0 lasts 9;car c at 4 weighs 1;");
        s.run(3);
        Check.due("place", 20, s.splice(0, 1));
        s.run(5);
        Check.due("of the cut rope", 20, s.splice(0, 1));
        Check.due("of the other", 24, s.splice(1, 1));
    }

    private static void wears() {
        Check.sentence("its WEAR (0 at first) is more by how many CARS GRIP on its SEGMENT");
        CableStreet s = Check.street("rope a speed 1 long 60 from 0 to 19 bears 9999;car b at 4 weighs 1;car c at 5 weighs 1;car d at 5 weighs 1;car e at 5 weighs 1;car f at 6 weighs 1;"
                + "splice u on a at 48 lasts 99;splice v on a at 49 lasts 99;splice w on a at 58 lasts 99;splice x on a at 59 lasts 99;splice y on a at 199 lasts 99;");
        s.run(1);
        int[] due = {1, 3, 3, 1, 0};
        for (int i = 0; i < due.length; i++) {
            Check.due("wear of " + i, due[i], s.splice(i, 3));
        }
        // Neither one that waits nor one that is OFF.
        s = Check.street("rope a speed 1 long 60 from 0 to 59 bears 9999;car c at 5 weighs 1;car d at 5 weighs 1;let 5;splice x on a at 49 lasts 99;");
        s.run(1);
        Check.due("both grip as the splice comes", 2, s.splice(0, 3));
        s.run(1);
        Check.due("both are OFF", 2, s.splice(0, 3));
        s = Check.street("rope a speed 1 long 60 from 0 to 59 bears 9999;car c at 5 weighs 1;splice x on a at 49 lasts 99;");
        s.halt(2);
        s.run(2);
        Check.due("it waits", 0, s.splice(0, 3));
        s.run(1);
        Check.due("it grips", 1, s.splice(0, 3));
    }

    private static void wornAtLasts() {
        Check.sentence("at lasts or more its ROPE is WORN: CUT");
        String text = "rope a speed 1 long 60 from 0 to 59 bears 9999;car c at 5 weighs 1;car d at 5 weighs 1;splice x on a at 49 lasts ";
        CableStreet s = Check.street(text + "3;");
        s.run(1);
        Check.due("2 of 3", 0, s.rope(0, 1));
        s.run(1);
        Check.due("4 of 3", 1, s.rope(0, 1));
        s = Check.street(text + "4;");
        s.run(1);
        Check.due("2 of 4", 0, s.rope(0, 1));
        Check.due("events", 0, s.about(12));
        s.run(1);
        Check.due("4 of 4", 1, s.rope(0, 1));
        Check.due("cuts", 1, s.count(2));
        Check.event(s, 0, 2, 7, -1, 0, -1);
        Check.event(s, 1, 2, 2, -1, 0, 0);
        Check.car(s, 0, 56, 0, 1);
        s = Check.street(text + "5;");
        s.run(2);
        Check.due("4 of 5", 0, s.rope(0, 1));
        s = Check.street(text + "1;");
        s.run(1);
        Check.due("2 of 1", 1, s.rope(0, 1));
        Check.due("wear", 2, s.splice(0, 3));
    }

    private static void wornByNumber() {
        Check.sentence("Then each SPLICE (by number) of a ROPE that is not CUT");
        // Both would wear out in one TICK: the first does, and the second stays as it is.
        CableStreet s = Check.street("rope a speed 1 long 60 from 0 to 59 bears 9999;car c at 5 weighs 1;splice x on a at 49 lasts 1;splice y on a at 49 lasts 1;");
        s.run(1);
        Check.due("wear of x", 1, s.splice(0, 3));
        Check.due("wear of y", 0, s.splice(1, 3));
        Check.due("place of y", 49, s.splice(1, 1));
        Check.due("worn and cut", 2, s.about(12));
        Check.due("cuts", 1, s.count(2));
    }

    private static void strandAheadOfSplices() {
        Check.sentence("and the STRAND is gone. Then each SPLICE (by number)");
        CableStreet s = Check.street(LONG_ROPE + "car c at 5 weighs 1;splice x on a at 45 lasts 1;");
        s.strand(0, 45);
        s.run(1);
        Check.event(s, 0, 1, 4, 0, 0, -1);
        Check.event(s, 1, 1, 7, -1, 0, -1);
        Check.event(s, 2, 1, 2, -1, 0, 1);
        // On a rope that is cut it is OFF, and no more CAUGHT.
        Check.car(s, 0, 55, 0, 1);
        Check.due("caught", 0, s.car(0, 3));
        Check.due("misses", 0, s.count(0));
    }
}
