/** ==== 2 of the document, (3) of a TICK and what ends it: cars at each bound. */
public final class CarEdgeTest {
    private static final String LONG_ROPE = "rope a speed 10 long 60 from 0 to 59 bears 9999;";
    /** Ends behind SEGMENT 4, so that one that grips on 5 misses. */
    private static final String SHORT_ROPE = "rope a speed 10 long 20 from 0 to 4 bears 9999;";
    private static final int GRIPS = 0;
    private static final int OFF = 1;
    private static final int WAITS = 2;
    private static final int DONE = 3;

    private CarEdgeTest() {
    }

    public static void main(String[] args) {
        marksOnceEntered();
        marksInTheFirstTick();
        marksJumpedOver();
        marksEnteredBackwards();
        stopMarks();
        letMarks();
        gripMarks();
        oneMarkOnly();
        brakesHold();
        brakesAskedEachTick();
        waitsOut();
        gripsFaster();
        gripsOfAFasterOne();
        misses();
        ropeGrippedLast();
        cutOnce();
        gripsOnCutRope();
        offByGrade();
        offByDrag();
        crossOnAnotherSegment();
        crossNotZero();
        crossOfTheCaught();
        heldBackThenWaits();
        streetBegin();
        streetEnd();
        doneOnesStay();
        byNumber();
        Check.end();
    }

    private static void marksOnceEntered() {
        Check.sentence("MARKS, if it entered its SEGMENT in the TICK ahead");
        // 45, 47, 51: entered in TICK 2, so TICK 3 heeds the mark, and no later one.
        CableStreet s = Check.street(LONG_ROPE + "car c at 4 weighs 1;stop 5 for 2;");
        s.run(2);
        Check.car(s, 0, 51, 4, GRIPS);
        s.run(1);
        Check.car(s, 0, 51, 0, WAITS);
        s.run(1);
        Check.car(s, 0, 51, 0, GRIPS);
        s.run(3);
        Check.car(s, 0, 51 + 2 + 4 + 6, 6, GRIPS);
        // The last tenth of a SEGMENT and the first of the next: 49 is 4, 50 is 5.
        s = Check.street("rope a speed 1 long 60 from 0 to 59 bears 9999;car c at 4 weighs 1;stop 5 for 9;");
        s.run(4);
        Check.car(s, 0, 49, 1, GRIPS);
        s.run(1);
        Check.car(s, 0, 50, 1, GRIPS);
        s.run(1);
        Check.car(s, 0, 50, 0, WAITS);
        // One that is held back ahead of it has not entered.
        s = Check.street(LONG_ROPE + "car c at 4 weighs 1;stop 5 for 9;cross 5 when tick > 3;");
        s.run(3);
        Check.car(s, 0, 47, 0, GRIPS);
        Check.due("held back", 1, s.count(5));
        s.run(2);
        Check.car(s, 0, 53, 4, GRIPS);
        s.run(1);
        Check.car(s, 0, 53, 0, WAITS);
    }

    private static void marksInTheFirstTick() {
        Check.sentence("(or in the first TICK of all)");
        CableStreet s = Check.street(LONG_ROPE + "car c at 5 weighs 1;stop 5 for 1;");
        s.run(1);
        Check.car(s, 0, 55, 0, GRIPS);
        s.run(1);
        Check.car(s, 0, 57, 2, GRIPS);
        // The stop is heeded though all were told to wait longer: it WAITS its own TICKS.
        s = Check.street(LONG_ROPE + "car c at 5 weighs 1;car d at 8 weighs 1;stop 5 for 1;");
        s.halt(9);
        s.run(1);
        Check.car(s, 0, 55, 0, GRIPS);
        Check.car(s, 1, 85, 0, WAITS);
        Check.due("waits", 8, s.car(1, 4));
    }

    private static void marksJumpedOver() {
        Check.sentence("if it entered its SEGMENT");
        // 2, 4 .. 14 a TICK: on 6 (65), then 7 (77) and, in one step, 9 (91).
        CableStreet s = Check.street("rope a speed 30 long 60 from 0 to 59 bears 9999;car c at 3 weighs 1;stop 8 for 9;");
        s.run(7);
        Check.car(s, 0, 91, 14, GRIPS);
        s.run(1);
        Check.car(s, 0, 107, 16, GRIPS);
    }

    private static void marksEnteredBackwards() {
        Check.sentence("if it entered its SEGMENT in the TICK ahead");
        CableStreet s = Check.street(LONG_ROPE + "car c at 5 weighs 1;let 5;grade 5 to 5 7;stop 4 for 1;");
        s.run(1);
        Check.car(s, 0, 49, -6, OFF);
        s.run(1);
        Check.car(s, 0, 49, 0, GRIPS);
    }

    private static void stopMarks() {
        Check.sentence("a stop mark, if it is not CAUGHT: it WAITS so many TICKS, v is 0");
        CableStreet s = Check.street(LONG_ROPE + "car c at 4 weighs 1;stop 5 for 99;");
        s.run(3);
        Check.car(s, 0, 51, 0, WAITS);
        Check.due("waits", 98, s.car(0, 4));
        s.run(97);
        Check.due("waits", 1, s.car(0, 4));
        s.run(1);
        Check.car(s, 0, 51, 0, GRIPS);
        // One that is OFF stops, too.
        s = Check.street(LONG_ROPE + "car c at 5 weighs 1;let 5;grade 5 to 5 -9;stop 6 for 3;");
        s.run(1);
        Check.car(s, 0, 63, 8, OFF);
        s.run(1);
        Check.car(s, 0, 63, 0, WAITS);
        Check.due("waits", 2, s.car(0, 4));
        // One that is CAUGHT does not.
        s = Check.street(LONG_ROPE + "car c at 5 weighs 1;stop 5 for 3;stop 6 for 3;");
        s.strand(0, 45);
        s.run(4);
        Check.car(s, 0, 55 + 2 + 4 + 6 + 8, 8, GRIPS);
        Check.due("caught", 1, s.car(0, 3));
    }

    private static void letMarks() {
        Check.sentence("else a let mark, if it GRIPS and is not CAUGHT: OFF");
        CableStreet s = Check.street(LONG_ROPE + "car c at 4 weighs 1;let 5;");
        s.run(3);
        Check.car(s, 0, 54, 3, OFF);
        s = Check.street(LONG_ROPE + "car c at 4 weighs 1;let 5;let 4;");
        s.strand(0, 35);
        s.run(4);
        Check.car(s, 0, 45 + 2 + 4 + 6 + 8, 8, GRIPS);
        // Freed, it heeds the next one.
        s = Check.street(LONG_ROPE + "car c at 4 weighs 1;let 5;");
        s.strand(0, 35);
        s.run(2);
        Check.due("free", true, s.free(0));
        s.run(1);
        Check.car(s, 0, 54, 3, OFF);
    }

    private static void gripMarks() {
        Check.sentence("else a grip mark, if it is OFF: GRIPS");
        CableStreet s = Check.street(LONG_ROPE + "car c at 5 weighs 1;let 5;grade 5 to 5 -9;grip 6;");
        s.run(2);
        Check.car(s, 0, 63 + 10, 10, GRIPS);
        // One that GRIPS already goes on.
        s = Check.street(LONG_ROPE + "car c at 4 weighs 1;grip 4;grip 5;");
        s.run(3);
        Check.car(s, 0, 57, 6, GRIPS);
        // One that waits, having entered, does neither grip nor let go.
        for (String mark : new String[] {"grip 5;", "let 5;"}) {
            s = Check.street(LONG_ROPE + "car c at 4 weighs 1;" + mark);
            s.run(2);
            s.halt(3);
            s.run(1);
            Check.car(s, 0, 51, 0, WAITS);
            Check.due("waits", 2, s.car(0, 4));
            s.run(2);
            Check.car(s, 0, 51, 0, GRIPS);
        }
        // Where there is no rope, to grip is to miss.
        s = Check.street(SHORT_ROPE + "car c at 4 weighs 1;let 4;grade 4 to 4 -9;grip 5;");
        s.run(2);
        Check.due("misses", 1, s.count(0));
        Check.car(s, 0, 53 + 7, 7, OFF);
    }

    private static void oneMarkOnly() {
        Check.sentence("else a let mark, if it GRIPS and is not CAUGHT: OFF; else a grip mark, if it is OFF: GRIPS");
        String all = LONG_ROPE + "car c at 4 weighs 1;";
        CableStreet s = Check.street(all + "stop 5 for 2;let 5;grip 5;");
        s.run(3);
        Check.car(s, 0, 51, 0, WAITS);
        // A let and a grip on one SEGMENT: who grips lets go, and does not grip again.
        s = Check.street(all + "let 5;grip 5;");
        s.run(3);
        Check.car(s, 0, 54, 3, OFF);
        // Who is OFF grips, and does not let go.
        s = Check.street(LONG_ROPE + "car c at 4 weighs 1;let 4;grade 4 to 4 -9;let 5;grip 5;");
        s.run(2);
        Check.car(s, 0, 63, 10, GRIPS);
        // Caught on a stop and a let: neither, whatever else is there.
        s = Check.street(all + "stop 5 for 2;let 5;grip 5;");
        s.strand(0, 35);
        s.run(3);
        Check.car(s, 0, 57, 6, GRIPS);
        // Caught, OFF and back on: only one that GRIPS can be caught, so a grip mark finds none such; a stop comes ahead of it.
        s = Check.street(LONG_ROPE + "car c at 4 weighs 1;let 4;grade 4 to 4 -9;stop 5 for 3;grip 5;");
        s.run(2);
        Check.car(s, 0, 53, 0, WAITS);
    }

    private static void brakesHold() {
        Check.sentence("if weighs * grade, without its sign, is above brake, it is OFF");
        for (int sign = -1; sign <= 1; sign += 2) {
            String grade = "grade 5 to 5 " + (sign < 0 ? "-" : "") + "4;";
            CableStreet s = Check.street(LONG_ROPE + grade + "car c at 5 weighs 25;stop 5 for 2;brake 100;");
            s.run(1);
            Check.car(s, 0, 55, 0, WAITS);
            Check.due("rolls", 0, s.count(6));
            s = Check.street(LONG_ROPE + grade + "car c at 5 weighs 25;stop 5 for 2;brake 99;");
            s.run(1);
            Check.car(s, 0, 55 - 3 * sign, -3 * sign, OFF);
            Check.due("rolls", 1, s.count(6));
            Check.due("waits", 0, s.car(0, 4));
        }
        // The most and the least: 99 * 9 is 891; on the level everything holds.
        CableStreet s = Check.street(LONG_ROPE + "grade 5 to 5 9;car c at 5 weighs 99;car d at 6 weighs 99;stop 5 for 2;stop 6 for 2;brake 890;");
        s.run(1);
        Check.due("891", 1, s.count(6));
        s = Check.street(LONG_ROPE + "grade 5 to 5 9;car c at 5 weighs 99;stop 5 for 2;brake 891;");
        s.run(1);
        Check.due("891", 0, s.count(6));
        s = Check.street(LONG_ROPE + "car c at 5 weighs 99;stop 5 for 2;brake 1;");
        s.run(1);
        Check.due("on the level", 0, s.count(6));
        s = Check.street(LONG_ROPE + "grade 5 to 5 1;car c at 5 weighs 1;car d at 5 weighs 2;stop 5 for 2;brake 1;");
        s.run(1);
        Check.due("1 is held, 2 is not", 1, s.count(6));
        Check.event(s, 0, 1, 5, 1, -1, -1);
    }

    private static void brakesAskedEachTick() {
        Check.sentence("One that WAITS (also since now)");
        // Told to wait from now on, on a grade where brakes do not hold.
        CableStreet s = Check.street(LONG_ROPE + "grade 5 to 5 4;car c at 5 weighs 99;");
        Check.due("halt", 1, s.halt(5));
        Check.car(s, 0, 55, 0, WAITS);
        s.run(1);
        Check.car(s, 0, 52, -3, OFF);
        Check.due("rolls", 1, s.count(6));
        s.run(1);
        Check.due("once", 1, s.count(6));
    }

    private static void waitsOut() {
        Check.sentence("else v is 0, it WAITS one TICK less, and with none left it GRIPS (from the next TICK on)");
        CableStreet s = Check.street(LONG_ROPE + "car c at 5 weighs 1;");
        s.run(3);
        Check.car(s, 0, 67, 6, GRIPS);
        s.halt(1);
        Check.car(s, 0, 67, 0, WAITS);
        s.run(1);
        Check.car(s, 0, 67, 0, GRIPS);
        s.run(1);
        Check.car(s, 0, 69, 2, GRIPS);
        s.halt(2);
        s.run(1);
        Check.car(s, 0, 69, 0, WAITS);
        Check.due("waits", 1, s.car(0, 4));
        s.run(1);
        Check.car(s, 0, 69, 0, GRIPS);
        // It grips, not lets go as before: without a rope that is a MISS.
        s = Check.street("car c at 5 weighs 1;");
        s.run(1);
        Check.car(s, 0, 55, 0, OFF);
        s.halt(1);
        s.run(1);
        Check.car(s, 0, 55, 0, GRIPS);
        Check.due("misses", 1, s.count(0));
        s.run(1);
        Check.due("misses", 2, s.count(0));
    }

    private static void gripsFaster() {
        Check.sentence("if v is below its speed, v is 2 more, no more than that; else v is that speed");
        int[][] due = {{1, 1, 1, 1}, {2, 2, 2, 2}, {3, 2, 3, 3}, {4, 2, 4, 4}, {5, 2, 4, 5}, {30, 2, 4, 6}};
        for (int[] of : due) {
            CableStreet s = Check.street("rope a speed " + of[0] + " long 60 from 0 to 59 bears 9999;car c at 5 weighs 1;");
            for (int t = 1; t < of.length; t++) {
                s.run(1);
                Check.due("speed " + of[0] + " in TICK " + t, of[t], s.speed(0));
            }
        }
        CableStreet s = Check.street("rope a speed 30 long 60 from 0 to 59 bears 9999;car c at 0 weighs 1;");
        s.run(14);
        Check.due("v", 28, s.speed(0));
        s.run(1);
        Check.due("v", 30, s.speed(0));
        s.run(1);
        Check.due("v", 30, s.speed(0));
        // From below 0 it is 2 more, too.
        s = Check.street(LONG_ROPE + "car c at 6 weighs 1;let 6;grade 6 to 6 8;grip 5;");
        s.run(1);
        Check.car(s, 0, 58, -7, OFF);
        s.run(1);
        Check.car(s, 0, 53, -5, GRIPS);
        s.run(3);
        Check.car(s, 0, 53 - 3 - 1 + 1, 1, GRIPS);
    }

    private static void gripsOfAFasterOne() {
        Check.sentence("else v is that speed");
        CableStreet s = Check.street("rope a speed 4 long 60 from 0 to 59 bears 9999;car c at 5 weighs 1;let 5;grade 5 to 5 -7;grip 6;");
        s.run(1);
        Check.car(s, 0, 61, 6, OFF);
        s.run(1);
        Check.car(s, 0, 65, 4, GRIPS);
        s.run(1);
        Check.car(s, 0, 69, 4, GRIPS);
    }

    private static void misses() {
        Check.sentence("GRIPS without any ROPE there: a MISS: with a catch mark on this SEGMENT it is SAVED, else the ROPE that it gripped last (if any) is CUT; it is OFF, no more CAUGHT");
        String text = SHORT_ROPE + "car c at 4 weighs 1;";
        CableStreet s = Check.street(text + "catch 4;catch 6;");
        s.run(3);
        Check.due("a catch beside it", 1, s.rope(0, 1));
        Check.due("saved", 0, s.count(1));
        s = Check.street(text + "catch 5;");
        s.strand(0, 35);
        s.run(3);
        Check.due("saved", 1, s.count(1));
        Check.due("cut", 0, s.rope(0, 1));
        Check.due("caught", 0, s.car(0, 3));
        Check.car(s, 0, 54, 3, OFF);
        Check.event(s, 0, 1, 4, 0, 0, -1);
        Check.event(s, 1, 3, 0, 0, -1, 0);
        Check.event(s, 2, 3, 1, 0, -1, 1);
        Check.due("events", 3, s.about(12));
        // On the rope's last SEGMENT there is one still, and on that ahead of its first none.
        s = Check.street("rope a speed 1 long 20 from 5 to 5 bears 9999;car c at 5 weighs 1;car d at 4 weighs 1;car e at 6 weighs 1;");
        s.run(1);
        Check.due("misses", 2, s.count(0));
        Check.car(s, 0, 56, 1, GRIPS);
        Check.due("nobody had gripped it", 0, s.count(2));
    }

    private static void ropeGrippedLast() {
        Check.sentence("the ROPE that it gripped last (if any) is CUT");
        // Over a and b, and off: b is cut, a is not.
        CableStreet s = Check.street("rope a speed 10 long 20 from 0 to 4 bears 9999;rope b speed 10 long 20 from 5 to 6 bears 9999;car c at 4 weighs 1;");
        s.run(5);
        Check.car(s, 0, 75, 10, GRIPS);
        s.run(1);
        Check.due("a", 0, s.rope(0, 1));
        Check.due("b", 1, s.rope(1, 1));
        Check.event(s, 1, 6, 2, 0, 1, 0);
        // Gripped last, though let go long ago.
        s = Check.street(SHORT_ROPE + "car c at 3 weighs 1;let 4;drag 0;grip 7;");
        s.run(9);
        Check.due("misses", 0, s.count(0));
        s.run(2);
        Check.due("misses", 1, s.count(0));
        Check.due("a", 1, s.rope(0, 1));
        // Let go in the first TICK, it has not been moved by it: it gripped none.
        s = Check.street(SHORT_ROPE + "car c at 4 weighs 1;let 4;grade 4 to 4 -9;grip 5;");
        s.run(2);
        Check.due("misses", 1, s.count(0));
        Check.due("cut", 0, s.count(2));
    }

    private static void cutOnce() {
        Check.sentence("CUT (each once)");
        CableStreet s = Check.street(SHORT_ROPE + "rope b speed 10 long 20 from 20 to 24 bears 9999;car c at 4 weighs 1;car d at 4 weighs 1;car e at 24 weighs 1;");
        s.run(3);
        Check.due("misses", 3, s.count(0));
        Check.due("cuts", 2, s.count(2));
        Check.event(s, 0, 3, 0, 0, -1, -1);
        Check.event(s, 1, 3, 2, 0, 0, 0);
        Check.event(s, 2, 3, 0, 1, -1, -1);
        Check.event(s, 3, 3, 0, 2, -1, -1);
        Check.event(s, 4, 3, 2, 2, 1, 3);
        Check.due("events", 5, s.about(12));
    }

    private static void gripsOnCutRope() {
        Check.sentence("GRIPS on one that is CUT: likewise OFF, no MISS");
        // c is cut loose by d's miss, in the same TICK, being behind it by number; its CAUGHT ends.
        CableStreet s = Check.street(SHORT_ROPE + "car d at 4 weighs 1;car c at 1 weighs 1;");
        s.strand(0, 5);
        s.run(2);
        Check.due("caught", 1, s.car(1, 3));
        s.run(1);
        Check.car(s, 1, 15 + 2 + 4 + 3, 3, OFF);
        Check.due("caught", 0, s.car(1, 3));
        Check.due("misses", 1, s.count(0));
        // Ahead of it by number it is still drawn in this TICK, and cut loose in the next.
        s = Check.street(SHORT_ROPE + "car c at 1 weighs 1;car d at 4 weighs 1;");
        s.run(3);
        Check.car(s, 0, 15 + 2 + 4 + 6, 6, GRIPS);
        s.run(1);
        Check.car(s, 0, 15 + 2 + 4 + 6 + 5, 5, OFF);
        Check.due("misses", 1, s.count(0));
        Check.due("events", 2, s.about(12));
    }

    private static void offByGrade() {
        Check.sentence("OFF (also since now): v is less by the grade, then nearer to 0 by drag (0 at most)");
        int[][] due = {{9, -9}, {1, -1}, {0, 0}, {-1, 1}, {-9, 9}};
        for (int[] of : due) {
            CableStreet s = Check.street("drag 0;car c at 5 weighs 1;grade 5 to 5 " + (of[0] < 0 ? "-" + -of[0] : "" + of[0]) + ";");
            s.run(1);
            Check.car(s, 0, 55 + of[1], of[1], OFF);
        }
        // The grade of where it is, not of where it comes to.
        CableStreet s = Check.street("drag 0;car c at 5 weighs 1;grade 5 to 5 -5;grade 6 to 6 3;");
        s.run(2);
        Check.car(s, 0, 60 + 2, 2, OFF);
    }

    private static void offByDrag() {
        Check.sentence("then nearer to 0 by drag (0 at most)");
        int[][] due = {{5, 4, -1}, {4, 4, 0}, {3, 4, 0}, {0, 9, 0}, {-3, 4, 0}, {-4, 4, 0}, {-5, 4, 1}, {9, 9, 0}, {-9, 9, 0}, {9, 0, -9}};
        for (int[] of : due) {
            CableStreet s = Check.street("drag " + of[1] + ";car c at 5 weighs 1;grade 5 to 5 " + (of[0] < 0 ? "-" + -of[0] : "" + of[0]) + ";");
            s.run(1);
            Check.car(s, 0, 55 + of[2], of[2], OFF);
        }
        // Without a drag told it is 1.
        CableStreet s = Check.street("car c at 5 weighs 1;grade 5 to 5 -2;");
        s.run(3);
        Check.car(s, 0, 55 + 1 + 2 + 3, 3, OFF);
    }

    private static void crossOnAnotherSegment() {
        Check.sentence("if x and v lie on another SEGMENT of the street, on which there is a cross");
        String slow = "rope a speed 1 long 60 from 0 to 59 bears 9999;car c at 4 weighs 1;";
        CableStreet s = Check.street(slow + "cross 5 when 0;cross 4 when 0;");
        s.run(4);
        Check.car(s, 0, 49, 1, GRIPS);
        Check.due("within its own", 0, s.count(5));
        s.run(1);
        Check.car(s, 0, 49, 0, WAITS);
        Check.due("at 50", 1, s.count(5));
        // Backwards: from 50 to 49.
        s = Check.street("car c at 5 weighs 1;drag 0;grade 5 to 5 1;cross 4 when 0;");
        s.run(2);
        Check.car(s, 0, 52, -2, OFF);
        s.run(1);
        Check.car(s, 0, 52, 0, WAITS);
        Check.due("at 49", 1, s.count(5));
        // From 16 to 0, the street's first tenth: held; to -1, which is beside the street: not held.
        String down = "car c at 2 weighs 1;drag 0;grade 2 to 2 9;cross 0 when 0;grade 1 to 1 ";
        s = Check.street(down + "7;");
        s.run(2);
        Check.car(s, 0, 16, 0, WAITS);
        s = Check.street(down + "8;");
        s.run(2);
        Check.car(s, 0, 0, 0, OFF);
        Check.due("held back", 0, s.count(5));
        // From 584 to 599: held; to 600: not held, but DONE.
        String up = "rope a speed 30 long 60 from 0 to 59 bears 9999;car c at 56 weighs 1;cross 59 when 0;let 57;drag 0;"
                + "grade 57 to 57 -9;grade 58 to 58 -";
        s = Check.street(up + "2;");
        s.run(3);
        Check.car(s, 0, 584, 13, OFF);
        s.run(1);
        Check.car(s, 0, 584, 0, WAITS);
        s = Check.street(up + "3;");
        s.run(4);
        Check.car(s, 0, 599, 0, DONE);
        Check.due("held back", 0, s.count(5));
    }

    private static void crossNotZero() {
        Check.sentence("and it is not CAUGHT, and e is 0: it is HELD BACK");
        String[] lets = {"1", "0-1", "9999", "not 0", "0-9999*9999"};
        for (String e : lets) {
            CableStreet s = Check.street(LONG_ROPE + "car c at 4 weighs 1;cross 5 when " + e + ";");
            s.run(2);
            Check.car(s, 0, 51, 4, GRIPS);
            Check.due("held back by " + e, 0, s.count(5));
        }
        String[] holds = {"0", "1-1", "not 1", "1<1", "2*0"};
        for (String e : holds) {
            CableStreet s = Check.street(LONG_ROPE + "car c at 4 weighs 1;cross 5 when " + e + ";");
            s.run(2);
            Check.car(s, 0, 47, 0, WAITS);
            Check.due("held back by " + e, 1, s.count(5));
        }
    }

    private static void crossOfTheCaught() {
        Check.sentence("and it is not CAUGHT, and e is 0");
        CableStreet s = Check.street(LONG_ROPE + "car c at 4 weighs 1;cross 5 when 0;");
        s.strand(0, 35);
        s.run(2);
        Check.car(s, 0, 51, 4, GRIPS);
        s = Check.street(LONG_ROPE + "car c at 4 weighs 1;cross 5 when 0;");
        s.strand(0, 35);
        s.run(1);
        s.free(0);
        s.run(1);
        Check.car(s, 0, 47, 0, WAITS);
    }

    private static void heldBackThenWaits() {
        Check.sentence("it is HELD BACK: v 0, it WAITS 1 TICK");
        CableStreet s = Check.street(LONG_ROPE + "car c at 4 weighs 1;cross 5 when 0;");
        s.run(2);
        Check.car(s, 0, 47, 0, WAITS);
        Check.due("waits", 1, s.car(0, 4));
        s.run(1);
        Check.car(s, 0, 47, 0, GRIPS);
        s.run(1);
        Check.car(s, 0, 49, 2, GRIPS);
        s.run(1);
        Check.car(s, 0, 49, 0, WAITS);
        Check.due("held back", 2, s.count(5));
        Check.event(s, 0, 2, 6, 0, -1, -1);
        Check.event(s, 1, 5, 6, 0, -1, -1);
    }

    private static void streetBegin() {
        Check.sentence("below 0: x 0, v 0");
        // 5 and -5: at 0 it is still rolling.
        CableStreet s = Check.street("car c at 0 weighs 1;drag 0;grade 0 to 0 5;");
        s.run(1);
        Check.car(s, 0, 0, -5, OFF);
        s.run(1);
        Check.car(s, 0, 0, 0, OFF);
        s = Check.street("car c at 0 weighs 1;drag 0;grade 0 to 0 6;");
        s.run(1);
        Check.car(s, 0, 0, 0, OFF);
        s.run(9);
        Check.car(s, 0, 0, 0, OFF);
        // Coming so on SEGMENT 0, it has entered it.
        s = Check.street("rope a speed 9 long 10 from 0 to 0 bears 1;car c at 2 weighs 1;drag 0;grade 1 to 2 9;grip 0;");
        s.run(1);
        Check.car(s, 0, 16, -9, OFF);
        s.run(1);
        Check.car(s, 0, 0, 0, OFF);
        s.run(1);
        Check.due("grips", GRIPS, s.car(0, 2));
    }

    private static void streetEnd() {
        Check.sentence("600 or more: DONE, x 599, v 0");
        CableStreet s = Check.street("car c at 59 weighs 1;drag 0;grade 59 to 59 -4;");
        Check.due("run", 1, s.run(1));
        Check.car(s, 0, 599, 4, OFF);
        Check.due("run", 0, s.run(1));
        Check.car(s, 0, 599, 0, DONE);
        s = Check.street("car c at 59 weighs 1;drag 0;grade 59 to 59 -5;");
        Check.due("run", 0, s.run(1));
        Check.car(s, 0, 599, 0, DONE);
        s.run(9);
        Check.car(s, 0, 599, 0, DONE);
        Check.due("misses", 1, s.count(0));
    }

    private static void doneOnesStay() {
        Check.sentence("Each CAR that is not DONE");
        // From 58 it leaves the street in one step: marks on 59, which it never entered as one that is not DONE, are nothing to it.
        String text = "rope a speed 30 long 60 from 0 to 59 bears 9999;car c at 40 weighs 1;";
        for (String mark : new String[] {"stop 59 for 9;", "let 59;", "grip 59;", "cross 59 when 0;", "grade 59 to 59 9;"}) {
            CableStreet s = Check.street(text + mark);
            s.run(13);
            Check.car(s, 0, 405 + 182, 26, GRIPS);
            Check.due("left by " + mark, 0, s.run(1));
            Check.car(s, 0, 599, 0, DONE);
            Check.due("still left", 0, s.run(9));
            Check.car(s, 0, 599, 0, DONE);
            Check.due("events", 0, s.about(12));
        }
    }

    private static void byNumber() {
        Check.sentence("Each CAR that is not DONE, by its number");
        // c asks how near d stands; d has not gone on yet. d asks, when c has gone on.
        CableStreet s = Check.street("rope a speed 2 long 60 from 0 to 59 bears 9999;car c at 4 weighs 1;car d at 5 weighs 1;cross 5 when ahead = 6;");
        s.run(3);
        // TICKS 1, 2: c 47, 49, d 57, 59; in TICK 3 d stands at 59 when c asks: 10, not 6.
        Check.due("held back", 1, s.count(5));
        s = Check.street("rope a speed 2 long 60 from 0 to 59 bears 9999;car d at 5 weighs 1;car c at 4 weighs 1;cross 5 when ahead = 12;");
        s.run(3);
        // Here d is at 61 already: 12.
        Check.due("held back", 0, s.count(5));
        Check.car(s, 1, 51, 2, GRIPS);
    }
}
