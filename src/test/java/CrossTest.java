/** Promise 20, and crosses in TICKS: who is held back, and what comes of it. */
public final class CrossTest {
    private static final String LONG_ROPE = "rope a speed 10 long 60 from 0 to 59 bears 9999;";

    private CrossTest() {
    }

    public static void main(String[] args) {
        values();
        units();
        heldBack();
        thenAsTheyStand();
        causes();
        whoIsNotHeld();
        Check.end();
    }

    private static int value(String e) {
        return Check.street(LONG_ROPE + "car c at 5 weighs 7;cross 30 when " + e + ";").asks(30, 0);
    }

    private static void values() {
        Check.due("14", 14, value("2 + 3 * 4"));
        Check.due("20", 20, value("(2 + 3) * 4"));
        Check.due("-3", -3, value("2 - 3 - 2"));
        Check.due("not 5", 0, value("not 5"));
        Check.due("not 0", 1, value("not 0"));
        Check.due("not not 5", 1, value("not not 5"));
        Check.due("not of a relation", 1, value("not 1 = 2"));
        Check.due("not binds closer than and", 0, value("not 0 and 0"));
        Check.due("and binds closer than or", 1, value("1 or 0 and 0"));
        Check.due("and is 1", 1, value("5 and 7"));
        Check.due("or is 1", 1, value("0 or 7"));
        Check.due("or is 0", 0, value("0 or 0"));
        Check.due("less", 1, value("1 < 2"));
        Check.due("less", 0, value("2 < 2"));
        Check.due("more", 1, value("3 > 2"));
        Check.due("more", 0, value("2 > 2"));
        Check.due("same", 1, value("2 + 1 = 3"));
        Check.due("same", 0, value("2 + 1 = 4"));
        Check.due("relation in brackets", 3, value("(1 < 2) + 2"));
        int wrapped = 9999 * 9999 * 9999;
        Check.due("wraps", wrapped, value("9999*9999*9999"));
        Check.due("it may be that, too", -1000000, value("0-1000*1000"));
    }

    private static void units() {
        CableStreet s = Check.street(LONG_ROPE + "car c at 5 weighs 7;car d at 9 weighs 8;car e at 20 weighs 9;car f at 59 weighs 1;"
                + "cross 30 when car;cross 31 when speed*100+weighs;cross 32 when ahead*1000+behind;cross 33 when tick*1000+load 0;");
        Check.due("car", 2, s.asks(30, 2));
        Check.due("speed, weighs", 7, s.asks(31, 0));
        Check.due("tick, load", 1250, s.asks(33, 1));
        Check.due("ahead, none behind", 40999, s.asks(32, 0));
        Check.due("ahead, behind", 110040, s.asks(32, 1));
        Check.due("ahead, behind", 390110, s.asks(32, 2));
        Check.due("none ahead", 999390, s.asks(32, 3));
        s.run(3);
        Check.due("speed", 607, s.asks(31, 0));
        Check.due("tick", 4240, s.asks(33, 0));
        // One that is DONE is near nobody, but may be asked for.
        Check.due("none ahead", 999110, s.asks(32, 2));
        Check.due("of the DONE one", 999000 + 599 - 217, s.asks(32, 3));
        Check.due("no cross", -1000000, s.asks(34, 0));
        Check.due("no segment", -1000000, s.asks(60, 0));
        Check.due("no segment", -1000000, s.asks(-1, 0));
        Check.due("no car", -1000000, s.asks(30, 4));
        Check.due("no car", -1000000, s.asks(30, -1));
        // Those at its own place are neither ahead nor behind.
        s = Check.street("car c at 5 weighs 7;car d at 5 weighs 8;cross 3 when ahead+behind;");
        Check.due("like places", 1998, s.asks(3, 0));
    }

    private static void heldBack() {
        CableStreet s = Check.street(LONG_ROPE + "car c at 4 weighs 1;cross 5 when tick > 4;");
        s.run(1);
        Check.car(s, 0, 47, 2, 0);
        Check.due("held back", 0, s.count(5));
        s.run(1);
        Check.car(s, 0, 47, 0, 2);
        Check.due("waits", 1, s.car(0, 4));
        Check.due("held back", 1, s.count(5));
        Check.event(s, 0, 2, 6, 0, -1, -1);
        s.run(1);
        Check.car(s, 0, 47, 0, 0);
        s.run(2);
        // Tick 4: 49, within its SEGMENT; tick 5: let in.
        Check.car(s, 0, 53, 4, 0);
        Check.due("held back", 1, s.count(5));
        // speed in e is v of this very TICK.
        s = Check.street(LONG_ROPE + "car c at 4 weighs 1;cross 5 when speed = 4;");
        s.run(2);
        Check.car(s, 0, 51, 4, 0);
    }

    private static void thenAsTheyStand() {
        // Car 0 has gone on already when car 1 asks: 4 - 2 is 2 tenths nearer to it.
        CableStreet s = Check.street("rope a speed 2 long 60 from 0 to 59 bears 9999;car c at 6 weighs 1;car d at 4 weighs 1;"
                + "cross 5 when ahead = 22;let 6;grade 6 to 6 -3;");
        s.run(3);
        Check.due("held back", 1, s.count(5));
        // A cross on the SEGMENT on which it is asks nothing, nor one that it passes over.
        s = Check.street("rope a speed 30 long 60 from 0 to 59 bears 9999;car c at 4 weighs 1;cross 4 when 0;cross 24 when 0;");
        s.run(13);
        Check.due("held back", 0, s.count(5));
        Check.car(s, 0, 45 + 13 * 14, 26, 0);
        s.run(1);
        Check.car(s, 0, 255, 28, 0);
        Check.due("held back", 0, s.count(5));
    }

    private static void causes() {
        // Held back on a grade where brakes do not hold it, it rolls: led to its HELD BACK.
        CableStreet s = Check.street(LONG_ROPE + "car c at 4 weighs 50;cross 5 when 0;grade 4 to 4 5;");
        s.run(3);
        Check.car(s, 0, 47 - 4, -4, 1);
        Check.event(s, 0, 2, 6, 0, -1, -1);
        Check.event(s, 1, 3, 5, 0, -1, 0);
        Check.due("rolls", 1, s.count(6));
        // Held back where there is no rope, it misses.
        s = Check.street("rope a speed 30 long 10 from 0 to 3 bears 1;car c at 3 weighs 1;cross 5 when 0;let 4;drag 0;");
        s.run(3);
        Check.due("held back", 0, s.count(5));
        s.run(10);
        Check.due("held back", 1, s.count(5));
        Check.due("misses", 1, s.count(0));
        Check.due("cut", 1, s.count(2));
    }

    private static void whoIsNotHeld() {
        // One that is caught is not held back.
        CableStreet s = Check.street(LONG_ROPE + "car c at 4 weighs 1;cross 5 when 0;");
        s.strand(0, 35);
        s.run(2);
        Check.car(s, 0, 51, 4, 0);
        Check.due("held back", 0, s.count(5));
        // One that runs back is.
        s = Check.street("car c at 4 weighs 1;grade 4 to 4 5;drag 0;cross 3 when 0;");
        s.run(2);
        Check.car(s, 0, 40, 0, 2);
        Check.due("held back", 1, s.count(5));
        // Nor one that leaves the street, at either end.
        s = Check.street(LONG_ROPE + "car c at 59 weighs 1;cross 59 when 0;cross 0 when 0;");
        s.run(2);
        Check.due("done", 3, s.car(0, 2));
        s = Check.street("car c at 1 weighs 1;grade 1 to 1 9;grade 0 to 0 9;cross 0 when 0;drag 0;");
        s.run(1);
        Check.car(s, 0, 15, 0, 2);
        // At 0 it is on the street still: 15, 10, and 0, where it may not go.
        s = Check.street("car c at 1 weighs 1;grade 1 to 1 5;cross 0 when 0;drag 0;");
        s.run(2);
        Check.car(s, 0, 10, 0, 2);
        s = Check.street("car c at 1 weighs 1;grade 0 to 1 9;cross 0 when tick=2;drag 0;stop 1 for 1;brake 1;");
        s.run(2);
        Check.car(s, 0, 6, -9, 1);
        s.run(1);
        Check.car(s, 0, 0, 0, 1);
        Check.due("held back", 1, s.count(5));
    }
}
