/** Promises 6 to 14, 17, 19 and 21: what a TICK does to cars, ropes, the strand, splices and the turntable. */
public final class TickTest {
    private static final String LONG_ROPE = "rope a speed 10 long 60 from 0 to 59 bears 9999;";

    private TickTest() {
    }

    public static void main(String[] args) {
        running();
        cars();
        marks();
        waiting();
        rollingBack();
        missing();
        saved();
        strands();
        caughtOnes();
        ropes();
        splices();
        bumps();
        halting();
        turntable();
        turntableOfTwo();
        manyEvents();
        Check.end();
    }

    private static void running() {
        CableStreet s = Check.street(LONG_ROPE + "car c at 58 weighs 1;car d at 0 weighs 1;");
        Check.due("run -1", -1, s.run(-1));
        Check.due("run 501", -1, s.run(501));
        Check.due("ticks", 0, s.about(3));
        Check.due("run 0", 2, s.run(0));
        Check.due("run 3", 2, s.run(3));
        Check.car(s, 0, 597, 6, 0);
        Check.due("run 1", 1, s.run(1));
        Check.car(s, 0, 599, 0, 3);
        Check.due("run 500", 0, s.run(500));
        for (int n = 0; n < 198; n++) {
            s.run(500);
        }
        Check.due("ticks", 99504, s.about(3));
        Check.due("run 497", -1, s.run(497));
        Check.due("run 496", 0, s.run(496));
        Check.due("ticks", 100000, s.about(3));
        Check.due("run 1", -1, s.run(1));
        Check.due("run 0", 0, s.run(0));
    }

    private static void cars() {
        CableStreet s = Check.street(LONG_ROPE.replace("10", "5") + "car c at 7 weighs 1;");
        Check.car(s, 0, 75, 0, 0);
        int[] v = {2, 4, 5, 5};
        int x = 75;
        for (int t = 0; t < v.length; t++) {
            s.run(1);
            x += v[t];
            Check.car(s, 0, x, v[t], 0);
        }
        Check.due("what 1", -1, s.car(0, 1));
        Check.due("what 5", -1, s.car(0, 5));
        Check.due("what -1", -1, s.car(0, -1));
        Check.due("car 1", -1, s.car(1, 0));
        Check.due("car -1", -1, s.car(-1, 0));
        Check.due("speed 1", -1000, s.speed(1));
        Check.due("speed -1", -1000, s.speed(-1));
        Check.due("waits", 0, s.car(0, 4));
        Check.due("caught", 0, s.car(0, 3));
        Check.due("count -1", -1, s.count(-1));
        Check.due("count 8", -1, s.count(8));
    }

    private static void marks() {
        // Marks hold for the first TICK of all, and only when a SEGMENT is entered.
        CableStreet s = Check.street(LONG_ROPE + "car c at 5 weighs 1;let 5;drag 0;grade 5 to 5 -3;grip 6;");
        s.run(1);
        Check.car(s, 0, 58, 3, 1);
        s.run(1);
        Check.car(s, 0, 64, 6, 1);
        s.run(1);
        Check.car(s, 0, 72, 8, 0);
        // A stop comes ahead of a let; a car that goes on from it within its SEGMENT is not told to let go.
        s = Check.street(LONG_ROPE + "car c at 5 weighs 1;let 5;stop 5 for 1;");
        s.run(1);
        Check.car(s, 0, 55, 0, 0);
        s.run(2);
        Check.car(s, 0, 61, 4, 0);
    }

    private static void waiting() {
        CableStreet s = Check.street(LONG_ROPE + "car c at 4 weighs 10;stop 5 for 3;");
        s.run(2);
        Check.car(s, 0, 51, 4, 0);
        s.run(1);
        Check.car(s, 0, 51, 0, 2);
        Check.due("waits", 2, s.car(0, 4));
        Check.due("load", 0, s.rope(0, 0));
        s.run(2);
        Check.car(s, 0, 51, 0, 0);
        Check.due("waits", 0, s.car(0, 4));
        Check.due("load", 100, s.rope(0, 0));
        s.run(1);
        Check.car(s, 0, 53, 2, 0);
    }

    private static void rollingBack() {
        // 40 * 5 is no more than 200: held; 41 * 5 is more.
        CableStreet held = Check.street(LONG_ROPE + "car c at 5 weighs 40;stop 5 for 2;grade 5 to 5 5;");
        held.run(1);
        Check.car(held, 0, 55, 0, 2);
        Check.due("rolls", 0, held.count(6));
        CableStreet s = Check.street(LONG_ROPE + "car c at 5 weighs 41;stop 5 for 2;grade 0 to 9 5;drag 2;");
        s.run(1);
        Check.car(s, 0, 52, -3, 1);
        Check.due("waits", 0, s.car(0, 4));
        Check.due("rolls", 1, s.count(6));
        Check.event(s, 0, 1, 5, 0, -1, -1);
        s.run(1);
        Check.car(s, 0, 46, -6, 1);
        s.run(3);
        Check.car(s, 0, 10, -15, 1);
        // Below the street's begin it stands.
        s.run(1);
        Check.car(s, 0, 0, 0, 1);
    }

    private static void missing() {
        String text = "rope a speed 10 long 20 from 0 to 4 bears 9999;car c at 4 weighs 1;car d at 1 weighs 2;";
        CableStreet s = Check.street(text);
        s.run(2);
        Check.car(s, 0, 51, 4, 0);
        Check.due("load", 20, s.rope(0, 0));
        s.run(1);
        Check.car(s, 0, 54, 3, 1);
        Check.due("misses", 1, s.count(0));
        Check.due("cut", 1, s.count(2));
        Check.due("rope is cut", 1, s.rope(0, 1));
        Check.event(s, 0, 3, 0, 0, -1, -1);
        Check.event(s, 1, 3, 2, 0, 0, 0);
        // The other car, which comes behind it in this very TICK, finds its rope cut: no miss.
        Check.car(s, 1, 15 + 2 + 4 + 3, 3, 1);
        Check.due("events", 2, s.about(12));
        // No rope gripped before: none is cut.
        s = Check.street("car c at 4 weighs 1;");
        s.run(1);
        Check.due("misses", 1, s.count(0));
        Check.due("cut", 0, s.count(2));
        Check.due("events", 1, s.about(12));
        // A rope that is cut is not cut again.
        s = Check.street("rope a speed 10 long 20 from 0 to 4 bears 9999;car c at 4 weighs 1;car d at 4 weighs 2;");
        s.run(3);
        Check.due("misses", 2, s.count(0));
        Check.due("cut", 1, s.count(2));
        Check.event(s, 0, 3, 0, 0, -1, -1);
        Check.event(s, 1, 3, 2, 0, 0, 0);
        Check.event(s, 2, 3, 0, 1, -1, -1);
        Check.due("events", 3, s.about(12));
    }

    private static void saved() {
        CableStreet s = Check.street("rope a speed 10 long 20 from 0 to 4 bears 9999;car c at 4 weighs 1;catch 5;");
        s.run(3);
        Check.due("misses", 1, s.count(0));
        Check.due("saved", 1, s.count(1));
        Check.due("cut", 0, s.count(2));
        Check.car(s, 0, 54, 3, 1);
        Check.event(s, 0, 3, 0, 0, -1, -1);
        Check.event(s, 1, 3, 1, 0, -1, 0);
        Check.due("what 5", -1, s.event(0, 5));
        Check.due("what -1", -1, s.event(0, -1));
        Check.due("event 2", -1, s.event(2, 0));
        Check.due("event -1", -1, s.event(-1, 0));
    }

    private static void strands() {
        CableStreet s = Check.street("rope a speed 7 long 20 from 10 to 19 bears 9999;car c at 14 weighs 1;");
        Check.due("strand of no rope", false, s.strand(1, 0));
        Check.due("strand -1", false, s.strand(-1, 0));
        Check.due("strand 200", false, s.strand(0, 200));
        Check.due("strand below 0", false, s.strand(0, -1));
        Check.due("none", -1, s.strandNow(0));
        Check.due("strand", true, s.strand(0, 199));
        Check.due("rope", 0, s.strandNow(0));
        Check.due("place", 199, s.strandNow(1));
        Check.due("below", -1, s.strandNow(2));
        Check.due("what 3", -1, s.strandNow(3));
        s.run(1);
        Check.due("place", 6, s.strandNow(1));
        Check.due("segment", 10, s.strandNow(2));
        Check.due("another", true, s.strand(0, 99));
        Check.due("segment", 19, s.strandNow(2));
        Check.due("another", true, s.strand(0, 100));
        Check.due("below", -1, s.strandNow(2));
        // It is not caught before the strand has gone on.
        s.strand(0, 41);
        Check.due("caught", 0, s.car(0, 3));
        s.run(1);
        Check.due("caught", 1, s.car(0, 3));
        Check.event(s, 0, 2, 4, 0, 0, -1);
        Check.due("gone", -1, s.strandNow(1));
        Check.due("free", true, s.free(0));
        Check.due("free again", false, s.free(0));
        Check.due("free 1", false, s.free(1));
        Check.due("free -1", false, s.free(-1));
        Check.due("caught", 0, s.car(0, 3));
    }

    private static void caughtOnes() {
        // Caught, it can neither stop nor let go; its MISS has the CAUGHT as cause, and ends it.
        String text = "rope a speed 10 long 20 from 0 to 4 bears 9999;car c at 3 weighs 1;car d at 3 weighs 1;"
                + "stop 3 for 5;let 4;stop 5 for 9;";
        CableStreet s = Check.street(text);
        s.strand(0, 25);
        s.run(1);
        Check.due("the least number is caught", 1, s.car(0, 3));
        Check.due("the other is not", 0, s.car(1, 3));
        Check.car(s, 0, 37, 2, 0);
        Check.car(s, 1, 35, 0, 2);
        s.run(3);
        Check.car(s, 0, 55, 8, 0);
        s.run(1);
        Check.car(s, 0, 62, 7, 1);
        Check.due("caught", 0, s.car(0, 3));
        Check.event(s, 0, 1, 4, 0, 0, -1);
        Check.event(s, 1, 5, 0, 0, -1, 0);
        Check.event(s, 2, 5, 2, 0, 0, 1);
        Check.due("strand on a cut rope", false, s.strand(0, 0));
    }

    private static void ropes() {
        CableStreet s = Check.street("rope a speed 9 long 20 from 0 to 19 bears 130;car c at 3 weighs 5;car d at 9 weighs 7;grade 9 to 19 1;");
        // 5 * 10 + 7 * 11 = 127
        Check.due("load", 127, s.rope(0, 0));
        Check.due("dips", 0, s.rope(0, 2));
        Check.due("cut", 0, s.rope(0, 1));
        Check.due("what 3", -1, s.rope(0, 3));
        Check.due("what -1", -1, s.rope(0, -1));
        Check.due("rope 1", -1, s.rope(1, 0));
        Check.due("rope -1", -1, s.rope(-1, 0));
        s = Check.street("rope a speed 9 long 20 from 0 to 19 bears 126;car c at 3 weighs 5;car d at 9 weighs 7;grade 9 to 19 1;"
                + "splice b on a at 30 lasts 99;");
        Check.due("dips", 1, s.rope(0, 2));
        s.strand(0, 100);
        s.run(3);
        // Half of 9 is 4, for cars, strand and splices.
        Check.car(s, 0, 35 + 2 + 4 + 4, 4, 0);
        Check.due("strand", 112, s.strandNow(1));
        Check.due("splice", 42, s.splice(0, 1));
        Check.due("dips", 3, s.count(3));
        Check.event(s, 2, 3, 3, -1, 0, -1);
        // A faster one is slowed at once.
        s = Check.street("rope a speed 20 long 20 from 0 to 5 bears 9999;rope b speed 3 long 20 from 6 to 9 bears 9999;car c at 0 weighs 1;");
        s.run(7);
        Check.car(s, 0, 5 + 2 + 4 + 6 + 8 + 10 + 12 + 14, 14, 0);
        s.run(1);
        Check.car(s, 0, 64, 3, 0);
        Check.due("load of a", 0, s.rope(0, 0));
        Check.due("load of b", 10, s.rope(1, 0));
    }

    private static void splices() {
        CableStreet s = Check.street("rope a speed 5 long 10 from 20 to 25 bears 9999;car c at 22 weighs 1;car d at 22 weighs 1;"
                + "splice x on a at 15 lasts 2;splice y on a at 99 lasts 9;stop 22 for 9;");
        Check.due("rope", 0, s.splice(0, 0));
        Check.due("place", 99, s.splice(1, 1));
        Check.due("segment", 21, s.splice(0, 2));
        Check.due("below", -1, s.splice(1, 2));
        Check.due("wear", 0, s.splice(0, 3));
        Check.due("what 4", -1, s.splice(0, 4));
        Check.due("splice 2", -1, s.splice(2, 0));
        Check.due("splice -1", -1, s.splice(-1, 0));
        s.run(1);
        // Worn by two at once; the next splice of the rope stays where it is.
        Check.due("wear", 2, s.splice(0, 3));
        Check.due("segment", 22, s.splice(0, 2));
        Check.due("place", 99, s.splice(1, 1));
        Check.due("cut", 1, s.rope(0, 1));
        Check.due("cuts", 1, s.count(2));
        Check.event(s, 0, 1, 7, -1, 0, -1);
        Check.event(s, 1, 1, 2, -1, 0, 0);
        s.run(12);
        Check.due("place", 20, s.splice(0, 1));
        // Behind their wait the cars grip what is cut: no MISS.
        Check.due("misses", 0, s.count(0));
        Check.due("mode", 1, s.car(0, 2));
    }

    private static void bumps() {
        CableStreet s = Check.street("car a at 3 weighs 1;car b at 3 weighs 1;car c at 3 weighs 1;car d at 4 weighs 1;");
        s.run(1);
        Check.due("bumps", 3, s.count(4));
        s.run(2);
        Check.due("bumps", 9, s.count(4));
        // 5 tenths apart bump, 6 do not.
        s = Check.street("rope a speed 2 long 60 from 0 to 59 bears 9999;car a at 0 weighs 1;car b at 1 weighs 1;stop 1 for 99;");
        s.run(2);
        Check.car(s, 0, 9, 2, 0);
        Check.due("6 apart", 0, s.count(4));
        s.run(1);
        Check.car(s, 0, 11, 2, 0);
        Check.due("4 apart", 1, s.count(4));
    }

    private static void halting() {
        CableStreet s = Check.street(LONG_ROPE + "car a at 3 weighs 1;car b at 10 weighs 1;car c at 59 weighs 1;car d at 20 weighs 9;");
        Check.due("halt 0", -1, s.halt(0));
        Check.due("halt 100", -1, s.halt(100));
        s.run(3);
        Check.car(s, 2, 599, 0, 3);
        s.strand(0, 185);
        s.run(1);
        Check.due("nobody there", 0, s.car(3, 3));
        s.strand(0, 210);
        s.run(1);
        Check.due("caught", 1, s.car(3, 3));
        Check.due("halt", 2, s.halt(2));
        Check.due("waits", 2, s.car(0, 4));
        Check.due("v", 0, s.speed(0));
        Check.due("mode", 2, s.car(1, 2));
        Check.due("mode of the caught one", 0, s.car(3, 2));
        int x = s.car(0, 0);
        s.run(2);
        Check.car(s, 0, x, 0, 0);
        Check.due("halt 99", 2, s.halt(99));
        Check.due("waits", 99, s.car(1, 4));
    }

    private static void turntable() {
        CableStreet s = Check.street(LONG_ROPE + "car c at 59 weighs 1;turn 2;stop 0 for 1;");
        s.run(1);
        Check.due("table", -1, s.about(13));
        Check.due("at 599 still", 2, s.speed(0));
        s.strand(0, 585);
        s.run(1);
        // 601: DONE, caught, and on the table in the same TICK.
        Check.car(s, 0, 599, 0, 3);
        Check.due("caught", 1, s.car(0, 3));
        Check.due("table", 0, s.about(13));
        s.run(1);
        Check.due("table", 0, s.about(13));
        Check.due("trips", 0, s.trips(0));
        Check.due("run", 1, s.run(1));
        Check.car(s, 0, 0, 0, 0);
        Check.due("caught", 0, s.car(0, 3));
        Check.due("table", -1, s.about(13));
        Check.due("trips", 1, s.trips(0));
        Check.due("back", 1, s.count(7));
        Check.event(s, 1, 4, 8, 0, -1, -1);
        // It has entered its SEGMENT: the stop mark holds it.
        s.run(1);
        Check.car(s, 0, 0, 0, 0);
        s.run(1);
        Check.car(s, 0, 2, 2, 0);
        Check.due("trips of none", -1, s.trips(1));
        Check.due("trips of none", -1, s.trips(-1));
        // Having gripped none, its MISS cuts none.
        s = Check.street("rope a speed 30 long 10 from 59 to 59 bears 9999;car c at 59 weighs 1;turn 1;");
        s.run(3);
        Check.car(s, 0, 0, 0, 0);
        s.run(1);
        Check.due("misses", 1, s.count(0));
        Check.due("cut", 0, s.count(2));
    }

    private static void turntableOfTwo() {
        CableStreet s = Check.street(LONG_ROPE + "car a at 58 weighs 1;car b at 59 weighs 1;car c at 59 weighs 1;turn 3;");
        s.run(2);
        Check.due("the least of like ones", 1, s.about(13));
        s.run(2);
        Check.due("still", 1, s.about(13));
        Check.due("a is done", 3, s.car(0, 2));
        s.run(1);
        // b comes back, and c, which is done longer than a, takes its place.
        Check.due("trips of b", 1, s.trips(1));
        Check.due("c", 2, s.about(13));
        s.run(3);
        Check.due("a", 0, s.about(13));
        s.run(3);
        Check.due("trips of a", 1, s.trips(0));
        Check.due("none", -1, s.about(13));
        Check.due("back", 3, s.count(7));
    }

    private static void manyEvents() {
        CableStreet s = Check.street("rope a speed 1 long 60 from 0 to 59 bears 1;car c at 9 weighs 99;");
        s.run(70);
        Check.due("dips", 70, s.count(3));
        Check.due("kept", 60, s.about(12));
        Check.event(s, 59, 60, 3, -1, 0, -1);
        Check.due("event 60", -1, s.event(60, 0));
        // Half of 1, cut, is 0.
        Check.car(s, 0, 95, 0, 0);
    }
}
