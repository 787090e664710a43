/** Promises 1 to 21 and 38: for each call the numbers that it takes, those that it does not, and what it then leaves. */
public final class CallEdgeTest {
    private static final String LONG_ROPE = "rope a speed 10 long 60 from 0 to 59 bears 9999;";
    /** Ends behind SEGMENT 4, so that one that grips on 5 misses. */
    private static final String SHORT_ROPE = "rope a speed 10 long 20 from 0 to 4 bears 9999;";
    private static final int MAX = Integer.MAX_VALUE;
    private static final int MIN = Integer.MIN_VALUE;
    private CallEdgeTest() {
    }

    public static void main(String[] args) {
        newObject();
        lastCall();
        feeds();
        feedsRefused();
        ends();
        endsRefused();
        streetEmptiesTheTape();
        streetBeginsAnew();
        streetFaultLeavesAll();
        streetAfterFault();
        faults();
        runs();
        runsRefused();
        runsToTheEnd();
        carAnswers();
        speeds();
        ropes();
        counts();
        strandsRefused();
        strandInPlaceOfAnother();
        strandNow();
        frees();
        splices();
        halts();
        haltsRefused();
        trips();
        asks();
        events();
        about();
        Check.end();
    }

    private static void newObject() {
        Check.sentence("An empty STREET.");
        CableStreet fresh = new CableStreet();
        CableStreet told = Check.street("");
        Check.same("as if told an empty text", Busy.look(told), Busy.look(fresh));
        Check.due("run", 0, fresh.run(9));
        Check.due("need", -1, fresh.need(0));
        Check.due("halt", 0, fresh.halt(1));
        Check.due("order", -1, fresh.order(0));
        Check.due("asks", -1000000, fresh.asks(0, 0));
        Check.due("strand", false, fresh.strand(0, 0));
        Check.due("log", -1, fresh.log(0, 1, 0));
        Check.due("street, of an empty TAPE", 0, fresh.street());
        Check.due("TICKS", 0, fresh.about(3));
    }

    private static void lastCall() {
        Check.sentence("An object is used for at most 512 calls after it has been made");
        CableStreet s = new CableStreet();
        for (int call = 1; call < 512; call++) {
            s.run(1);
        }
        Check.due("the 512th", 511, s.about(3));
    }

    private static void feeds() {
        Check.sentence("Twenty bytes come behind those on the TAPE, of each number the highest first: how many there are");
        CableStreet s = new CableStreet();
        Check.due("feed", 20, s.feed(0x6c657420, 0x373b2020, 0x20202020, 0x2020206c, 0x65742038));
        Check.due("feed", 40, s.feed(0x3b677269, 0x70203539, 0x3b202020, 0x20202020, 0x20202020));
        Check.due("tape", 40, s.about(6));
        Check.due("let 7;let 8;grip 59;", 3, s.street());
        // Bytes of 128 and more are what they are: no TOKENS, and no letters.
        s.feed(0x6c657420, 0x37bb2020, 0x20202020, 0x20202020, 0x20202020);
        Check.due("street", -1, s.street());
        Check.due("fault", 1, s.fault(0));
        Check.due("place", 5, s.fault(1));
        s.end(0);
        s.feed(-1, 0, 0, 0, 0);
        Check.due("street", -1, s.street());
        Check.due("fault", 1, s.fault(0));
        Check.due("place", 0, s.fault(1));
        // Behind those that are there, whatever was cut off.
        s.end(0);
        s.feed(0x6c657420, 0x373b3f3f, MAX, MIN, -1);
        s.end(6);
        Check.due("feed", 26, s.feed(0x6c657420, 0x383b2020, 0x20202020, 0x20202020, 0x20202020));
        Check.due("let 7;let 8;", 2, s.street());
    }

    private static void feedsRefused() {
        Check.sentence("NONE, and nothing comes, if there would be more than 1,600");
        CableStreet s = new CableStreet();
        int blanks = 0x20202020;
        s.feed(0x6c657420, 0x373b2020, blanks, blanks, blanks);
        for (int n = 2; n <= 79; n++) {
            Check.due("feed", 20 * n, s.feed(blanks, blanks, blanks, blanks, blanks));
        }
        Check.due("end", 1579, s.end(1579));
        Check.due("feed at 1579", 1599, s.feed(blanks, blanks, blanks, blanks, blanks));
        Check.due("feed at 1599", -1, s.feed(0, 0, 0, 0, 0));
        s.end(1581);
        Check.due("feed at 1581", -1, s.feed(0, 0, 0, 0, 0));
        Check.due("tape", 1581, s.about(6));
        s.end(1580);
        Check.due("feed at 1580", 1600, s.feed(blanks, blanks, blanks, blanks, 0x2020203f));
        Check.due("feed at 1600", -1, s.feed(0, 0, 0, 0, 0));
        Check.due("tape", 1600, s.about(6));
        Check.due("street", -1, s.street());
        Check.due("fault", 1, s.fault(0));
        Check.due("its last byte", 1599, s.fault(1));
        s.end(1599);
        Check.due("feed at 1599", -1, s.feed(0, 0, 0, 0, 0));
        Check.due("nothing came", 1, s.street());
    }

    private static void ends() {
        Check.sentence("The TAPE has its first n bytes: n");
        CableStreet s = new CableStreet();
        Check.due("0 of none", 0, s.end(0));
        s.feed(0x6c657420, 0x373b6c65, 0x7420383b, 0x3f3f3f3f, 0x3f3f3f3f);
        Check.due("all", 20, s.end(20));
        Check.due("tape", 20, s.about(6));
        Check.due("12", 12, s.end(12));
        Check.due("tape", 12, s.about(6));
        Check.due("12 again", 12, s.end(12));
        Check.due("its first", 2, s.street());
        s.feed(0x6c657420, 0x373b6c65, 0x7420383b, 0x3f3f3f3f, 0x3f3f3f3f);
        Check.due("0", 0, s.end(0));
        Check.due("tape", 0, s.about(6));
        Check.due("nothing", 0, s.street());
    }

    private static void endsRefused() {
        Check.sentence("NONE, doing nothing, if it has not so many, or n is below 0");
        for (int n : new int[] {21, -1, MAX, MIN}) {
            Busy.leavesAll("end " + n, -1, s -> s.end(n));
        }
        CableStreet s = new CableStreet();
        Check.due("1 of none", -1, s.end(1));
        s.feed(0x6c657420, 0x373b3f3f, 0, 0, 0);
        s.end(6);
        Check.due("what was cut off is gone", -1, s.end(7));
        Check.due("6", 6, s.about(6));
        Check.due("street", 1, s.street());
    }

    private static void streetEmptiesTheTape() {
        Check.sentence("The TAPE (empty then) is the STREET");
        CableStreet s = Check.street("let 5;");
        Check.due("tape", 0, s.about(6));
        Check.due("marks", 1, s.about(2));
        Check.due("an empty one then", 0, s.street());
        Check.due("marks", 0, s.about(2));
    }

    /** One that has been used is, told a text, as one that has not. */
    private static void asFresh(String name, CableStreet used, String text) {
        CableStreet fresh = Check.street(text);
        fresh.later(used.about(5));
        Check.tape(used, text);
        Check.due(name + ": street", text.length() - text.replace(";", "").length(), used.street());
        Check.same(name + ": at first", Busy.look(fresh), Busy.look(used));
        for (int box = 0; box < 3; box++) {
            Check.due(name + ": box " + box, -1, used.back(box));
        }
        for (int segment = 0; segment < 60; segment += 7) {
            Check.due(name + ": asks", fresh.asks(segment, 0), used.asks(segment, 0));
            Check.due(name + ": cost", fresh.cost(segment, 50), used.cost(segment, 50));
            Check.due(name + ": need", fresh.need(segment), used.need(segment));
        }
        fresh.run(30);
        used.run(30);
        Check.same(name + ": later", Busy.look(fresh), Busy.look(used));
    }

    private static CableStreet used(String text) {
        CableStreet s = Check.street(text);
        s.strand(0, 5);
        s.log(0, 1, 1);
        s.later(2);
        for (int box = 0; box < 3; box++) {
            s.image(box);
        }
        s.run(90);
        s.halt(40);
        s.judge(0, 2);
        s.strand(0, 7);
        return s;
    }

    private static void streetBeginsAnew() {
        Check.sentence("(no TICKS, no STRAND, no LOGS, BOXES are empty then): how many lines");
        String fives = "car a at 3 weighs 1;car b at 4 weighs 2;car c at 5 weighs 3;car d at 6 weighs 4;car e at 59 weighs 5;";
        String[] texts = {Busy.TEXT, Busy.FULL, "", fives, LONG_ROPE + fives + "turn 3;", LONG_ROPE + fives, SHORT_ROPE + fives,
            "rope b speed 3 long 60 from 0 to 59 bears 99;" + fives + "splice s on b at 30 lasts 2;cross 5 when 0 = 1;"};
        for (int before = 0; before < texts.length; before++) {
            for (int after = 0; after < texts.length; after++) {
                asFresh(before + " then " + after, used(texts[before]), texts[after]);
                CableStreet s = used(texts[before]);
                Check.tape(s, "let 1;");
                s.street();
                asFresh(before + ", another, then " + after, s, texts[after]);
            }
        }
        toldAgainAndAgain();
        // One that was cut, and cars that were caught, DONE or on the turntable.
        CableStreet s = Check.street(LONG_ROPE + "car c at 59 weighs 1;car d at 5 weighs 1;stop 5 for 3;splice x on a at 15 lasts 1;turn 9;");
        s.strand(0, 585);
        s.run(4);
        Check.due("on the turntable", 0, s.about(13));
        Check.due("cut", 1, s.rope(0, 1));
        asFresh("cut and DONE", s, LONG_ROPE + "car c at 59 weighs 1;car d at 5 weighs 1;splice x on a at 45 lasts 9;turn 9;");
        // Gripped last: not what was gripped on the street before.
        s = Check.street(LONG_ROPE + "car c at 5 weighs 1;");
        s.run(9);
        asFresh("gripped", s, LONG_ROPE.replace("from 0", "from 20") + "car c at 5 weighs 1;");
    }

    private static void toldAgainAndAgain() {
        String text = "car c at 0 weighs 1;cross 5 when 1" + "+1".repeat(39) + ";";
        CableStreet s = new CableStreet();
        for (int n = 0; n < 30; n++) {
            Check.tape(s, text);
            Check.due("lines", 2, s.street());
            Check.due("units", 40, s.about(11));
            Check.due("their sum", 40, s.asks(5, 0));
        }
    }

    private static void streetFaultLeavesAll() {
        Check.sentence("NONE: a FAULT (all stays)");
        String[] faulty = {"?", "let 60;", Busy.FULL + "?", Busy.FULL + "let 59;", "rope a speed 1 long 10 from 0 to 0 bears 1;car zz",
            "grade 0 to 59 9;drag 9;brake 1;turn 1;drag 1;", Busy.TEXT.replace("50;", "0;")};
        for (String text : faulty) {
            CableStreet asked = Busy.street();
            CableStreet twin = Busy.street();
            Check.tape(asked, text);
            Check.tape(twin, text);
            Check.due("street", -1, asked.street());
            Check.due("the TAPE", text.length(), asked.about(6));
            Check.due("a FAULT", true, asked.fault(0) > 0);
            Check.same("all", seen(twin), seen(asked));
            twin.run(9);
            asked.run(9);
            Check.same("and on", seen(twin), seen(asked));
            Check.due("BOXES", twin.back(1), asked.back(1));
        }
    }

    private static String seen(CableStreet s) {
        return Busy.look(s).replaceFirst("fault -?\\d+ -?\\d+", "");
    }

    private static void streetAfterFault() {
        Check.sentence("how many lines; NONE: a FAULT");
        // What a faulty text told is forgotten: nothing in it is told already, nor too much.
        CableStreet s = Check.street("let 1;");
        Check.tape(s, Busy.FULL + "?");
        Check.due("street", -1, s.street());
        asFresh("FULL behind a faulty FULL", s, Busy.FULL);
        s = Check.street("let 1;");
        Check.tape(s, Busy.TEXT + "cross 30 when (1 + 2;");
        Check.due("street", -1, s.street());
        asFresh("behind a faulty cross", s, "car c at 5 weighs 1;cross 7 when 5;cross 28 when car - 4;");
        // Twice the same fault, and the TAPE is mended by end().
        s = new CableStreet();
        Check.tape(s, "let 5;?");
        for (int n = 0; n < 2; n++) {
            Check.due("street", -1, s.street());
            Check.due("fault", 1, s.fault(0));
            Check.due("place", 6, s.fault(1));
        }
        s.end(6);
        Check.due("street", 1, s.street());
        Check.due("fault", 0, s.fault(0));
        Check.due("place", -1, s.fault(1));
    }

    private static void faults() {
        Check.sentence("Of the latest street() what 0: its FAULT (0), 1: its place (NONE). NONE for another what.");
        CableStreet s = new CableStreet();
        Check.due("none yet", 0, s.fault(0));
        Check.due("none yet", -1, s.fault(1));
        Check.tape(s, "let 5; let 60;");
        Check.due("not asked yet", 0, s.fault(0));
        s.street();
        Check.due("fault", 4, s.fault(0));
        Check.due("place", 11, s.fault(1));
        for (int what : new int[] {-1, 2, MAX, MIN}) {
            Check.due("what " + what, -1, s.fault(what));
        }
        s.end(6);
        s.run(1);
        Check.due("still the latest", 4, s.fault(0));
        s.street();
        Check.due("no fault", 0, s.fault(0));
        Check.due("no place", -1, s.fault(1));
    }

    private static void runs() {
        Check.sentence("So many TICKS (0 .. 500): how many CARS are not DONE then");
        Busy.leavesAll("run 0", 2, s -> s.run(0));
        CableStreet s = Check.street(LONG_ROPE + "car a at 59 weighs 1;car b at 58 weighs 1;car c at 5 weighs 1;");
        Check.due("all", 3, s.run(1));
        Check.due("a is DONE", 2, s.run(1));
        Check.due("TICKS", 2, s.about(3));
        Check.due("500", 0, s.run(500));
        Check.due("TICKS", 502, s.about(3));
        Check.due("without cars", 0, Check.street("").run(500));
    }

    private static void runsRefused() {
        Check.sentence("NONE, doing nothing, for another number, or if there would be more than 100,000");
        for (int ticks : new int[] {-1, 501, MAX, MIN}) {
            Busy.leavesAll("run " + ticks, -1, s -> s.run(ticks));
        }
    }

    private static void runsToTheEnd() {
        Check.sentence("or if there would be more than 100,000");
        CableStreet s = Check.street("car c at 5 weighs 1;");
        for (int n = 0; n < 199; n++) {
            s.run(500);
        }
        s.image(0);
        Check.due("500 more", 1, s.run(500));
        Check.due("TICKS", 100000, s.about(3));
        Check.due("1 more", -1, s.run(1));
        Check.due("0 more", 1, s.run(0));
        s.back(0);
        s.run(1);
        Check.due("500 more", -1, s.run(500));
        Check.due("TICKS", 99501, s.about(3));
        Check.due("499 more", 1, s.run(499));
        Check.due("500 more", -1, s.run(500));
        Check.due("TICKS", 100000, s.about(3));
        // What comes is found behind the last TICK, too.
        Check.due("head", -1, s.head(300));
        Check.due("power", 0, s.power(300, 0));
        Check.due("TICKS", 100000, s.about(3));
        Check.due("image", 100000, s.image(1));
    }

    private static void carAnswers() {
        Check.sentence("NONE if there is none such, or for another what.");
        CableStreet s = Busy.street();
        int[] due = {75, -1, 2, 0, 1, -1};
        for (int what = 0; what < due.length; what++) {
            Check.due("what " + what, due[what], s.car(0, what));
        }
        for (int no : new int[] {-1, 3, 4, 5, MAX, MIN}) {
            Check.due("car " + no, -1, s.car(no, 0));
            Check.due("what " + (no == 3 || no == 4 ? 1 : no), -1, s.car(0, no == 3 || no == 4 ? 1 : no));
        }
        Check.due("caught", 1, s.car(1, 3));
        // It does not wait: 0, whatever it has waited.
        s = Check.street(LONG_ROPE + "grade 5 to 5 9;car c at 5 weighs 99;stop 5 for 9;");
        s.run(1);
        Check.due("it rolls", 1, s.car(0, 2));
        Check.due("waits", 0, s.car(0, 4));
    }

    private static void speeds() {
        Check.sentence("Its v; -1000 if there is none such.");
        CableStreet s = Check.street("drag 0;grade 5 to 5 3;car c at 5 weighs 1;car d at 6 weighs 1;");
        s.run(1);
        Check.due("below 0", -3, s.speed(0));
        Check.due("0", 0, s.speed(1));
        for (int no : new int[] {-1, 2, 5, MAX, MIN}) {
            Check.due("speed " + no, -1000, s.speed(no));
        }
    }

    private static void ropes() {
        Check.sentence("Of a ROPE what 0: its LOAD, 1: 1 if it is CUT, else 0, 2: 1 if it would DIP, else 0. NONE if there is none such, or for another what.");
        CableStreet s = Busy.street();
        Check.due("load", 110, s.rope(0, 0));
        Check.due("cut", 0, s.rope(0, 1));
        Check.due("dips", 0, s.rope(0, 2));
        Check.due("load of b", 0, s.rope(1, 0));
        for (int no : new int[] {-1, 2, 3, MAX, MIN}) {
            Check.due("rope " + no, -1, s.rope(no, 0));
            Check.due("what " + (no == 2 ? 4 : no), -1, s.rope(0, no == 2 ? 4 : no));
        }
    }

    private static void counts() {
        Check.sentence("BACK there were, kept or not; NONE for another what");
        CableStreet s = Busy.street();
        s.run(25);
        int[] due = {1, 0, 1, 4, 0, 1, 0, 1};
        for (int what = 0; what < due.length; what++) {
            Check.due("count " + what, due[what], s.count(what));
        }
        for (int what : new int[] {-1, 8, MAX, MIN}) {
            Check.due("count " + what, -1, s.count(what));
        }
    }

    private static void strandsRefused() {
        Check.sentence("false, doing nothing, if one can't be (the ROPE is CUT, too)");
        int[][] cannot = {{0, -1}, {0, 300}, {1, 500}, {2, 0}, {-1, 0}, {MAX, 0}, {MIN, 0}, {0, MAX}, {0, MIN}};
        for (int[] of : cannot) {
            Busy.leavesAll("strand " + of[0] + ", " + of[1], 0, s -> s.strand(of[0], of[1]) ? 1 : 0);
        }
        CableStreet s = Check.street(SHORT_ROPE + "rope b speed 1 long 10 from 20 to 20 bears 1;car c at 4 weighs 1;");
        Check.due("whole", true, s.strand(0, 150));
        s.run(3);
        Check.due("cut", false, s.strand(0, 0));
        Check.due("the one there stays", 180, s.strandNow(1));
        Check.due("on another", true, s.strand(1, 0));
        Check.due("rope", 1, s.strandNow(0));
    }

    private static void strandInPlaceOfAnother() {
        Check.sentence("A STRAND (in place of another one) at a place of a ROPE's loop: true");
        CableStreet s = Busy.street();
        int[][] can = {{0, 0}, {0, 299}, {1, 0}, {1, 499}};
        for (int[] of : can) {
            Check.due("strand " + of[0] + ", " + of[1], true, s.strand(of[0], of[1]));
            Check.due("rope", of[0], s.strandNow(0));
            Check.due("place", of[1], s.strandNow(1));
        }
        // The one before is gone: it catches nobody.
        s = Check.street(LONG_ROPE + "car c at 5 weighs 1;");
        s.strand(0, 45);
        s.strand(0, 300);
        s.run(1);
        Check.due("caught", 0, s.car(0, 3));
    }

    private static void strandNow() {
        Check.sentence("Of the STRAND what 0: its ROPE, 1: its place, 2: its SEGMENT; NONE if there is none, it is below (2), or for another what.");
        CableStreet s = Check.street("rope b speed 1 long 10 from 20 to 20 bears 1;" + SHORT_ROPE);
        for (int what = -1; what <= 3; what++) {
            Check.due("what " + what, -1, s.strandNow(what));
        }
        s.strand(1, 49);
        int[] due = {-1, 1, 49, 4, -1};
        for (int what = -1; what <= 3; what++) {
            Check.due("what " + what, due[what + 1], s.strandNow(what));
        }
        Check.due("what MAX", -1, s.strandNow(MAX));
        Check.due("what MIN", -1, s.strandNow(MIN));
        s.strand(1, 50);
        Check.due("below", -1, s.strandNow(2));
        Check.due("its place", 50, s.strandNow(1));
    }

    private static void frees() {
        Check.sentence("A CAR is no more CAUGHT: true; false if it is not, or there is none such.");
        for (int no : new int[] {0, 2, 3, 5, -1, MAX, MIN}) {
            Busy.leavesAll("free " + no, 0, s -> s.free(no) ? 1 : 0);
        }
        CableStreet s = Busy.street();
        Check.due("free 1", true, s.free(1));
        Check.due("caught", 0, s.car(1, 3));
        Check.due("again", false, s.free(1));
        // Nothing else of it changes.
        Check.car(s, 1, 149, 6, 0);
    }

    private static void splices() {
        Check.sentence("Of a SPLICE what 0: its ROPE, 1: its place, 2: its SEGMENT, 3: its WEAR; NONE if there is none such, it is below (2), or for another what.");
        CableStreet s = Busy.street();
        int[][] due = {{0, 105, 10, 2}, {1, 46, 28, 0}};
        for (int i = 0; i < due.length; i++) {
            for (int what = 0; what < 4; what++) {
                Check.due("splice " + i + ", " + what, due[i][what], s.splice(i, what));
            }
            for (int what : new int[] {-1, 4, MAX, MIN}) {
                Check.due("what " + what, -1, s.splice(i, what));
            }
        }
        for (int no : new int[] {-1, 2, 6, MAX, MIN}) {
            Check.due("splice " + no, -1, s.splice(no, 1));
        }
        s = Check.street("rope a speed 1 long 20 from 0 to 4 bears 1;splice x on a at 49 lasts 1;splice y on a at 50 lasts 1;");
        Check.due("in the street", 4, s.splice(0, 2));
        Check.due("below", -1, s.splice(1, 2));
    }

    private static void halts() {
        Check.sentence("All CARS that are neither DONE nor CAUGHT WAIT so many TICKS (1 .. 99) from now on, v 0: how many");
        // c waits already, d is CAUGHT, e is DONE.
        CableStreet s = Busy.street();
        Check.due("halt 99", 1, s.halt(99));
        Check.due("waits", 99, s.car(0, 4));
        Check.due("d", 0, s.car(1, 2));
        Check.due("d goes on", 6, s.speed(1));
        Check.due("e", 3, s.car(2, 2));
        Check.due("halt 1", 1, s.halt(1));
        Check.due("from now on", 1, s.car(0, 4));
        s.free(1);
        Check.due("d, too", 2, s.halt(2));
        Check.car(s, 1, 149, 0, 2);
        s = Check.street("car a at 1 weighs 1;car b at 2 weighs 1;car c at 3 weighs 1;car d at 4 weighs 1;car e at 5 weighs 1;");
        Check.due("all", 5, s.halt(1));
        Check.due("nobody", 0, Check.street("").halt(99));
    }

    private static void haltsRefused() {
        Check.sentence("v 0: how many; NONE, doing nothing, for another number");
        for (int ticks : new int[] {0, -1, 100, MAX, MIN}) {
            Busy.leavesAll("halt " + ticks, -1, s -> s.halt(ticks));
        }
    }

    private static void trips() {
        Check.sentence("How often a CAR came BACK; NONE if there is none such.");
        CableStreet s = Check.street("rope a speed 30 long 60 from 0 to 59 bears 9999;car c at 59 weighs 1;car d at 0 weighs 1;turn 1;cross 1 when car = 0;");
        s.run(300);
        Check.due("c", s.count(7), s.trips(0));
        Check.due("more than once", true, s.trips(0) > 1);
        Check.due("d", 0, s.trips(1));
        for (int no : new int[] {-1, 2, 5, MAX, MIN}) {
            Check.due("trips " + no, -1, s.trips(no));
        }
    }

    private static void asks() {
        Check.sentence("What the cross on a SEGMENT comes to for a CAR now (tick: that of the next TICK); -1000000 if there is none such (it may be that, too).");
        CableStreet s = Check.street("car c at 5 weighs 1;car d at 9 weighs 2;cross 0 when weighs;cross 59 when tick;cross 7 when 0-1000*1000;");
        Check.due("on 0", 2, s.asks(0, 1));
        Check.due("on 59", 1, s.asks(59, 0));
        Check.due("on 7", -1000000, s.asks(7, 0));
        s.run(500);
        Check.due("on 59", 501, s.asks(59, 0));
        for (int no : new int[] {-1, 1, 58, 60, MAX, MIN}) {
            Check.due("segment " + no, -1000000, s.asks(no, 0));
        }
        for (int no : new int[] {-1, 2, 5, MAX, MIN}) {
            Check.due("car " + no, -1000000, s.asks(0, no));
        }
    }

    private static void events() {
        Check.sentence("4: its CAUSE (a number of one; NONE: none); NONE if there is none such, or for another what");
        CableStreet s = Busy.street();
        Check.event(s, 0, 4, 6, 1, -1, -1);
        Check.event(s, 1, 6, 4, 1, 0, -1);
        for (int no : new int[] {-1, 2, 59, 60, MAX, MIN}) {
            for (int what = 0; what < 5; what++) {
                Check.due("event " + no, -1, s.event(no, what));
            }
        }
        for (int what : new int[] {-1, 5, MAX, MIN}) {
            Check.due("what " + what, -1, s.event(1, what));
        }
    }

    private static void about() {
        Check.sentence("13: the CAR on the TURNTABLE (NONE). NONE for another what.");
        CableStreet s = Busy.street();
        int[] due = {2, 3, 4, 8, 3, 3, 20, 1, 50, 2, 1, 4, 2, 2};
        for (int what = 0; what < due.length; what++) {
            Check.due("about " + what, due[what], s.about(what));
        }
        for (int what : new int[] {-1, 14, MAX, MIN}) {
            Check.due("about " + what, -1, s.about(what));
        }
        s = Check.street(Busy.FULL);
        int[] full = {3, 5, 24, 0, 0, 0, 0, 0, 3, 6, 4, 40, 0, -1};
        for (int what = 0; what < full.length; what++) {
            Check.due("about " + what, full[what], s.about(what));
        }
    }
}
