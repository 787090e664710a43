/** A street on which there is something of every sort, and looks at all of it, within an object's 512 calls. */
final class Busy {
    static final String TEXT = "rope a speed 10 long 30 from 0 to 19 bears 400;rope b speed 7 long 50 from 24 to 59 bears 900;"
            + "grade 8 to 9 3;grade 20 to 23 1;car c at 4 weighs 20;car d at 12 weighs 11;car e at 58 weighs 9;"
            + "let 19;grip 24;stop 7 for 4;catch 22;turn 5;splice x on a at 25 lasts 9;splice y on b at 490 lasts 90;"
            + "cross 14 when ahead > 460 or tick > 9;brake 50;";
    /** As many of each sort as there may be. */
    static final String FULL = "rope a speed 10 long 20 from 0 to 9 bears 9999;rope b speed 10 long 20 from 10 to 19 bears 9999;"
            + "rope c speed 10 long 40 from 20 to 59 bears 9999;" + "grade 30 to 40 2;".repeat(12)
            + "car a at 1 weighs 1;car b at 3 weighs 2;car c at 9 weighs 3;car d at 17 weighs 4;car e at 58 weighs 5;"
            + "let 5;let 6;grip 7;grip 8;stop 11 for 2;catch 12;let 41;let 42;let 43;let 44;grip 45;grip 46;grip 47;grip 48;"
            + "stop 51 for 1;stop 52 for 1;stop 53 for 1;catch 1;catch 2;catch 3;catch 4;catch 5;catch 6;catch 7;drag 0;brake 3;"
            + "splice a on a at 0 lasts 9;splice b on a at 1 lasts 9;splice c on b at 2 lasts 9;splice d on b at 3 lasts 9;"
            + "splice e on c at 4 lasts 9;splice f on c at 5 lasts 9;turn 7;"
            + "cross 21 when 1" + "+1".repeat(34) + ";cross 22 when tick;cross 23 when tick > 5;cross 24 when tick > 9;";
    private static final int BOX = 1;
    private static final int TICKS_ON = 25;

    /** What is asked of a street; a boolean counts 1 or 0. */
    interface Call {
        int of(CableStreet street);
    }

    private Busy() {
    }

    static CableStreet street() {
        CableStreet s = Check.street(TEXT);
        s.log(0, 3, 4);
        s.log(1, 5, 13);
        s.later(3);
        s.untell(1);
        s.log(0, 9, 7);
        s.run(4);
        s.image(BOX);
        s.strand(0, 115);
        s.run(2);
        s.strand(0, 13);
        s.run(2);
        s.feed(0x6c657420, 0x373b2020, 0, 0, 0);
        return s;
    }

    /** All that can be seen without changing it. */
    static String look(CableStreet s) {
        StringBuilder b = new StringBuilder("about");
        for (int what = 0; what <= 13; what++) {
            b.append(' ').append(s.about(what));
        }
        b.append(" count");
        for (int what = 0; what <= 7; what++) {
            b.append(' ').append(s.count(what));
        }
        b.append(" fault ").append(s.fault(0)).append(' ').append(s.fault(1)).append(" rolls ").append(s.rolls());
        for (int c = 0; c < s.about(1); c++) {
            b.append(" car ").append(s.car(c, 0)).append(' ').append(s.speed(c)).append(' ').append(s.car(c, 2));
            b.append(' ').append(s.car(c, 3)).append(' ').append(s.car(c, 4)).append(' ').append(s.trips(c));
            b.append(' ').append(s.logged(c, s.about(5)));
        }
        for (int r = 0; r < s.about(0); r++) {
            b.append(" rope ").append(s.rope(r, 0)).append(' ').append(s.rope(r, 1)).append(' ').append(s.rope(r, 2));
        }
        b.append(" strand ").append(s.strandNow(0)).append(' ').append(s.strandNow(1));
        for (int i = 0; i < s.about(9); i++) {
            b.append(" splice ").append(s.splice(i, 0)).append(' ').append(s.splice(i, 1)).append(' ').append(s.splice(i, 3));
        }
        for (int k = 0; k <= s.about(5) && k < 5; k++) {
            b.append(" judge ").append(s.judge(0, k)).append(' ').append(s.judge(1, k));
        }
        events(b, s);
        return b.toString();
    }

    private static void events(StringBuilder b, CableStreet s) {
        for (int i = 0; i < s.about(12); i++) {
            b.append(" event");
            for (int what = 0; what < 5; what++) {
                b.append(' ').append(s.event(i, what));
            }
        }
    }

    /** The call's answer, and that all is then, and goes on, as on a street that was not asked. */
    static void leavesAll(String name, long answer, Call call) {
        CableStreet asked = street();
        CableStreet twin = street();
        Check.due(name, answer, call.of(asked));
        Check.same(name + " leaves", look(twin), look(asked));
        Check.due(name + " and run", twin.run(TICKS_ON), asked.run(TICKS_ON));
        Check.same(name + " leaves for later", look(twin), look(asked));
        Check.due(name + " and back", twin.back(BOX), asked.back(BOX));
        Check.same(name + " leaves the box", look(twin), look(asked));
    }
}
