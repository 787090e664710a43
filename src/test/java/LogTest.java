/** Promises 31 to 38: logs and the two times, images, about. */
public final class LogTest {
    private static final String TEXT = "rope a speed 10 long 60 from 0 to 59 bears 9999;car c at 4 weighs 1;car d at 58 weighs 1;";

    private LogTest() {
    }

    public static void main(String[] args) {
        telling();
        times();
        judging();
        byTheTextAlone();
        speeds();
        images();
        imagesHoldAll();
        about();
        Check.end();
    }

    private static void telling() {
        CableStreet s = Check.street(TEXT);
        Check.due("car 2", -1, s.log(2, 1, 1));
        Check.due("car -1", -1, s.log(-1, 1, 1));
        Check.due("tick 0", -1, s.log(0, 0, 1));
        Check.due("tick 201", -1, s.log(0, 201, 1));
        Check.due("segment 60", -1, s.log(0, 1, 60));
        Check.due("segment -1", -1, s.log(0, 1, -1));
        Check.due("logs", 0, s.about(4));
        for (int i = 0; i < 60; i++) {
            Check.due("log " + i, i, s.log(i % 2, 200 - i, i));
        }
        Check.due("log 60", -1, s.log(0, 1, 1));
        Check.due("logs", 60, s.about(4));
        Check.due("untell 60", false, s.untell(60));
        Check.due("untell -1", false, s.untell(-1));
        Check.due("untell 59", true, s.untell(59));
        Check.due("untell 59 again", false, s.untell(59));
        Check.due("one that is untold counts among the 60", -1, s.log(0, 1, 1));
    }

    private static void times() {
        CableStreet s = Check.street(TEXT);
        Check.due("later 0", 0, s.later(0));
        Check.due("later -1", -1, s.later(-1));
        Check.due("later 1001", -1, s.later(1001));
        for (int n = 1; n <= 99; n++) {
            Check.due("later", 1000 * n, s.later(1000));
        }
        Check.due("later", 99001, s.later(1));
        Check.due("too late", -1, s.later(1000));
        Check.due("time", 99001, s.about(5));
        Check.due("later", 100000, s.later(999));
        Check.due("too late", -1, s.later(1));
        // The TIME goes on with another street.
        Check.tape(s, TEXT);
        s.street();
        Check.due("time", 100000, s.about(5));
    }

    private static void judging() {
        CableStreet s = Check.street(TEXT);
        Check.due("none false", 0, s.judge(0, 0));
        Check.due("none", -1, s.judge(1, 0));
        Check.due("what 2", -1, s.judge(2, 0));
        Check.due("what -1", -1, s.judge(-1, 0));
        s.later(5);
        // c: 45, 47, 51, 57, 65; d: 585, 587, 591, 597, DONE at 599.
        s.log(0, 1, 4);
        s.log(0, 2, 4);
        s.later(5);
        s.log(0, 2, 5);
        s.log(1, 200, 59);
        s.log(1, 3, 58);
        s.later(5);
        s.untell(1);
        Check.due("at 4", 0, s.judge(0, 4));
        Check.due("at 5", 1, s.judge(0, 5));
        Check.due("first at 5", 1, s.judge(1, 5));
        Check.due("at 9", 1, s.judge(0, 9));
        Check.due("at 10", 2, s.judge(0, 10));
        Check.due("at 14", 2, s.judge(0, 14));
        Check.due("first at 14", 1, s.judge(1, 14));
        Check.due("at 15", 1, s.judge(0, 15));
        Check.due("first at 15", 4, s.judge(1, 15));
        Check.due("below 0", 0, s.judge(0, -1));
        Check.due("far on", 1, s.judge(0, Integer.MAX_VALUE));
        // TOLD and UNTOLD at one TIME it never counts.
        s.log(0, 1, 30);
        Check.due("told", 2, s.judge(0, 15));
        s.untell(5);
        Check.due("untold", 1, s.judge(0, 15));
    }

    private static void byTheTextAlone() {
        CableStreet s = Check.street(TEXT + "let 6;drag 9;stop 7 for 5;");
        s.strand(0, 25);
        s.halt(50);
        s.run(100);
        // By the text alone c lets go on 6: 65 at tick 5, then 1 -> 66 and stands.
        s.log(0, 5, 6);
        s.log(0, 200, 6);
        s.log(0, 1, 3);
        Check.due("false", 1, s.judge(0, 0));
        Check.due("first", 2, s.judge(1, 0));
        s = Check.street("rope a speed 10 long 60 from 0 to 59 bears 9999;car c at 59 weighs 1;turn 1;");
        s.log(0, 2, 59);
        s.log(0, 3, 0);
        Check.due("the turntable is in the text", 0, s.judge(0, 0));
        // A street told anew is judged anew.
        s = Check.street(TEXT);
        s.log(0, 1, 4);
        Check.due("false", 0, s.judge(0, 0));
        Check.tape(s, TEXT.replace("at 4", "at 9"));
        s.street();
        s.log(0, 1, 4);
        Check.due("false", 1, s.judge(0, 0));
    }

    private static void speeds() {
        CableStreet s = Check.street(TEXT);
        Check.due("none", -1000, s.logged(0, 0));
        s.log(0, 10, 5);
        s.log(0, 10, 6);
        Check.due("of one tick", -1000, s.logged(0, 0));
        s.log(1, 20, 50);
        Check.due("of another car", -1000, s.logged(0, 0));
        s.log(0, 7, 8);
        // (6 - 8) * 10 / 3, cut
        Check.due("back", -6, s.logged(0, 0));
        s.later(1);
        s.log(0, 1, 59);
        Check.due("the two latest", -6, s.logged(0, 1));
        s.log(0, 10, 9);
        Check.due("TOLD last", 3, s.logged(0, 1));
        Check.due("as known before", -6, s.logged(0, 0));
        s.later(1);
        s.untell(5);
        Check.due("untold", -6, s.logged(0, 2));
        s.untell(0);
        s.untell(1);
        Check.due("earlier ones", (8 - 59) * 10 / 6, s.logged(0, 2));
        Check.due("below 0", -1000, s.logged(0, -1));
        s.log(0, 199, 7);
        s.log(0, 200, 9);
        Check.due("the last TICKS", 20, s.logged(0, 2));
        Check.due("car 2", -1000, s.logged(2, 2));
        Check.due("car -1", -1000, s.logged(-1, 2));
    }

    private static void images() {
        CableStreet s = Check.street(TEXT);
        Check.due("back 0", -1, s.back(0));
        Check.due("back 3", -1, s.back(3));
        Check.due("back -1", -1, s.back(-1));
        Check.due("image 3", -1, s.image(3));
        Check.due("image -1", -1, s.image(-1));
        Check.due("image 2", 0, s.image(2));
        s.run(3);
        Check.due("image 0", 3, s.image(0));
        s.log(0, 1, 1);
        s.later(7);
        s.run(40);
        Check.due("back 1", -1, s.back(1));
        Check.due("tick", 43, s.about(3));
        Check.due("back 2", 0, s.back(2));
        Check.car(s, 0, 45, 0, 0);
        Check.due("logs stay", 1, s.about(4));
        Check.due("the TIME stays", 7, s.about(5));
        s.run(1);
        Check.due("back 0", 3, s.back(0));
        Check.car(s, 1, 597, 6, 0);
        Check.due("back again", 3, s.back(0));
        Check.due("image over it", 3, s.image(2));
        Check.due("back", 3, s.back(2));
    }

    private static void imagesHoldAll() {
        String text = "rope a speed 10 long 60 from 0 to 59 bears 9999;car c at 59 weighs 20;car d at 57 weighs 20;car e at 4 weighs 9;"
                + "turn 4;splice x on a at 33 lasts 3;cross 6 when tick > 12;let 7;";
        CableStreet s = Check.street(text);
        s.strand(0, 12);
        s.run(7);
        s.image(0);
        s.run(60);
        String first = Busy.look(s);
        s.back(0);
        s.run(60);
        Check.same("gone on again", first, Busy.look(s));
        s.back(0);
        s.run(10);
        s.halt(9);
        s.strand(0, 7);
        s.run(30);
        s.back(0);
        s.run(60);
        Check.same("gone on in another way between", first, Busy.look(s));
    }

    private static void about() {
        CableStreet s = Check.street("rope a speed 10 long 20 from 0 to 9 bears 1;rope b speed 10 long 20 from 10 to 19 bears 1;"
                + "car c at 0 weighs 5;let 3;grip 4;stop 3 for 1;drag 4;brake 77;splice x on a at 1 lasts 2;cross 8 when 1 + 2 * (3);");
        s.run(2);
        s.log(0, 1, 1);
        s.later(9);
        s.feed(0, 0, 0, 0, 0);
        int[] due = {2, 1, 3, 2, 1, 9, 20, 4, 77, 1, 1, 4, 2, -1};
        for (int what = 0; what < due.length; what++) {
            Check.due("about " + what, due[what], s.about(what));
        }
        Check.due("about 14", -1, s.about(14));
        Check.due("about -1", -1, s.about(-1));
    }
}
