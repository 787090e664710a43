/** Promises 1 to 5: a new object, the tape, the street's text and its faults. */
public final class TextTest {
    private static final String ROPE = "rope a speed 10 long 20 from 0 to 9 bears 900;";

    private TextTest() {
    }

    public static void main(String[] args) {
        newObject();
        feeding();
        ending();
        streets();
        noTokens();
        misplaced();
        tooMany();
        toldAlready();
        badNumbers();
        otherRopes();
        expressions();
        Check.end();
    }

    private static void newObject() {
        CableStreet s = new CableStreet();
        for (int what = 0; what <= 12; what++) {
            Check.due("about " + what, what == 7 ? 1 : what == 8 ? 200 : 0, s.about(what));
        }
        Check.due("about 13", -1, s.about(13));
        Check.due("fault 0", 0, s.fault(0));
        Check.due("fault 1", -1, s.fault(1));
        Check.due("fault 2", -1, s.fault(2));
        Check.due("fault -1", -1, s.fault(-1));
        Check.due("run", 0, s.run(500));
    }

    private static void feeding() {
        CableStreet s = new CableStreet();
        // "let 7;" and blanks: the highest byte of each number comes first.
        Check.due("feed", 20, s.feed(0x6c657420, 0x373b2020, 0x20202020, 0x20202020, 0x20202020));
        Check.due("street", 1, s.street());
        Check.due("marks", 1, s.about(2));
        Check.due("tape", 0, s.about(6));
        for (int n = 1; n <= 80; n++) {
            Check.due("feed " + n, 20 * n, s.feed(0, 0, 0, 0, 0));
        }
        Check.due("feed 81", -1, s.feed(0, 0, 0, 0, 0));
        Check.due("tape", 1600, s.about(6));
        Check.due("end", 1590, s.end(1590));
        Check.due("feed at 1590", -1, s.feed(0, 0, 0, 0, 0));
        Check.due("end", 1580, s.end(1580));
        Check.due("feed at 1580", 1600, s.feed(-1, -1, -1, -1, -1));
    }

    private static void ending() {
        CableStreet s = new CableStreet();
        Check.due("end 0", 0, s.end(0));
        Check.due("end 1", -1, s.end(1));
        Check.due("end -1", -1, s.end(-1));
        s.feed(0x6c657420, 0x373b3f3f, 0, 0, 0);
        Check.due("end 21", -1, s.end(21));
        Check.due("end 6", 6, s.end(6));
        Check.due("end 7", -1, s.end(7));
        Check.due("tape", 6, s.about(6));
        Check.due("street", 1, s.street());
    }

    private static void streets() {
        CableStreet s = Check.street(ROPE + "car c at 3 weighs 10;grip 30;brake 7;drag 0;");
        s.strand(0, 5);
        s.run(3);
        s.log(0, 1, 3);
        s.later(4);
        s.image(1);
        Check.tape(s, "car c at 3 weighs 10;let;");
        Check.due("faulty street", -1, s.street());
        Check.due("fault", 2, s.fault(0));
        Check.due("place", 24, s.fault(1));
        Check.due("tape stays", 25, s.about(6));
        Check.due("ropes stay", 1, s.about(0));
        Check.due("ticks stay", 3, s.about(3));
        Check.due("logs stay", 1, s.about(4));
        Check.due("box stays", 3, s.back(1));
        Check.tape(s, "car d at 4 weighs 1;");
        Check.due("street", 1, s.street());
        Check.due("fault", 0, s.fault(0));
        Check.due("place", -1, s.fault(1));
        int[] due = {0, 1, 0, 0, 0, 4, 0, 1, 200, 0, 0, 0, 0, -1};
        for (int what = 0; what < due.length; what++) {
            Check.due("about " + what, due[what], s.about(what));
        }
        Check.due("strand", -1, s.strandNow(0));
        Check.due("box", -1, s.back(1));
        Check.car(s, 0, 45, 0, 0);
        Check.tape(s, "");
        Check.due("empty street", 0, s.street());
        Check.due("cars", 0, s.about(1));
        Check.fine(0, " \n ");
        Check.fine(3, "let05;grip\n5 ;stop5 for0012;");
        Check.fine(2, "rope rop speed 1 long 10 from 0 to 0 bears 1;rope abcdefgh speed 30 long 200 from 1 to 59 bears 9999;");
        // A NAME is told already only among its sort.
        Check.fine(3, ROPE + "car a at 59 weighs 99;splice a on a at 199 lasts 9999;");
        Check.fine(4, ROPE + "rope b speed 1 long 10 from 10 to 19 bears 1;grade 0 to 59 - 9;grade 5 to 5 9;");
    }

    private static void noTokens() {
        Check.fault(1, "@?");
        Check.fault(1, "let 5; @A");
        Check.fault(1, "let 5;@\t");
        Check.fault(1, "let 5;@\r");
        Check.fault(1, "@Let 5;");
        Check.fault(1, "let @5x;");
        Check.fault(1, "stop @5for 2;");
        Check.fault(1, "let @12345;");
        Check.fault(1, "car @abcdefghi at 0 weighs 1;");
        Check.fault(1, "let 5 @,");
        Check.fault(1, "let 5;@" + (char) 233);
        Check.fault(1, "grade 0 to 1 -@9z;");
    }

    private static void misplaced() {
        Check.fault(2, "@5");
        Check.fault(2, "@;");
        Check.fault(2, "@on 5;");
        Check.fault(2, "@a 5;");
        Check.fault(2, "let @;");
        Check.fault(2, "let 5@");
        Check.fault(2, "let 5 \n@");
        Check.fault(2, "let 5 @let 6;");
        Check.fault(2, "let @-5;");
        Check.fault(2, "rope @speed");
        Check.fault(2, "rope @7");
        Check.fault(2, "car @load at 1 weighs 1;");
        Check.fault(2, "rope a @to");
        Check.fault(2, "grade 0 to 1 -@- 5;");
        Check.fault(2, "grade 0 to 1 @;");
        Check.fault(2, ROPE + "splice b on @at at 0 lasts 1;");
        Check.fault(2, "cross 5 when @;");
        Check.fault(2, "cross 5 when 1@");
        Check.fault(2, "cross 5 when (1@;");
        Check.fault(2, "cross 5 when 1 @);");
        Check.fault(2, "cross 5 when 1 < 2 @< 3;");
        Check.fault(2, "cross 5 when 1 + @not 2;");
        Check.fault(2, "cross 5 when @- 2;");
        Check.fault(2, "cross 5 when 1 @2;");
        Check.fault(2, "cross 5 when @rope;");
        Check.fault(2, "cross 5 when @a;");
        Check.fault(2, ROPE + "cross 5 when load @load;");
    }

    private static String repeat(int n, String before, String after) {
        StringBuilder b = new StringBuilder();
        for (int i = 0; i < n; i++) {
            b.append(before).append(after.isEmpty() ? "" : i + after);
        }
        return b.toString();
    }

    private static void tooMany() {
        String ropes = ROPE + "rope b speed 1 long 10 from 10 to 19 bears 1;rope c speed 1 long 10 from 20 to 29 bears 1;";
        Check.fine(3, ropes);
        Check.fault(2, ropes + "@rope d speed 1 long 10 from 30 to 39 bears 1;");
        String cars = "car a at 1 weighs 1;car b at 1 weighs 1;car c at 1 weighs 1;car d at 1 weighs 1;car e at 1 weighs 1;";
        Check.fine(5, cars);
        Check.fault(2, cars + " @car f at 1 weighs 1;");
        String grades = repeat(12, "grade ", " to 59 1;");
        Check.fine(12, grades);
        Check.fault(2, grades + "@grade 1 to 2 3;");
        String marks = repeat(12, "let ", ";") + repeat(10, "grip ", ";") + "stop 1 for 1;catch 1;";
        Check.fine(24, marks);
        Check.fault(2, marks + "@let 40;");
        Check.fault(2, marks + "@catch 1;");
        Check.fault(2, "drag 1;@drag 1;");
        Check.fault(2, "brake 200;@brake 200;");
        Check.fault(2, "turn 1;@turn 1;");
        String splices = ROPE;
        for (char c = 'a'; c <= 'f'; c++) {
            splices += "splice " + c + " on a at 0 lasts 1;";
        }
        Check.fine(7, splices);
        Check.fault(2, splices + "@splice g on a at 0 lasts 1;");
        String crosses = repeat(4, "cross ", " when 1;");
        Check.fine(4, crosses);
        Check.fault(2, crosses + "@cross 4 when 1;");
    }

    private static void toldAlready() {
        Check.fault(3, ROPE + "rope @a speed 10 long 20 from 10 to 19 bears 900;");
        Check.fault(3, "car a at 1 weighs 1;car @a at 2 weighs 2;");
        Check.fault(3, ROPE + "splice b on a at 0 lasts 1;splice @b on a at 1 lasts 1;");
        Check.fault(3, "let 5;let @5;");
        Check.fault(3, "grip 5;grip @05;");
        Check.fault(3, "stop 5 for 1;stop @5 for 2;");
        Check.fault(3, "catch 5;catch @5;");
        Check.fault(3, "cross 5 when 1;cross @5 when 1;");
        Check.fine(4, "let 5;grip 5;stop 5 for 1;catch 5;");
    }

    private static void badNumbers() {
        Check.fault(4, "rope a speed @0 long");
        Check.fault(4, "rope a speed @31 long");
        Check.fault(4, "rope a speed 1 long @9 from");
        Check.fault(4, "rope a speed 1 long @201 from");
        Check.fault(4, "rope a speed 1 long 10 from @60 to");
        Check.fault(4, "rope a speed 1 long 200 from 0 to @60 bears");
        Check.fault(4, "rope a speed 1 long 10 from 5 to @4 bears");
        Check.fault(4, "rope a speed 1 long 10 from 5 to @15 bears");
        Check.fine(1, "rope a speed 1 long 10 from 5 to 14 bears 1;");
        Check.fault(4, "rope a speed 1 long 10 from 5 to 5 bears @0;");
        Check.fault(4, "grade @60 to 60 1;");
        Check.fault(4, "grade 0 to @60 1;");
        Check.fault(4, "grade 1 to @0 1;");
        Check.fault(4, "grade 0 to 1 @10;");
        Check.fault(4, "grade 0 to 1 @- 10;");
        Check.fault(4, "car a at @60 weighs 1;");
        Check.fault(4, "car a at 0 weighs @0;");
        Check.fault(4, "car a at 0 weighs @100;");
        Check.fault(4, "let @60;");
        Check.fault(4, "grip @60;");
        Check.fault(4, "catch @9999;");
        Check.fault(4, "stop @60 for 1;");
        Check.fault(4, "stop 1 for @0;");
        Check.fault(4, "stop 1 for @100;");
        Check.fault(4, "drag @10;");
        Check.fault(4, "brake @0;");
        Check.fault(4, "turn @0;");
        Check.fault(4, "turn @100;");
        Check.fault(4, ROPE + "splice b on a at @200 lasts 1;");
        Check.fault(4, ROPE + "splice b on a at 0 lasts @0;");
        Check.fault(4, "cross @60 when 1;");
        Check.fault(4, ROPE + "cross 5 when load @1;");
        Check.fault(4, "cross 5 when load @0;" + ROPE);
        Check.fine(4, "drag 9;brake 9999;turn 99;stop 59 for 99;");
    }

    private static void otherRopes() {
        Check.fault(5, "splice b on @a at 0 lasts 1;" + ROPE);
        Check.fault(5, ROPE + "splice b on @b at 0 lasts 1;");
        Check.fault(6, ROPE + "rope b speed 1 long 10 from 9 to @12 bears 1;");
        Check.fault(6, ROPE + "rope b speed 1 long 20 from 3 to @4 bears 0;");
        Check.fault(6, "rope b speed 1 long 10 from 5 to 6 bears 1;rope a speed 1 long 60 from 0 to @59 bears 1;");
        // Two faults at one place: the least.
        Check.fault(4, ROPE + "rope b speed 1 long 10 from 9 to @30 bears 1;");
    }

    private static void expressions() {
        Check.fine(2, ROPE + "cross 5 when not car = 1 and speed < 3 or weighs > 2 + tick - ahead * behind and load 0 = (1);");
        Check.fine(1, "cross 5 when (((((((1)))))));");
        Check.fault(2, "cross 5 when (((((((@(1))))))));");
        Check.fine(1, "cross 5 when not not not not not not not 1;");
        Check.fault(2, "cross 5 when not not not not not not not @not 1;");
        Check.fault(2, "cross 5 when not (not (not (not @(1))));");
        Check.fine(1, "cross 5 when not (not (not (not 1))) and not (not (not (not 1)));");
        String forty = "1" + repeat(39, "+1", "");
        Check.fine(1, "cross 5 when " + forty + ";");
        Check.fault(2, "cross 5 when " + forty + "+@1;");
        Check.fault(2, "cross 5 when " + forty + ";cross 6 when @(1);");
        Check.fault(2, ROPE + "cross 5 when " + forty + ";cross 6 when @load 0;");
        // ( e ) is a unit, too.
        CableStreet s = Check.street("cross 5 when ((1)+car);cross 6 when 7;");
        Check.due("crosses", 2, s.about(10));
        Check.due("units", 5, s.about(11));
    }
}
