/** ==== 1 of the document: each limit of a STREET's text, each TOKEN and each FAULT, on both of its sides. */
public final class StreetEdgeTest {
    private static final String ROPE = "rope a speed 10 long 20 from 0 to 9 bears 900;";
    private static final String THREE = ROPE + "rope b speed 1 long 10 from 10 to 19 bears 1;rope c speed 1 long 200 from 20 to 29 bears 1;";
    private static final String FORTY = "1" + "+1".repeat(39);
    /** A line of each sort, its TOKENS apart. */
    private static final String[] LINES = {
        "rope b speed 10 long 20 from 10 to 19 bears 900 ;", "grade 0 to 1 - 3 ;", "grade 0 to 1 3 ;",
        "car c at 4 weighs 10 ;", "let 5 ;", "grip 5 ;", "stop 5 for 2 ;", "catch 5 ;", "drag 2 ;", "brake 9 ;",
        "splice x on a at 3 lasts 4 ;", "turn 4 ;", "cross 5 when 1 ;", "cross 5 when load 0 ;", "cross 5 when not 1 ;"};

    private StreetEdgeTest() {
    }

    public static void main(String[] args) {
        longestText();
        emptyText();
        linesCutShort();
        linesWithAnotherToken();
        everyByte();
        longestWords();
        longestNumbers();
        letterBehindNumber();
        blanksOrNot();
        asLongAsCanBe();
        ownWords();
        segments();
        ropeNumbers();
        ropesAtMost();
        gradeNumbers();
        gradesAtMost();
        carNumbers();
        markNumbers();
        marksAtMost();
        dragAndBrake();
        spliceNumbers();
        turns();
        crossesAtMost();
        unitsInAll();
        within();
        loadOfRopeTold();
        firstByPlace();
        leastAtOnePlace();
        placeAtTheEnd();
        placeOfV();
        toldAlready();
        longEnough();
        noSuchRope();
        anotherRopesSegment();
        Check.end();
    }

    /** # stands for a number: least and most are taken, what is beyond them is FAULT 4 there. */
    private static void range(int least, int most, String text) {
        Check.fine(lines(text), text.replace("#", "" + least));
        Check.fine(lines(text), text.replace("#", "" + most));
        if (least > 0) {
            Check.fault(4, text.replace("#", "@" + (least - 1)));
            Check.fault(4, text.replace("#", "@0"));
        }
        if (most < 9999) {
            Check.fault(4, text.replace("#", "@" + (most + 1)));
            Check.fault(4, text.replace("#", "@9999"));
        }
        Check.fault(1, text.replace("#", "@10000"));
    }

    private static int lines(String text) {
        return text.length() - text.replace(";", "").length();
    }

    private static void longestText() {
        Check.sentence("A STREET is a text of at most 1,600 bytes (empty at first)");
        String line = "stop 59 for 99;";
        Check.fine(1, line + " ".repeat(1600 - line.length()));
        Check.fine(1, " ".repeat(1600 - line.length()) + line);
        Check.fault(2, " ".repeat(1600 - 5) + "let 5@");
        Check.fault(1, " ".repeat(1599) + "@?");
        CableStreet s = new CableStreet();
        Check.due("ropes, cars, marks at first", 0, s.about(0) + s.about(1) + s.about(2) + s.about(9) + s.about(10));
    }

    private static void emptyText() {
        Check.sentence("street = {line}");
        Check.fine(0, "");
        Check.fine(0, " ");
        Check.fine(0, "\n");
        Check.fine(1, "let 0;");
        Check.fine(2, "let 0;let 1;");
        Check.fault(2, "let 0;@;");
    }

    private static void linesCutShort() {
        Check.sentence("the end: the text's length");
        for (String line : LINES) {
            Check.fine(2, ROPE + line);
            for (int at = line.indexOf(' '); at >= 0; at = line.indexOf(' ', at + 1)) {
                Check.fault(2, ROPE + line.substring(0, at) + "@");
            }
        }
    }

    private static void linesWithAnotherToken() {
        Check.sentence("2 one that can't stand there");
        for (String line : LINES) {
            int at = 0;
            while (at < line.length()) {
                int end = line.indexOf(' ', at) < 0 ? line.length() : line.indexOf(' ', at);
                anotherToken(line, at, end);
                at = end + 1;
            }
        }
    }

    private static void anotherToken(String line, int at, int end) {
        String ahead = ROPE + line.substring(0, at) + "@";
        String behind = line.substring(end);
        Check.fault(2, ahead + ")" + behind);
        Check.fault(1, ahead + "?" + behind);
        boolean number = Character.isDigit(line.charAt(at));
        boolean name = end - at == 1 && Character.isLetter(line.charAt(at));
        if (number || name) {
            Check.fault(2, ahead + "to" + behind);
        } else if (!line.startsWith("- ", at) && !ahead.contains("when")) {
            // An N may stand for a V's sign, and within an e.
            Check.fault(2, ahead + "7" + behind);
        }
        if (!name) {
            Check.fault(2, ahead + "zz" + behind);
        }
    }

    private static void everyByte() {
        Check.sentence("signs ; - ( ) < > = + *; blanks (32, 10) part them or not");
        for (int b = 0; b < 256; b++) {
            char c = (char) b;
            boolean token = c >= 'a' && c <= 'z' || c >= '0' && c <= '9' || ";-()<>=+*".indexOf(c) >= 0;
            if (c == 32 || c == 10) {
                Check.fine(1, c + "let" + c + "5" + c + ";" + c);
            } else {
                Check.fault(token ? 2 : 1, "let 5; @" + c);
            }
        }
    }

    private static void longestWords() {
        Check.sentence("words (a .. z, 8 at most)");
        Check.fine(1, "car abcdwxyz at 0 weighs 1;");
        Check.fine(1, "car a at 0 weighs 1;");
        Check.fault(1, "car @abcdvwxyz at 0 weighs 1;");
        Check.fault(1, "@letletlet 5;");
        Check.fault(2, "@letletle 5;");
        // Names that differ in their last letter alone are two.
        Check.fine(2, "car abcdefgy at 0 weighs 1;car abcdefgz at 0 weighs 1;");
        Check.fault(3, "car abcdefgz at 0 weighs 1;car @abcdefgz at 0 weighs 1;");
        Check.fine(4, "car a at 0 weighs 1;car aa at 0 weighs 1;car az at 0 weighs 1;car za at 0 weighs 1;");
    }

    private static void longestNumbers() {
        Check.sentence("N (1 to 4 digits)");
        Check.fine(1, "let 5;");
        Check.fine(1, "let 0005;");
        Check.fault(1, "let @00005;");
        Check.fine(1, "cross 5 when 9999;");
        Check.fine(1, "cross 5 when 0000;");
        Check.fault(1, "cross 5 when @10000;");
        Check.fault(1, "let @123456789123456789;");
    }

    private static void letterBehindNumber() {
        Check.sentence("no letter directly behind an N");
        Check.fault(1, "stop @5for 2;");
        Check.fine(1, "stop 5 for 2;");
        Check.fine(1, "stop 5\nfor 2;");
        Check.fault(1, "cross 5 when @1and 2;");
        Check.fault(1, "cross 5 when @1z;");
        Check.fault(1, "cross 5 when @1a;");
        // A sign, an N's end or the text's end is no letter.
        Check.fine(1, "cross 5 when 1+2;");
        Check.fault(2, "let 5@");
        // An N directly behind a word is another TOKEN.
        Check.fine(1, "stop5 for2;");
    }

    private static void blanksOrNot() {
        Check.sentence("blanks (32, 10) part them or not");
        Check.fine(1, "let5;");
        Check.fine(3, "let5;grip5;catch\n\n  5\n;");
        Check.fine(1, "cross5 when((1<2)+3)*car-4;");
        Check.fine(1, "grade0 to0-9;");
        Check.fault(2, "@letgrip 5;");
        Check.fault(2, "@le t 5;");
    }

    private static void asLongAsCanBe() {
        Check.sentence("each is as long as can be");
        Check.fault(2, "@lets 5;");
        Check.fault(4, "let @60;");
        Check.fault(2, "let 6 @0;");
        Check.fault(2, "cross 5 when @nota;");
        Check.fine(1, "car nota at 0 weighs 1;");
    }

    private static void ownWords() {
        Check.sentence("Words that stand for themselves here are no NAMES.");
        String own = "rope speed long from to bears grade car at weighs let grip stop for catch drag brake splice on lasts "
                + "turn cross when or and not tick ahead behind load";
        for (String word : own.split(" ")) {
            Check.fault(2, "car @" + word + " at 0 weighs 1;");
            Check.fault(2, "rope @" + word + " speed 1 long 10 from 0 to 0 bears 1;");
            Check.fault(2, ROPE + "splice @" + word + " on a at 0 lasts 1;");
            Check.fault(2, ROPE + "splice x on @" + word + " at 0 lasts 1;");
            Check.fine(1, "car " + word + "s at 0 weighs 1;");
        }
        for (String word : "street line name e both one sum term unit n v none caught strand segment ropes cars".split(" ")) {
            Check.fine(1, "car " + word + " at 0 weighs 1;");
        }
    }

    private static void segments() {
        Check.sentence("SEGMENTS are 0 .. 59.");
        range(0, 59, "rope a speed 1 long 200 from # to 59 bears 1;");
        range(0, 59, "rope a speed 1 long 200 from 0 to # bears 1;");
        range(0, 59, "grade # to 59 1;");
        range(0, 59, "grade 0 to # 1;");
        range(0, 59, "car c at # weighs 1;");
        range(0, 59, "let #;");
        range(0, 59, "grip #;");
        range(0, 59, "stop # for 1;");
        range(0, 59, "catch #;");
        range(0, 59, "cross # when 1;");
    }

    private static void ropeNumbers() {
        Check.sentence("3 ROPES (speed 1 .. 30, long 10 .. 200, from .. to SEGMENTS, the second not below the first, bears 1 .. 9999)");
        range(1, 30, "rope a speed # long 20 from 0 to 9 bears 1;");
        range(10, 200, "rope a speed 1 long # from 0 to 9 bears 1;");
        range(30, 59, "rope a speed 1 long 200 from 30 to # bears 1;");
        range(59, 59, "rope a speed 1 long 200 from 59 to # bears 1;");
        range(1, 9999, "rope a speed 1 long 20 from 0 to 9 bears #;");
    }

    private static void ropesAtMost() {
        Check.sentence("At most 3 ROPES");
        Check.fine(3, THREE);
        Check.fault(2, THREE + "@rope d speed 1 long 10 from 40 to 49 bears 1;");
        Check.fault(2, THREE + "@rope");
        CableStreet s = Check.street(THREE);
        Check.due("ropes", 3, s.about(0));
        Check.due("the third", 0, s.rope(2, 0));
        Check.due("no fourth", -1, s.rope(3, 0));
    }

    private static void gradeNumbers() {
        Check.sentence("12 grades (-9 .. 9, up is above 0; the last told of a SEGMENT holds; 0 if none)");
        range(0, 9, "grade 0 to 1 #;");
        range(20, 59, "grade 20 to # 1;");
        Check.fine(1, "grade 0 to 1 -9;");
        Check.fine(1, "grade 0 to 1 - 0;");
        Check.fault(4, "grade 0 to 1 @-10;");
        Check.fault(4, "grade 0 to 1 @-9999;");
        // Seen by loads: weighs * (10 + grade).
        CableStreet s = Check.street("rope a speed 1 long 60 from 0 to 59 bears 9999;grade 3 to 5 9;grade 5 to 7 -9;car c at 4 weighs 1;");
        Check.due("up", 19, s.rope(0, 0));
        int[] due = {10, 10, 10, 19, 19, 1, 1, 1, 10, 10};
        for (int at = 0; at < due.length; at++) {
            s = Check.street("rope a speed 1 long 60 from 0 to 59 bears 9999;grade 3 to 5 9;grade 5 to 7 -9;car c at " + at + " weighs 1;");
            Check.due("load of one at " + at, due[at], s.rope(0, 0));
        }
        s = Check.street("rope a speed 1 long 60 from 0 to 59 bears 9999;grade 0 to 59 3;grade 0 to 0 1;grade 59 to 59 2;car c at 0 weighs 1;car d at 59 weighs 1;car e at 1 weighs 1;car f at 58 weighs 1;");
        Check.due("the last told, at both ends", 11 + 12 + 13 + 13, s.rope(0, 0));
    }

    private static void gradesAtMost() {
        Check.sentence("12 grades");
        Check.fine(12, "grade 5 to 5 1;".repeat(12));
        Check.fault(2, "grade 5 to 5 1;".repeat(12) + "@grade 6 to 6 1;");
        Check.fault(2, "grade 5 to 5 1;".repeat(12) + "let 5;@grade");
    }

    private static void carNumbers() {
        Check.sentence("5 CARS (at 0 .. 59, weighs 1 .. 99)");
        range(0, 59, "car c at # weighs 1;");
        range(1, 99, "car c at 0 weighs #;");
        String five = "car a at 1 weighs 1;car b at 1 weighs 1;car c at 1 weighs 1;car d at 1 weighs 1;car e at 1 weighs 1;";
        Check.fine(5, five);
        Check.fault(2, five + "@car f at 1 weighs 1;");
        Check.fault(2, five + "@car a");
        CableStreet s = Check.street(five);
        Check.due("cars", 5, s.about(1));
        Check.due("the fifth", 15, s.car(4, 0));
        Check.due("no sixth", -1, s.car(5, 0));
    }

    private static void markNumbers() {
        Check.sentence("24 marks (let, grip, stop, catch; for 1 .. 99)");
        range(1, 99, "stop 0 for #;");
    }

    private static String marks(String sort, int number, String end) {
        StringBuilder b = new StringBuilder();
        for (int i = 0; i < number; i++) {
            b.append(sort).append(' ').append(59 - i).append(end);
        }
        return b.toString();
    }

    private static void marksAtMost() {
        Check.sentence("24 marks (let, grip, stop, catch");
        for (String sort : new String[] {"let", "grip", "catch"}) {
            Check.fine(24, marks(sort, 24, ";"));
            Check.fault(2, marks(sort, 24, ";") + "@" + sort + " 1;");
        }
        Check.fine(24, marks("stop", 24, " for 1;"));
        Check.fault(2, marks("stop", 24, " for 1;") + "@stop 1 for 1;");
        // Together they are 24, not each sort by itself.
        String mixed = marks("let", 6, ";") + marks("grip", 6, ";") + marks("stop", 6, " for 1;") + marks("catch", 6, ";");
        Check.fine(24, mixed);
        Check.due("marks", 24, Check.street(mixed).about(2));
        for (String sort : new String[] {"let", "grip", "stop", "catch"}) {
            Check.fault(2, mixed + "@" + sort + " 1;");
        }
    }

    private static void dragAndBrake() {
        Check.sentence("drag (0 .. 9), brake (1 .. 9999) each once (1, 200 if not told)");
        range(0, 9, "drag #;");
        range(1, 9999, "brake #;");
        Check.fault(2, "drag 1;@drag 1;");
        Check.fault(2, "drag 0;brake 1;@drag 0;");
        Check.fault(2, "brake 1;@brake 1;");
        Check.fault(2, "brake 200;drag 1;@brake 200;");
        CableStreet s = Check.street("");
        Check.due("drag", 1, s.about(7));
        Check.due("brake", 200, s.about(8));
        s = Check.street("drag 0;brake 1;");
        Check.due("drag", 0, s.about(7));
        Check.due("brake", 1, s.about(8));
        s = Check.street("brake 9999;drag 9;");
        Check.due("drag", 9, s.about(7));
        Check.due("brake", 9999, s.about(8));
    }

    private static void spliceNumbers() {
        Check.sentence("6 SPLICES (NAMES of their own; of a ROPE told ahead, at a place of its loop, 0 .. 10 * long - 1; lasts 1 .. 9999)");
        range(0, 199, THREE + "splice x on a at # lasts 1;");
        range(0, 99, THREE + "splice x on b at # lasts 1;");
        range(0, 1999, THREE + "splice x on c at # lasts 1;");
        range(1, 9999, THREE + "splice x on a at 0 lasts #;");
        String six = ROPE + "splice a on a at 0 lasts 1;splice b on a at 0 lasts 1;splice c on a at 0 lasts 1;"
                + "splice d on a at 0 lasts 1;splice e on a at 0 lasts 1;splice f on a at 199 lasts 1;";
        Check.fine(7, six);
        Check.fault(2, six + "@splice g on a at 0 lasts 1;");
        Check.fault(2, six + "@splice a");
        CableStreet s = Check.street(six);
        Check.due("splices", 6, s.about(9));
        Check.due("the sixth", 199, s.splice(5, 1));
        Check.due("no seventh", -1, s.splice(6, 1));
        // A splice may be named as a rope or a car is.
        Check.fine(3, ROPE + "car b at 0 weighs 1;splice b on a at 0 lasts 1;");
    }

    private static void turns() {
        Check.sentence("turn (1 .. 99) once (no TURNTABLE if not told)");
        range(1, 99, "turn #;");
        Check.fault(2, "turn 5;@turn 5;");
        Check.fault(2, "turn 5;let 5;@turn 5;");
        String text = "rope a speed 30 long 60 from 0 to 59 bears 9999;car c at 59 weighs 1;";
        CableStreet s = Check.street(text);
        Check.due("without", 0, s.run(300));
        Check.due("on it", -1, s.about(13));
        Check.due("back", 0, s.count(7));
        s = Check.street(text + "turn 1;");
        s.run(2);
        Check.due("on it", 0, s.about(13));
        Check.due("back", 1, s.run(1));
    }

    private static void crossesAtMost() {
        Check.sentence("4 crosses (on one SEGMENT once;");
        String four = "cross 0 when 1;cross 1 when 1;cross 58 when 1;cross 59 when 1;";
        Check.fine(4, four);
        Check.fault(2, four + "@cross 2 when 1;");
        Check.fault(2, four + "@cross 0 when 1;");
        Check.fault(3, "cross 0 when 1;cross @0 when 1;");
        Check.fault(3, "cross 59 when 1;cross 5 when 1;cross @59 when 1;");
        CableStreet s = Check.street(four.replace("58 when 1", "58 when 7") + "car c at 0 weighs 1;");
        Check.due("crosses", 4, s.about(10));
        Check.due("the third", 7, s.asks(58, 0));
    }

    private static void unitsInAll() {
        Check.sentence("40 units in all");
        Check.fine(1, "cross 5 when " + FORTY + ";");
        Check.fault(2, "cross 5 when " + FORTY + "+@1;");
        Check.fault(2, "cross 5 when " + FORTY + "*@car;");
        Check.fault(2, "cross 5 when " + FORTY + " and not @tick;");
        String most = "1" + "+1".repeat(38);
        Check.fine(2, "cross 5 when " + most + ";cross 6 when 1;");
        Check.fault(2, "cross 5 when " + most + ";cross 6 when 1 or @2;");
        Check.fault(2, "cross 5 when " + FORTY + ";cross 6 when @1;");
        Check.fault(2, ROPE + "cross 5 when " + FORTY + ";cross 6 when @load 7;");
        Check.fault(2, "cross 5 when " + FORTY + ";cross 6 when @(1);");
        // ( e ) is a unit, and what is in it others.
        Check.fine(1, "cross 5 when (" + most + ");");
        Check.fault(2, "cross 5 when (" + most + "+@1);");
        Check.fault(2, "cross 5 when " + most + "+(@1);");
        CableStreet s = Check.street("car c at 0 weighs 1;cross 5 when " + FORTY + ";");
        Check.due("units", 40, s.about(11));
        Check.due("their sum", 40, s.asks(5, 0));
        // All forty wait for one another.
        String deep = "1+1*(1+1*(1+1*(1+1*(1+1*(1+1*(1+1*(2)))))))";
        Check.due("deep", 7 + 2, Check.street("car c at 0 weighs 1;cross 5 when " + deep + ";").asks(5, 0));
        String joined = "0<" + "1*".repeat(37) + "1+1";
        Check.due("joined", 1, Check.street("car c at 0 weighs 1;cross 5 when " + joined + ";").asks(5, 0));
        // Seven nots on each of forty units: the most that there is to do.
        String nots = ("not ".repeat(7) + "0 or ").repeat(39) + "not ".repeat(7) + "0";
        s = Check.street("car c at 0 weighs 1;cross 5 when " + nots + ";");
        Check.due("nots", 1, s.asks(5, 0));
    }

    private static void within() {
        Check.sentence("a unit ( e ), or a one behind not, within 6 others at most");
        Check.fine(1, "cross 5 when (((((((1)))))));");
        Check.fault(2, "cross 5 when (((((((@(1))))))));");
        Check.fine(1, "cross 5 when not not not not not not not 1;");
        Check.fault(2, "cross 5 when not not not not not not not @not 1;");
        Check.fine(1, "cross 5 when not (not (not (not 1)));");
        Check.fault(2, "cross 5 when not (not (not (not @(1))));");
        Check.fault(2, "cross 5 when (not (not (not (@not 1))));");
        Check.fine(1, "cross 5 when (not (not (not (1))));");
        // What stands beside one is not within it.
        Check.fine(1, "cross 5 when (((((((1))))))) + (((((((1))))))) and not not not not not not not 1;");
        Check.fault(2, "cross 5 when ((((((1 + (1)) and (2 or (@(3))))))));");
    }

    private static void loadOfRopeTold() {
        Check.sentence("load of a ROPE told ahead");
        Check.fault(4, "cross 5 when load @0;" + ROPE);
        range(0, 0, ROPE + "cross 5 when load #;");
        range(0, 2, THREE + "cross 5 when load #;");
        Check.fault(4, ROPE + "cross 5 when load @1;rope b speed 1 long 10 from 10 to 19 bears 1;");
    }

    private static void firstByPlace() {
        Check.sentence("FAULTS, the first by its place");
        Check.fault(4, "let @60;?");
        Check.fault(1, "let @?;let 60;");
        Check.fault(2, "@if;?");
        Check.fault(5, "splice x on @a at 0 lasts 0;");
        Check.fault(3, "let 5;let @5 5;");
        Check.fault(4, "rope a speed @0 long 0 from 60 to 60 bears 0;");
        Check.fault(6, ROPE + "rope b speed 1 long 10 from 0 to @0 bears 0;");
        Check.fault(4, "grade 0 to 1 @-10?");
    }

    private static void leastAtOnePlace() {
        Check.sentence("at one place the least");
        // No TOKEN, where another one should stand.
        Check.fault(1, "let @?");
        Check.fault(1, "@?");
        Check.fault(1, "let 5 @?");
        Check.fault(1, "car @? at 0 weighs 1;");
        Check.fault(1, "cross 5 when " + FORTY + "+@?;");
        Check.fault(1, "cross 5 when (((((((@?");
        // One too many of its sort, whose N is told already further on.
        Check.fault(2, marks("let", 24, ";") + "@let 59;");
        // More SEGMENTS than long, and another ROPE's: 4 ahead of 6.
        Check.fault(4, ROPE + "rope b speed 1 long 10 from 5 to @15 bears 1;");
        Check.fault(6, ROPE + "rope b speed 1 long 10 from 5 to @14 bears 1;");
        Check.fault(4, ROPE + "rope b speed 1 long 10 from 5 to @4 bears 1;");
        Check.fault(4, ROPE + "rope b speed 1 long 200 from 5 to @60 bears 1;");
    }

    private static void placeAtTheEnd() {
        Check.sentence("bytes from 0; the end: the text's length");
        Check.fault(2, "let@");
        Check.fault(2, "let @");
        Check.fault(2, "let 5@");
        Check.fault(2, "let 5\n\n@");
        Check.fault(2, "grade 0 to 1 -@");
        Check.fault(2, "cross 5 when (1@");
        Check.fault(2, "cross 5 when not@");
        Check.fault(2, ROPE + "cross 5 when load@");
        Check.fault(1, "@?");
        Check.fault(2, "@to");
    }

    private static void placeOfV() {
        Check.sentence("of V its place is that of its sign, if it has one");
        Check.fault(4, "grade 0 to 1 @10;");
        Check.fault(4, "grade 0 to 1 @-10;");
        Check.fault(4, "grade 0 to 1 @- 10;");
        Check.fault(4, "grade 0 to 1 @-\n\n9999;");
        // What is no N behind the sign has a place of its own.
        Check.fault(2, "grade 0 to 1 -@;");
        Check.fault(2, "grade 0 to 1 -@-9;");
        Check.fault(1, "grade 0 to 1 -@12345;");
        Check.fault(2, "grade 0 to 1 @+9;");
    }

    private static void toldAlready() {
        Check.sentence("3 a NAME told already (of its sort), a mark of the same sort, or a cross, on this SEGMENT (at its N)");
        Check.fault(3, THREE.replace("rope c", "rope @b"));
        Check.fault(3, THREE.replace("rope c", "rope @a"));
        Check.fault(3, "car a at 1 weighs 1;car b at 1 weighs 1;car @a at 1 weighs 1;");
        Check.fault(3, ROPE + "splice y on a at 0 lasts 1;splice x on a at 0 lasts 1;splice @y on a at 0 lasts 1;");
        Check.fine(3, ROPE + "car a at 0 weighs 1;splice a on a at 0 lasts 1;");
        for (String sort : new String[] {"let", "grip", "catch"}) {
            Check.fault(3, sort + " 0;" + sort + " @0;");
            Check.fault(3, sort + " 59;let 1;" + sort + " @59;");
            Check.fine(2, sort + " 0;" + sort + " 1;");
        }
        Check.fault(3, "stop 0 for 1;stop @0 for 2;");
        Check.fine(6, "let 5;grip 5;stop 5 for 1;catch 5;cross 5 when 1;grade 5 to 5 1;");
        // Grades may be told again, and CARS stand where others do.
        Check.fine(4, "grade 5 to 5 1;grade 5 to 5 1;car a at 5 weighs 1;car b at 5 weighs 1;");
    }

    private static void longEnough() {
        Check.sentence("to, too, if from .. to are more SEGMENTS than long");
        range(0, 9, "rope a speed 1 long 10 from 0 to # bears 1;");
        range(30, 39, "rope a speed 1 long 10 from 30 to # bears 1;");
        range(50, 59, "rope a speed 1 long 10 from 50 to # bears 1;");
        range(55, 59, "rope a speed 1 long 10 from 55 to # bears 1;");
        range(0, 58, "rope a speed 1 long 59 from 0 to # bears 1;");
        range(0, 59, "rope a speed 1 long 60 from 0 to # bears 1;");
    }

    private static void noSuchRope() {
        Check.sentence("5 a NAME that no ROPE has");
        Check.fault(5, ROPE + "splice x on @b at 0 lasts 1;");
        Check.fault(5, "splice x on @a at 0 lasts 1;" + ROPE);
        Check.fault(5, ROPE + "car b at 0 weighs 1;splice x on @b at 0 lasts 1;");
        Check.fault(5, ROPE + "splice x on @x at 0 lasts 1;");
        Check.fine(2, ROPE + "splice x on a at 0 lasts 1;");
        CableStreet s = Check.street(THREE + "splice x on c at 7 lasts 1;splice y on a at 0 lasts 1;splice z on b at 1 lasts 1;");
        Check.due("of c", 2, s.splice(0, 0));
        Check.due("of a", 0, s.splice(1, 0));
        Check.due("of b", 1, s.splice(2, 0));
    }

    private static void anotherRopesSegment() {
        Check.sentence("6 (at to's N) a SEGMENT of another ROPE from .. to");
        String middle = "rope a speed 1 long 60 from 20 to 29 bears 1;rope b speed 1 long 60 from ";
        Check.fine(2, middle + "10 to 19 bears 1;");
        Check.fault(6, middle + "10 to @20 bears 1;");
        Check.fine(2, middle + "30 to 39 bears 1;");
        Check.fault(6, middle + "29 to @39 bears 1;");
        Check.fault(6, middle + "29 to @29 bears 1;");
        Check.fault(6, middle + "20 to @20 bears 1;");
        Check.fault(6, middle + "24 to @26 bears 1;");
        Check.fault(6, middle + "0 to @59 bears 1;");
        Check.fault(6, THREE.replace("20 to 29", "0 to @29").replace("long 200", "long 60"));
    }
}
