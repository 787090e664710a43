/** What the tests share: streets told by texts, and answers held against those that are due. */
final class Check {
    private static int wrong = 0;
    private static String sentence = "";

    private Check() {
    }

    /** What is asked next holds these words of the document, which QuotesTest looks for there. */
    static void sentence(String quote) {
        sentence = "(" + quote + ") ";
    }

    static void due(String what, long want, long got) {
        if (got != want) {
            wrong++;
            System.out.println(sentence + what + " answered " + got + ", due is " + want);
        }
    }

    static void same(String what, String want, String got) {
        if (!want.equals(got)) {
            wrong++;
            System.out.println(sentence + what + "\n  is  " + got + "\n  due " + want);
        }
    }

    static void due(String what, boolean want, boolean got) {
        due(what, want ? 1 : 0, got ? 1 : 0);
    }

    /** Puts a text on the tape in place of what is there. */
    static void tape(CableStreet street, String text) {
        street.end(0);
        for (int at = 0; at < text.length(); at += 20) {
            int[] five = new int[5];
            for (int i = 0; i < 20; i++) {
                int c = at + i < text.length() ? text.charAt(at + i) : ' ';
                five[i / 4] = five[i / 4] << 8 | c;
            }
            street.feed(five[0], five[1], five[2], five[3], five[4]);
        }
        due("bytes of " + text, text.length(), street.end(text.length()));
    }

    static CableStreet street(String text) {
        CableStreet street = new CableStreet();
        tape(street, text);
        if (street.street() == CableStreet.NONE) {
            wrong++;
            System.out.println(sentence + "fault " + street.fault(0) + " at " + street.fault(1) + " of " + text);
        }
        return street;
    }

    /** A text with one fault, whose place is where the @ stands (which is left out). */
    static void fault(int kind, String marked) {
        int place = marked.indexOf('@');
        String text = marked.substring(0, place) + marked.substring(place + 1);
        CableStreet street = new CableStreet();
        tape(street, text);
        due("street of " + marked, CableStreet.NONE, street.street());
        due("fault of " + marked, kind, street.fault(0));
        due("place of " + marked, place, street.fault(1));
    }

    static void fine(int lines, String text) {
        CableStreet street = new CableStreet();
        tape(street, text);
        due("street of " + text, lines, street.street());
        due("fault of " + text, 0, street.fault(0));
        due("place of " + text, CableStreet.NONE, street.fault(1));
    }

    /** An EVENT whole. */
    static void event(CableStreet street, int i, int... cells) {
        for (int what = 0; what < 5; what++) {
            due("event " + i + ", " + what, cells[what], street.event(i, what));
        }
    }

    static void car(CableStreet street, int car, int x, int v, int mode) {
        due("x of " + car, x, street.car(car, 0));
        due("v of " + car, v, street.speed(car));
        due("mode of " + car, mode, street.car(car, 2));
    }

    static void end() {
        System.out.println(wrong == 0 ? "all answers are as due" : wrong + " answers are not as due");
        if (wrong > 0) {
            System.exit(1);
        }
    }
}
