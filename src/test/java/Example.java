/** README.md shows this file, and what it prints. */
public final class Example {
    /** Puts a text on the tape, twenty bytes at a time, and cuts off the blanks that fill the last twenty. */
    static int tell(CableStreet street, String text) {
        street.end(0);
        for (int at = 0; at < text.length(); at += 20) {
            int[] five = new int[5];
            for (int i = 0; i < 20; i++) {
                int sign = at + i < text.length() ? text.charAt(at + i) : ' ';
                five[i / 4] = five[i / 4] << 8 | sign;
            }
            street.feed(five[0], five[1], five[2], five[3], five[4]);
        }
        street.end(text.length());
        return street.street();
    }

    public static void main(String[] args) {
        CableStreet street = new CableStreet();
        if (tell(street, "rope a speed 12 long 40; let 19;") == CableStreet.NONE) {
            System.out.println("fault " + street.fault(0) + " at byte " + street.fault(1));
        }
        int lines = tell(street, "rope a speed 12 long 40 from 0 to 20 bears 900; car c at 17 weighs 20; let 19;"
                + "car d at 3 weighs 8; stop 5 for 3; rope b speed 9 long 60 from 23 to 50 bears 900; grip 24;");
        System.out.println(lines + " lines");
        System.out.println("they come as near as " + street.head(10) + " tenths in 10 ticks");
        street.image(0);
        System.out.println(street.run(5) + " cars on the street, the first at " + street.car(0, 0)
                + ", the other waits " + street.car(1, 4) + " more");
        street.back(0);
        street.strand(0, 150);
        System.out.println("the strand takes car " + street.takes());
        street.run(10);
        for (int i = 0; i < street.about(12); i++) {
            System.out.println("event " + street.event(i, 1) + " in tick " + street.event(i, 0)
                    + ", led to by event " + street.event(i, 4));
        }
        street.log(0, 4, 19);
        street.log(0, 9, 30);
        System.out.println(street.judge(0, street.about(5)) + " log is false");
    }
}
