import java.util.Random;

/** Texts of streets at random: most of them lie within the document's bounds, so that all sorts of things happen. */
final class Texts {
    private static final String[] NAMES = {"a", "b", "c", "hill", "powell", "x", "longname", "q", "zz"};
    private final Random random;
    private final StringBuilder text = new StringBuilder();
    private int ropes = 0;
    private final int[] ropeLong = new int[3];
    private final String[] ropeNames = new String[3];

    Texts(Random random) {
        this.random = random;
    }

    private int from(int least, int most) {
        return least + random.nextInt(most - least + 1);
    }

    private boolean often(int percent) {
        return random.nextInt(100) < percent;
    }

    private String blank() {
        return often(80) ? " " : often(50) ? "\n" : "  ";
    }

    private Texts put(Object... parts) {
        for (Object part : parts) {
            text.append(part).append(blank());
        }
        text.append(';');
        if (often(30)) {
            text.append(blank());
        }
        return this;
    }

    String street() {
        boolean calm = often(50);
        int at = calm ? 0 : from(0, 8);
        int count = calm ? 1 : from(1, 3);
        for (int r = 0; r < count && at < 58; r++) {
            int to = Math.min(59, at + (calm || often(30) ? 59 : from(0, 25)));
            ropeLong[r] = Math.max(10, Math.min(200, to - at + 1 + (often(20) ? 0 : from(0, 40))));
            ropeNames[r] = NAMES[r];
            put("rope", ropeNames[r], "speed", from(1, 30), "long", ropeLong[r], "from", at, "to", to, "bears",
                    often(calm ? 20 : 50) ? from(1, 1500) : from(1000, 9999));
            ropes++;
            at = to + 1 + from(0, 6);
        }
        for (int g = from(0, 6); g > 0; g--) {
            int a = from(0, 59);
            int v = from(-9, 9);
            put("grade", a, "to", Math.min(59, a + from(0, 15)), v < 0 ? "-" + blank() + -v : "" + v);
        }
        for (int c = 0; c < from(0, 9) && c < 5; c++) {
            put("car", NAMES[c], "at", from(0, often(60) ? 20 : 59), "weighs", from(1, 99));
        }
        marks(calm);
        if (often(60)) {
            put("drag", from(0, often(70) ? 2 : 9));
        }
        if (often(60)) {
            put("brake", often(60) ? from(1, 400) : from(1, 9999));
        }
        if (often(50)) {
            put("turn", from(1, often(70) ? 12 : 99));
        }
        for (int s = 0; s < from(0, 6) && s < 6; s++) {
            int r = from(0, ropes - 1);
            put("splice", NAMES[s], "on", ropeNames[r], "at", from(0, 10 * ropeLong[r] - 1), "lasts",
                    often(60) ? from(1, 60) : from(1, 9999));
        }
        boolean[] crossed = new boolean[60];
        for (int c = 0; c < from(0, 6) && c < 4; c++) {
            int s = from(0, 59);
            if (!crossed[s]) {
                crossed[s] = true;
                put("cross", s, "when", either(0));
            }
        }
        return text.toString();
    }

    private void marks(boolean calm) {
        String[] sorts = {"let", "grip", "stop", "catch"};
        boolean[][] told = new boolean[4][60];
        for (int m = from(0, calm ? 5 : 20); m > 0; m--) {
            int sort = calm ? from(1, 3) : from(0, 3);
            int s = from(0, 59);
            if (!told[sort][s]) {
                told[sort][s] = true;
                if (sort == 2) {
                    put(sorts[sort], s, "for", from(1, often(80) ? 12 : 99));
                } else {
                    put(sorts[sort], s);
                }
            }
        }
    }

    private String either(int depth) {
        String e = both(depth);
        return often(20) ? e + " or " + both(depth) : e;
    }

    private String both(int depth) {
        String e = one(depth);
        return often(20) ? e + " and " + one(depth) : e;
    }

    private String one(int depth) {
        if (depth < 8 && often(15)) {
            return "not " + one(depth + 1);
        }
        String s = sum(depth);
        return often(65) ? s + "<>=".charAt(from(0, 2)) + sum(depth) : s;
    }

    private String sum(int depth) {
        String s = term(depth);
        return often(25) ? s + (often(50) ? "+" : " - ") + term(depth) : s;
    }

    private String term(int depth) {
        String s = unit(depth);
        return often(20) ? s + "*" + unit(depth) : s;
    }

    private String unit(int depth) {
        switch (from(0, depth < 8 ? 11 : 9)) {
            case 0: return "car";
            case 1: return "speed";
            case 2: return "weighs";
            case 3: return "tick";
            case 4: return "ahead";
            case 5: return "behind";
            case 6: return "load " + (often(97) ? from(0, ropes - 1) : ropes);
            case 7: return "" + from(0, 9999);
            case 8:
            case 9: return "" + from(0, 40);
            default: return "(" + either(depth + 1) + ")";
        }
    }

    /** A text with something wrong in it, most often. */
    static String spoilt(String text, Random random) {
        StringBuilder b = new StringBuilder(text);
        String bytes = "abcrope0123456789 \n;-()<>=+*A!~";
        String[] words = {"rope", "to", "60", "0", "9999", "10000", "not", "and", "let 5;", "turn 4;", "drag 1;", "(",
            ")", "grip 7;", "abcdefghi", "12x", "car a at 1 weighs 1;", "load 0", "tick", ";", "-", "a", "stop 3 for 0;",
            "rope z speed 1 long 10 from 3 to 5 bears 1;", "grade 9 to 8 1;", "splice m on a at 99 lasts 1;", "cross 9 when 1;"};
        for (int n = 1 + random.nextInt(2); n > 0 && b.length() > 0; n--) {
            int at = random.nextInt(b.length());
            switch (random.nextInt(6)) {
                case 0: b.deleteCharAt(at); break;
                case 1: b.setCharAt(at, bytes.charAt(random.nextInt(bytes.length()))); break;
                case 2: b.insert(at, bytes.charAt(random.nextInt(bytes.length()))); break;
                case 3: b.insert(at, " " + words[random.nextInt(words.length)] + " "); break;
                case 4: b.setLength(at); break;
                default:
                    int end = b.indexOf(";", at);
                    b.insert(end < 0 ? b.length() : end + 1, words[random.nextInt(words.length)]);
                    break;
            }
        }
        return b.toString();
    }
}
