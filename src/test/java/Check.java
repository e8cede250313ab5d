import java.nio.charset.StandardCharsets;

/** What the tests share: texts put on an object's tape, answers compared, and the exit code. */
final class Check {
    private static int right = 0;
    private static int wrong = 0;

    /** The family that most tests use. */
    static final String KIN =
        "step up;step down;step left;"
        + "person old 100;person ann 150 of old;person bob 140 of old;person cid 200 of ann;person gil 250;"
        + "god old gil;god ann gil;care ann 2;care gil 0;"
        + "error slip old up down 3 5 1;error turn old down left 2 4 0;error back ann left up 20 1 2;"
        + "deed walk up left;deed hop up up;deed rest left;";

    private Check() {
    }

    static void eq(String what, long got, long want) {
        if (got == want) {
            right++;
        } else {
            wrong++;
            System.out.println(what + " answered " + got + ", due is " + want);
        }
    }

    static void is(String what, boolean got) {
        eq(what, got ? 1 : 0, 1);
    }

    static void isNot(String what, boolean got) {
        eq(what, got ? 1 : 0, 0);
    }

    static int word(byte[] bytes, int at) {
        int number = 0;
        for (int i = at; i < at + 4; i++) {
            number = number << 8 | (i < bytes.length ? bytes[i] & 255 : 0);
        }
        return number;
    }

    static void put(SlipHeirs x, byte[] bytes) {
        int ahead = x.count(4);
        for (int at = 0; at < bytes.length; at += 20) {
            x.feed(word(bytes, at), word(bytes, at + 4), word(bytes, at + 8), word(bytes, at + 12), word(bytes, at + 16));
        }
        if (!x.end(ahead + bytes.length)) {
            throw new IllegalStateException("the tape did not take " + bytes.length + " bytes");
        }
    }

    static void put(SlipHeirs x, String text) {
        put(x, text.getBytes(StandardCharsets.ISO_8859_1));
    }

    static void steps(SlipHeirs x, int... steps) {
        byte[] bytes = new byte[steps.length];
        for (int i = 0; i < steps.length; i++) {
            bytes[i] = (byte) steps[i];
        }
        put(x, bytes);
    }

    static SlipHeirs of(String family) {
        SlipHeirs x = new SlipHeirs();
        put(x, family);
        int lines = x.family();
        if (lines < 0) {
            throw new IllegalStateException("not a family: place " + (-1 - lines) + ", fault " + x.fault() + " of " + family);
        }
        return x;
    }

    static SlipHeirs kin() {
        return of(KIN);
    }

    static int family(SlipHeirs x, String text) {
        put(x, text);
        return x.family();
    }

    static int chronicle(SlipHeirs x, String text, int lives) {
        put(x, text);
        return x.chronicle(lives);
    }

    static int sentence(SlipHeirs x, String text) {
        put(x, text);
        return x.sentence();
    }

    /** Reads a text as a FAMILY (f), a CHRONICLE that is only judged (c) or a SENTENCE (s). */
    static int read(SlipHeirs x, char sort, String text) {
        put(x, text);
        return sort == 'f' ? x.family() : sort == 'c' ? x.chronicle(0) : x.sentence();
    }

    /** The text has no FAULT and answers what is due. */
    static void reads(SlipHeirs x, char sort, String text, int due) {
        eq(sort + " <" + text + ">", read(x, sort, text), due);
        eq("fault of " + sort + " <" + text + ">", x.fault(), 0);
        eq("tape behind " + sort + " <" + text + ">", x.count(4), 0);
    }

    static void faultAt(SlipHeirs x, char sort, String text, int place, int kind) {
        eq(sort + " <" + text + ">", read(x, sort, text), (sort == 'c' ? -2 : -1) - place);
        eq("fault of " + sort + " <" + text + ">", x.fault(), kind);
        eq("tape behind " + sort + " <" + text + ">", x.count(4), 0);
    }

    /** The FAULT stands where the sign ! stands in the marked text. */
    static void faultAt(SlipHeirs x, char sort, String marked, int kind) {
        int place = marked.indexOf('!');
        faultAt(x, sort, marked.substring(0, place) + marked.substring(place + 1), place, kind);
    }

    /** A family that has of each sort as many as there may be: a line of ten, each the next one's godparent. */
    static String full() {
        StringBuilder text = new StringBuilder();
        for (char c = 'a'; c <= 'f'; c++) {
            text.append("step ").append(c).append(';');
        }
        for (char c = 'a'; c <= 'j'; c++) {
            text.append("person p").append(c).append(' ').append(291 + c - 'a');
            text.append(c == 'a' ? ";" : " of p" + (char) (c - 1) + ";");
            text.append("care p").append(c).append(' ').append(c - 'a').append(';');
        }
        for (char c = 'a'; c <= 'j'; c++) {
            text.append("god p").append(c).append(" p").append(c == 'j' ? 'a' : (char) (c + 1)).append(';');
        }
        for (char c = 'a'; c <= 'e'; c++) {
            text.append("error e").append(c).append(" p").append(c).append(' ').append(c).append(' ').append((char) (c + 1)).append(" 20 20 20;");
        }
        text.append("error ef pj f a 1 0 0;");
        for (char c = 'a'; c <= 'd'; c++) {
            text.append("deed d").append(c).append(repeat(" " + c, c == 'a' ? 12 : 1)).append(';');
        }
        return text.toString();
    }

    /** Whether person(p, what) throws NoSuchElementException. */
    static boolean noPerson(SlipHeirs x, int p, int what) {
        try {
            x.person(p, what);
            return false;
        } catch (java.util.NoSuchElementException e) {
            return true;
        }
    }

    static boolean noLoss(SlipHeirs x, int p, int d) {
        try {
            x.loss(p, d);
            return false;
        } catch (java.util.NoSuchElementException e) {
            return true;
        }
    }

    static String repeat(String text, int times) {
        return text.repeat(times);
    }

    static void close(String test) {
        System.out.println(test + ": " + right + " answers are as due, " + wrong + " are not");
        if (wrong != 0 || right == 0) {
            System.exit(1);
        }
    }
}
