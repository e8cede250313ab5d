/** Promises 6, 7, 8, 32 and 33: person, error, deed, under, common. */
public final class TellsTest {
    private static final int[] WILD = {-1, -2, 8, 10, 31, 32, Integer.MIN_VALUE, Integer.MAX_VALUE};

    public static void main(String[] args) {
        persons();
        errors();
        deeds();
        families();
        wrongOnes();
        Check.close("TellsTest");
    }

    private static void person(SlipHeirs x, int p, int... due) {
        for (int what = 0; what < due.length; what++) {
            Check.eq("person(" + p + ", " + what + ")", x.person(p, what), due[what]);
        }
    }

    private static void persons() {
        SlipHeirs x = Check.kin();
        person(x, 0, 100, -1, 1, 3, 1, 4, 6, 0);
        person(x, 1, 150, 0, 1, 4, 2, 4, 8, 0);
        person(x, 2, 140, 0, 1, 0, 1, -1, 0, 0);
        person(x, 3, 200, 1, 1, 0, 1, -1, 0, 0);
        person(x, 4, 250, -1, 1, 0, 0, -1, 0, 0);
        x.act(0, 0);
        person(x, 0, 100, -1, 1, 3, 1, 4, 6, 2);
        x.act(0, 0);
        person(x, 0, 100, -1, 1, 1, 1, 4, 6, 4);
        x.die(0);
        person(x, 0, 100, -1, 0, 0, 1, 4, 6, 4);
        person(x, 2, 140, 0, 1, 1, 1, -1, 0, 0);
    }

    private static void error(SlipHeirs x, int e, int... due) {
        for (int what = 0; what < due.length; what++) {
            Check.eq("error(" + e + ", " + what + ")", x.error(e, what), due[what]);
        }
    }

    private static void errors() {
        SlipHeirs x = Check.kin();
        error(x, 0, 0, 0, 1, 3, 5, 1, 0, 0);
        error(x, 1, 0, 1, 2, 2, 4, 0, 0, 0);
        error(x, 2, 1, 2, 0, 20, 1, 2, 0, 1);
        x.act(0, 1);
        error(x, 0, 0, 0, 1, 1, 5, 1, 2, 0);
        error(x, 1, -1, 1, 2, 0, 4, 0, 2, 0);
        x.die(0);
        error(x, 0, 2, 0, 1, 1, 5, 1, 2, 0);
        x.die(2);
        error(x, 0, 10, 0, 1, 1, 5, 1, 2, 0);
        for (int what : WILD) {
            Check.eq("error(0, " + what + ")", x.error(0, what), -1);
            Check.eq("error(" + what + ", 0)", x.error(what, 0), -1);
        }
        Check.eq("error(3, 0)", x.error(3, 0), -1);
    }

    private static void deeds() {
        SlipHeirs x = Check.of("step a;step b;step c;deed d c b a b c b a b c b a c;deed e b;");
        int[] due = {2, 1, 0, 1, 2, 1, 0, 1, 2, 1, 0, 2};
        Check.eq("deed(0, NONE)", x.deed(0, -1), 12);
        Check.eq("deed(1, NONE)", x.deed(1, -1), 1);
        for (int i = 0; i < 12; i++) {
            Check.eq("deed(0, " + i + ")", x.deed(0, i), due[i]);
        }
        Check.eq("deed(0, 12)", x.deed(0, 12), -1);
        Check.eq("deed(1, 0)", x.deed(1, 0), 1);
        Check.eq("deed(1, 1)", x.deed(1, 1), -1);
        Check.eq("deed(2, NONE)", x.deed(2, -1), -1);
        Check.eq("deed(2, 0)", x.deed(2, 0), -1);
        for (int i : WILD) {
            Check.eq("deed(" + i + ", 0)", x.deed(i, 0), -1);
            Check.eq("deed(1, " + i + ")", x.deed(1, i), i == -1 ? 1 : -1);
        }
    }

    private static void families() {
        SlipHeirs x = Check.of("person a 1;person b 2 of a;person c 3 of b;person d 4 of c;person e 2 of a;"
            + "person f 9 of e;person g 5;person h 10 of f;person i 6 of g;person j 5 of d;");
        int[] under = {0b1010111110, 0b1000001100, 0b1000001000, 0b1000000000, 0b10100000, 0b10000000, 0b100000000, 0, 0, 0};
        for (int p = 0; p < 10; p++) {
            Check.eq("under(" + p + ")", x.under(p), under[p]);
        }
        Check.eq("common(9, 7)", x.common(9, 7), 0);
        Check.eq("common(7, 9)", x.common(7, 9), 0);
        Check.eq("common(9, 2)", x.common(9, 2), 2);
        Check.eq("common(2, 9)", x.common(2, 9), 2);
        Check.eq("common(9, 9)", x.common(9, 9), 9);
        Check.eq("common(5, 7)", x.common(5, 7), 5);
        Check.eq("common(8, 0)", x.common(8, 0), -1);
        Check.eq("common(8, 6)", x.common(8, 6), 6);
        Check.eq("common(4, 1)", x.common(4, 1), 0);
        x.die(0);
        Check.eq("under a dead one", x.under(0), under[0]);
        Check.eq("common, a dead one", x.common(9, 7), 0);
    }

    private static void wrongOnes() {
        SlipHeirs x = Check.kin();
        for (int i : WILD) {
            Check.is("person(0, " + i + ") throws", Check.noPerson(x, 0, i));
            Check.is("person(" + i + ", 0) throws", Check.noPerson(x, i, 0));
            Check.eq("under(" + i + ")", x.under(i), -1);
            Check.eq("common(0, " + i + ")", x.common(0, i), -1);
            Check.eq("common(" + i + ", 0)", x.common(i, 0), -1);
        }
        Check.is("person(5, 0) throws", Check.noPerson(x, 5, 0));
        Check.isNot("person(4, 7) throws", Check.noPerson(x, 4, 7));
        Check.eq("under(5)", x.under(5), -1);
        Check.eq("common(5, 0)", x.common(5, 0), -1);
    }
}
