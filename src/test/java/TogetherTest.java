/** Promises 29 to 31: together, rests, cancel. */
public final class TogetherTest {
    private static final int[] WILD = {-1, -2, 64, 1 << 30, Integer.MIN_VALUE, Integer.MAX_VALUE};

    public static void main(String[] args) {
        together();
        rests();
        cancel();
        neverWorn();
        Check.close("TogetherTest");
    }

    private static void together() {
        SlipHeirs x = Check.kin();
        int[][] due = {{0, 1, 2}, {1, 1, 2}, {0, 2, 2}, {2, 2, 2}, {0, 1, 0}, {1, 1, 0}, {0, 0, 0}, {0, 0, 0}};
        for (int set = 0; set < 8; set++) {
            for (int s = 0; s < 3; s++) {
                Check.eq("together(" + set + ", " + s + ")", x.together(set, s), due[set][s]);
            }
            Check.eq("together(" + set + ", 3)", x.together(set, 3), -1);
            Check.eq("together(" + set + ", -1)", x.together(set, -1), -1);
        }
        Check.eq("together(8, 0)", x.together(8, 0), -1);
        for (int i : WILD) {
            Check.eq("together(" + i + ", 0)", x.together(i, 0), -1);
            Check.eq("together(0, " + i + ")", x.together(0, i), -1);
            Check.eq("rests(" + i + ")", x.rests(i), -1);
        }
    }

    private static void rests() {
        SlipHeirs x = Check.kin();
        int[] due = {0, 1, 1, 1, 1, 2, 1, 1};
        for (int set = 0; set < 8; set++) {
            Check.eq("rests(" + set + ")", x.rests(set), due[set]);
        }
        Check.eq("rests(8)", x.rests(8), -1);
        // b, c, d go round; a comes to b after one time, e after two, f after three.
        SlipHeirs y = Check.of("step a;step b;step c;step d;step e;step f;person p 1;"
            + "error g p d a 1 0 0;error h p c d 1 0 0;error i p b c 1 0 0;error j p a b 1 0 0;error k p e a 1 0 0;error l p f e 1 0 0;");
        Check.eq("round, and one that comes to it", y.rests(0b001111), 1);
        Check.eq("none", y.rests(0), 0);
        Check.eq("the longest", y.rests(0b111111), 3);
        SlipHeirs z = Check.of("step a;step b;step c;step d;step e;step f;person p 1;"
            + "error g p f e 1 0 0;error h p e d 1 0 0;error i p d c 1 0 0;error j p c b 1 0 0;error k p b a 1 0 0;");
        Check.eq("by numbers, all at once", z.rests(0b11111), 1);
        SlipHeirs w = Check.of("step a;step b;step c;step d;step e;step f;person p 1;"
            + "error g p b a 1 0 0;error h p c b 1 0 0;error i p d c 1 0 0;error j p e d 1 0 0;error k p f e 1 0 0;");
        Check.eq("five times", w.rests(0b11111), 5);
        Check.eq("four times", w.rests(0b01111), 4);
        Check.eq("two rows", w.rests(0b11011), 2);
        Check.eq("of no errors", new SlipHeirs().rests(0), 0);
    }

    private static void cancel(SlipHeirs x, int d, int... due) {
        Check.eq("cancel(" + d + ", NONE)", x.cancel(d, -1), due.length);
        for (int k = 0; k < due.length; k++) {
            Check.eq("cancel(" + d + ", " + k + ")", x.cancel(d, k), due[k]);
        }
        Check.eq("cancel(" + d + ", " + due.length + ")", x.cancel(d, due.length), -1);
        Check.eq("cancel(" + d + ", -2)", x.cancel(d, -2), -1);
        Check.eq("cancel(" + d + ", MAX)", x.cancel(d, Integer.MAX_VALUE), -1);
        Check.eq("cancel(" + d + ", MIN)", x.cancel(d, Integer.MIN_VALUE), -1);
    }

    private static void cancel() {
        SlipHeirs x = Check.of("step a;step b;step c;person p 1;person q 2;"
            + "error e p a b 1 0 0;error f q b a 1 0 0;error g p b a 1 0 0;error h q a b 1 0 0;error i q c b 1 0 0;error j p b c 1 0 0;"
            + "deed k a;deed l a b;deed m b;deed n c c a;");
        cancel(x, 0, 1, 2);
        cancel(x, 1);
        cancel(x, 2, 13, 23);
        cancel(x, 3, 1, 2, 45);
        Check.eq("cancel(4, NONE)", x.cancel(4, -1), -1);
        Check.eq("cancel(-1, NONE)", x.cancel(-1, -1), -1);
        Check.eq("cancel(4, 0)", x.cancel(4, 0), -1);
        for (int i : WILD) {
            Check.eq("cancel(" + i + ", 0)", x.cancel(i, 0), -1);
        }
    }

    private static void neverWorn() {
        SlipHeirs x = Check.of("step a;step b;person p 1;error e p a b 1 0 0;error f p b a 1 0 0;deed d a a a;");
        cancel(x, 0, 1);
        x.act(0, 0);
        Check.eq("both are worn out", x.now(3), 3);
        cancel(x, 0, 1);
        Check.eq("as if one had them", x.together(1, 0), 1);
        Check.eq("as if one had them", x.rests(1), 1);
        Check.eq("both", x.together(3, 0), 0);
        Check.eq("both", x.rests(3), 1);
    }
}
