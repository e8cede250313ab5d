/** Promises 21 to 28: plan, planned, who, worn, wornBy, wornLoss, gifts, gift. */
public final class PlansTest {
    private static final int[] WILD = {-1, -2, 6, 10, 31, 32, Integer.MIN_VALUE, Integer.MAX_VALUE};

    public static void main(String[] args) {
        plans();
        wrongPlans();
        manyWays();
        who();
        worn();
        wornOnes();
        wornBehindAnother();
        gifts();
        giftsStay();
        giftsOfLikeHarm();
        giftsThatMayNotBe();
        Check.close("PlansTest");
    }

    private static int plan(SlipHeirs x, int p, int... steps) {
        Check.steps(x, steps);
        int ways = x.plan(p);
        Check.eq("the tape is empty", x.count(4), 0);
        return ways;
    }

    private static int who(SlipHeirs x, int d, int... steps) {
        Check.steps(x, steps);
        int bits = x.who(d);
        Check.eq("the tape is empty", x.count(4), 0);
        return bits;
    }

    private static void planned(SlipHeirs x, int... due) {
        for (int i = 0; i < due.length; i++) {
            Check.eq("planned(" + i + ")", x.planned(i), due[i]);
        }
        Check.eq("planned(" + due.length + ")", x.planned(due.length), -1);
        Check.eq("planned(NONE)", x.planned(-1), -1);
    }

    private static void plans() {
        SlipHeirs x = Check.kin();
        Check.eq("ahead of any", x.planned(0), -1);
        Check.eq("no way", plan(x, 0, 1), 0);
        Check.eq("ahead of any that has a way", x.planned(0), -1);
        Check.eq("left by old", plan(x, 0, 2), 3);
        planned(x, 0);
        Check.eq("left by bob", plan(x, 2, 2), 1);
        planned(x, 2);
        Check.eq("three by old", plan(x, 0, 2, 2, 2), 19);
        planned(x, 0, 0, 2);
        Check.eq("up by ann", plan(x, 1, 0), 2);
        planned(x, 0);
        Check.eq("left by ann", plan(x, 1, 2), 0);
        planned(x, 0);
        Check.eq("worn as it goes on", plan(x, 0, 2, 2, 1, 1, 0), 4);
        planned(x, 0, 0, 0, 1, 0);
        Check.eq("nothing was done", x.now(5), 0);
        Check.eq("nothing wears", x.error(1, 3), 2);
        x.act(0, 1);
        Check.eq("down by old then", plan(x, 0, 1, 0), 1);
        planned(x, 0, 0);
        Check.family(x, "step a;");
        planned(x, 0, 0);
    }

    private static void wrongPlans() {
        SlipHeirs x = Check.kin();
        Check.eq("no bytes", plan(x, 0), -1);
        Check.eq("seven bytes", plan(x, 0, 2, 2, 2, 2, 2, 2, 2), -1);
        Check.eq("six bytes", plan(x, 4, 2, 2, 2, 2, 2, 0), 1);
        Check.eq("no step", plan(x, 0, 3), -1);
        Check.eq("no step", plan(x, 0, 2, 255), -1);
        Check.eq("no step", plan(x, 0, 128), -1);
        Check.eq("no such one", plan(x, 5, 2), -1);
        for (int i : WILD) {
            Check.eq("no such one " + i, plan(x, i, 2), -1);
            Check.eq("planned " + i, x.planned(i), -1);
        }
        planned(x, 2, 2, 2, 2, 2, 0);
        x.die(0);
        Check.eq("dead", plan(x, 0, 2), -1);
        x.feed(0, 0, 0, 0, 0);
        Check.eq("twenty bytes", x.plan(1), -1);
        Check.eq("are gone", x.count(4), 0);
    }

    private static void manyWays() {
        SlipHeirs x = Check.of("step a;step b;step c;step d;step e;step f;person p 1;error g p a b 20 1 1;error h p b c 20 1 1;"
            + "error i p c d 20 1 1;error j p d e 20 1 1;error k p e f 20 1 1;");
        Check.eq("all ways", plan(x, 0, 5, 5, 5, 5, 5, 5), 46656);
        planned(x, 0, 0, 0, 0, 0, 0);
        Check.eq("no way", plan(x, 0, 5, 5, 5, 5, 5, 0), 0);
        planned(x, 0, 0, 0, 0, 0, 0);
    }

    private static void who() {
        SlipHeirs x = Check.kin();
        Check.eq("left left", who(x, 0, 2, 2), 1);
        Check.eq("up left", who(x, 0, 0, 2), 28);
        Check.eq("up up", who(x, 0, 0, 0), 2);
        Check.eq("nobody", who(x, 0, 1, 1), 0);
        Check.eq("rest", who(x, 2, 2), 29);
        Check.eq("too few", who(x, 0, 0), -1);
        Check.eq("too many", who(x, 0, 0, 2, 0), -1);
        Check.eq("none", who(x, 0), -1);
        for (int byteOfNone : new int[] {3, 4, 10, 127, 128, 254, 255}) {
            Check.eq("no STEP behind", who(x, 0, 0, byteOfNone), -1);
            Check.eq("no STEP ahead", who(x, 0, byteOfNone, 2), -1);
            Check.eq("no STEP alone", who(x, 2, byteOfNone), -1);
        }
        Check.eq("no such deed", who(x, 3, 0), -1);
        for (int i : WILD) {
            Check.eq("no such deed " + i, who(x, i, 0, 2), -1);
        }
        x.die(3);
        Check.eq("of the living", who(x, 0, 0, 2), 20);
        x.act(0, 1);
        Check.eq("worn by now", who(x, 1, 1, 0), 1);
    }

    private static void worn(SlipHeirs x, int e, int times, int by, int loss) {
        Check.eq("worn(" + e + ")", x.worn(e), times);
        Check.eq("wornBy()", x.wornBy(), by);
        Check.eq("wornLoss()", x.wornLoss(), loss);
    }

    private static void worn() {
        SlipHeirs x = Check.kin();
        Check.eq("ahead of any", x.wornBy(), -1);
        Check.eq("ahead of any", x.wornLoss(), -100001);
        Check.eq("no such one", x.worn(3), -1);
        Check.eq("still ahead of any", x.wornLoss(), -100001);
        worn(x, 0, 2, 1, 20);
        worn(x, 1, 1, 1, 16);
        worn(x, 2, 20, 0, 0);
        for (int i : WILD) {
            worn(x, i, -1, 0, 0);
        }
        Check.eq("nothing was done", x.now(5), 0);
        x.act(0, 1);
        worn(x, 0, 1, 0, 4);
        worn(x, 1, 0, -1, 0);
        x.die(0);
        worn(x, 0, 1, 0, 4);
        x.die(2);
        worn(x, 0, -1, 0, 4);
    }

    private static void wornOnes() {
        // f is worn out by all of these once; the least loss is by h and k, of which h is the first.
        SlipHeirs x = Check.of("step a;step b;step c;person p 1;care p 3;error e p a b 9 2 0;error f p c a 2 1 0;error g p b a 20 0 5;"
            + "error l p c b 20 1 0;deed d c c a;deed h c b c;deed k b c c;deed m c;");
        worn(x, 1, 1, 1, 1 * 3 * 2 - 5);
        worn(x, 0, 9, 0, 9 * 6 + 2 * 3 - 9 * 5 + 16 * 3);
    }

    /** As long as f is not worn out, e is not made. */
    private static void wornBehindAnother() {
        String kin = "step a;step b;step c;person p 1;error f p a c 1 0 0;error e p a b ";
        worn(Check.of(kin + "19 1 0;deed d a;"), 1, 20, 0, 19);
        worn(Check.of(kin + "20 1 0;deed d a;"), 1, -1, -1, -100001);
        worn(Check.of(kin + "20 1 0;deed d a;deed g a a;"), 1, 11, 1, 20);
        worn(Check.of(kin + "20 1 0;"), 1, -1, -1, -100001);
    }

    private static void gifts(SlipHeirs x, int least, int... due) {
        Check.eq("gifts()", x.gifts(), least);
        for (int e = 0; e < due.length; e++) {
            Check.eq("gift(" + e + ")", x.gift(e), due[e]);
        }
    }

    private static void gifts() {
        SlipHeirs x = Check.kin();
        for (int e = -1; e < 7; e++) {
            Check.eq("gift ahead of any", x.gift(e), -1);
        }
        gifts(x, 6, 4, 0, 1, -1, -1, -1, -1);
        Check.eq("nothing was given", x.error(0, 0), 0);
        for (int i : WILD) {
            Check.eq("gift(" + i + ")", x.gift(i), -1);
        }
        x.act(0, 1);
        Check.eq("as told by the latest", x.gift(1), 0);
        gifts(x, 2, 4, -1, 1, -1);
        x.die(4);
        gifts(x, 7, 0, -1, 1, -1);
        x.die(0);
        x.die(2);
        gifts(x, 2, -1, -1, 1, -1);
    }

    private static void told(String when, SlipHeirs x, int... due) {
        for (int e = 0; e < due.length; e++) {
            Check.eq("gift(" + e + ") " + when, x.gift(e), due[e]);
        }
    }

    /** What the latest gifts() told is taken back by nothing but another gifts(). */
    private static void giftsStay() {
        SlipHeirs x = Check.kin();
        x.image(0);
        x.gifts();
        x.family();
        told("behind an empty FAMILY", x, 4, 0, 1, -1, -1, -1, -1);
        Check.eq("gifts() of no ERRORS", x.gifts(), 0);
        told("by that one", x, -1, -1, -1, -1, -1, -1, -1);
        Check.family(x, "step a;step b;person p 5;person q 6;error e q a b 1 7 0;");
        told("still by that one", x, -1, -1, -1, -1, -1, -1, -1);
        x.gifts();
        told("of one ERROR", x, 1, -1, -1, -1, -1, -1, -1);
        x.restore(0);
        told("behind a restored FAMILY of three", x, 1, -1, -1, -1, -1, -1, -1);
        x.gifts();
        told("of three again", x, 4, 0, 1, -1, -1, -1, -1);
        Check.family(x, "step a;step b;person p 5;error e p a a 1 7 0;");
        told("behind a FAULT", x, 4, 0, 1, -1, -1, -1, -1);
        Check.family(x, "step a;step b;person p 5;error e p a b 1 7 0;");
        x.act(0, 0);
        x.die(0);
        told("behind a FAMILY of one", x, 4, 0, 1, -1, -1, -1, -1);
    }

    private static void giftsOfLikeHarm() {
        // Both can go to r and are alike: that the second one goes comes first, for the first one stays itself.
        SlipHeirs x = Check.of("step a;step b;person p 1;person q 2;person r 3;god p r;god q r;care r 0;"
            + "error e p a b 3 5 0;error f q a b 3 5 0;error g p a b 3 5 0;");
        gifts(x, 10, 0, 1, 2);
        // Nothing is gained by a gift: all stay.
        SlipHeirs y = Check.of("step a;step b;person p 1;person q 2;god p q;error e p a b 3 5 0;error f p a b 3 0 0;");
        gifts(y, 5, 0, 0);
        // One may give to a godchild whose own error goes on.
        SlipHeirs z = Check.of("step a;step b;person p 1;person q 2;person r 3;god p q;god q r;care p 9;care q 5;"
            + "error e p a b 3 5 0;error f q a b 3 7 0;error g p a b 3 6 0;");
        gifts(z, 45 + 7 + 30, 0, 2, 1);
    }

    private static void giftsThatMayNotBe() {
        SlipHeirs x = Check.of("step a;step b;person p 1;person q 2;god p q;care p 9;error e p a b 4 5 0;deed d a;");
        gifts(x, 45, 0);
        x.act(0, 0);
        gifts(x, 5, 1);
        x.die(1);
        gifts(x, 45, 0);
        gifts(new SlipHeirs(), 0, -1, -1);
    }
}
