/** What stands behind '==== 2.' and '==== 3.', sentence by sentence: each bound, at it and one beyond it. */
public final class RuleBoundsTest {
    private static final String STEPS = "step a;step b;step c;";

    public static void main(String[] args) {
        theYearIs300AtFirst();
        doing();
        dying();
        giving();
        yearsGoTo999();
        asking();
        drawing();
        aNewFamily();
        aCallThatThrows();
        Check.close("RuleBoundsTest");
    }

    private static void doing() {
        theDeadDoNothing();
        errorsByNumbers();
        eachErrorOnceAStep();
        wearsByOne();
        wornOutAtOnce();
        theFortuneByHarmCareAndGood();
        theFortuneBelowZero();
    }

    private static void dying() {
        theDeadDieNoMore();
        theEldestLivingChild();
        ofLikeYearsTheFirst();
        thatOfTheEldestDeadChild();
        theGodchildIfItLives();
        errorsWithoutAnyHeir();
        theStateMakesNothing();
    }

    private static void giving() {
        oneWornOutOrOfTheState();
        twoDead();
        threeWearAboveThree();
        fourNotTheGodchild();
        theFirstReasonCounts();
    }

    private static void asking() {
        comesOutWithWear();
        rightIsJustAsTold();
        plansOf1To6Steps();
        wornBy20TimesAtMost();
        wornTheFewestTimesThenTheLeastLossThenTheFirst();
        giftsToEachGodchildOne();
        giftsThatMayBeGiven();
        giftsOfLikeHarm();
        togetherTillAllRest();
    }

    private static void drawing() {
        theSeedWraps();
        whoDiesDrawsNoMore();
        withoutDeeds();
    }

    private static SlipHeirs act(SlipHeirs x, int p, int d, int times) {
        for (int i = 0; i < times; i++) {
            Check.eq("act(" + p + ", " + d + ")", x.act(p, d), 0);
        }
        return x;
    }

    private static void came(SlipHeirs x, int... due) {
        Check.eq("came(NONE)", x.came(-1), due.length);
        for (int i = 0; i < due.length; i++) {
            Check.eq("came(" + i + ")", x.came(i), due[i]);
        }
    }

    /** A person p with errors and deeds; its care is 1. */
    private static SlipHeirs one(String more) {
        return Check.of(STEPS + "person p 1;" + more);
    }

    private static void theYearIs300AtFirst() {
        Check.eq("the YEAR of a new object", new SlipHeirs().now(0), 300);
        SlipHeirs x = Check.kin();
        Check.eq("the YEAR of a FAMILY", x.now(0), 300);
        x.years(99);
        Check.family(x, "person p 300;");
        Check.eq("the YEAR of another one", x.now(0), 300);
        Check.eq("who is born in it lives", x.person(0, 2), 1);
    }

    private static void theDeadDoNothing() {
        SlipHeirs x = one("error e p a b 5 5 0;deed d a;");
        Check.eq("alive", x.act(0, 0), 0);
        x.die(0);
        Check.eq("dead", x.act(0, 0), 1);
        Check.eq("DEEDS done", x.now(5), 1);
        Check.eq("made", x.person(0, 7), 1);
        Check.eq("fortune", x.now(1), 995);
    }

    private static void errorsByNumbers() {
        SlipHeirs x = one("error e p a b 5 0 0;error f p b c 5 0 0;deed d a;");
        x.act(0, 0);
        came(x, 2);
        Check.eq("both were made", x.person(0, 7), 2);
        SlipHeirs y = one("error f p b c 5 0 0;error e p a b 5 0 0;deed d a;");
        y.act(0, 0);
        came(y, 1);
        Check.eq("one was made", y.person(0, 7), 1);
    }

    private static void eachErrorOnceAStep() {
        SlipHeirs x = one("error e p a b 5 0 0;error f p b a 5 0 0;deed d a;");
        x.act(0, 0);
        came(x, 0);
        Check.eq("e was made once", x.error(0, 6), 1);
        Check.eq("f was made once", x.error(1, 6), 1);
        Check.eq("it came out RIGHT", x.now(6), 1);
    }

    private static void wearsByOne() {
        SlipHeirs x = act(one("error e p a b 20 0 0;deed d a;"), 0, 0, 19);
        Check.eq("WEAR left", x.error(0, 3), 1);
        Check.eq("who has it", x.error(0, 0), 0);
        Check.eq("none is worn out", x.now(7), -1);
        x.act(0, 0);
        Check.eq("no WEAR left", x.error(0, 3), 0);
        Check.eq("nobody has it", x.error(0, 0), -1);
        Check.eq("it is worn out", x.now(3), 1);
        Check.eq("the PERSON has none", x.person(0, 3), 0);
        x.act(0, 0);
        came(x, 0);
        Check.eq("made no more", x.error(0, 6), 20);
    }

    private static void wornOutAtOnce() {
        SlipHeirs x = one("error e p a b 1 0 0;deed d a a;");
        x.act(0, 0);
        came(x, 1, 0);
        SlipHeirs y = one("error e p a b 2 0 0;deed d a a;");
        y.act(0, 0);
        came(y, 1, 1);
        // Gone within a STEP, too: the next one by number makes what it makes.
        SlipHeirs z = one("error e p a b 1 0 0;error f p b c 1 0 0;deed d a b a;");
        z.act(0, 0);
        came(z, 2, 1, 0);
    }

    private static void theFortuneByHarmCareAndGood() {
        int[][] due = {{0, 0, 0, 1000}, {0, 20, 0, 1000}, {9, 20, 0, 820}, {9, 20, 20, 840}, {1, 0, 20, 1020}, {0, 20, 20, 1020}, {1, 20, 20, 1000}};
        for (int[] row : due) {
            SlipHeirs x = one("care p " + row[0] + ";error e p a b 1 " + row[1] + " " + row[2] + ";deed d a a;");
            Check.eq("loss", x.loss(0, 0), 1000 - row[3]);
            x.act(0, 0);
            Check.eq("fortune", x.now(1), row[3]);
        }
    }

    private static void theFortuneBelowZero() {
        SlipHeirs x = one("care p 9;error e p a b 20 20 0;deed d a;");
        act(x, 0, 0, 5);
        Check.eq("above 0", x.now(1), 100);
        x.act(0, 0);
        Check.eq("below 0", x.now(1), -80);
        act(x, 0, 0, 14);
        Check.eq("far below 0", x.now(1), -2600);
    }

    private static void theDeadDieNoMore() {
        SlipHeirs x = Check.kin();
        Check.eq("alive", x.die(3), 0);
        Check.eq("dead", x.die(3), 1);
        Check.eq("one death can be undone", x.undo(), 0);
        Check.eq("alive again", x.die(3), 0);
    }

    private static void theEldestLivingChild() {
        SlipHeirs x = Check.of("person p 1;person q 4 of p;person r 2 of p;person s 3 of p;");
        Check.eq("the eldest", x.heir(0), 2);
        x.die(2);
        Check.eq("the next one", x.heir(0), 3);
        x.die(3);
        Check.eq("the last one", x.heir(0), 1);
        x.die(1);
        Check.eq("none", x.heir(0), 10);
    }

    private static void ofLikeYearsTheFirst() {
        SlipHeirs x = Check.of("person p 1;person q 5 of p;person r 5 of p;person s 4 of p;person t 4 of p;");
        int[] due = {3, 4, 1, 2, 10};
        for (int heir : due) {
            Check.eq("heir", x.heir(0), heir);
            x.die(heir);
        }
        // Of like dead ones the first, too.
        SlipHeirs y = Check.of("person p 1;person q 5 of p;person r 5 of p;person s 9 of r;person t 9 of q;");
        y.die(1);
        y.die(2);
        Check.eq("that of the first", y.heir(0), 4);
        y.die(4);
        Check.eq("that of the second", y.heir(0), 3);
    }

    private static void thatOfTheEldestDeadChild() {
        SlipHeirs x = Check.of("person p 1;person q 2 of p;person r 3 of p;person s 4 of r;person t 5 of q;person u 6 of t;person v 0;god p v;");
        x.die(1);
        Check.eq("a living child is ahead of a dead one's", x.heir(0), 2);
        x.die(2);
        Check.eq("that of the eldest", x.heir(0), 4);
        x.die(4);
        Check.eq("further down", x.heir(0), 5);
        x.die(5);
        Check.eq("that of the next, for under the eldest none lives", x.heir(0), 3);
        x.die(3);
        Check.eq("none lives under it: the godchild", x.heir(0), 6);
    }

    private static void theGodchildIfItLives() {
        SlipHeirs x = Check.of(STEPS + "person p 1;person q 2;god p q;error e p a b 5 5 5;");
        Check.eq("it lives", x.heir(0), 1);
        x.die(1);
        Check.eq("it is dead", x.heir(0), 10);
        x.die(0);
        Check.eq("the STATE has it", x.error(0, 0), 10);
        SlipHeirs y = Check.of(STEPS + "person p 1;person q 2;god p q;error e p a b 5 5 5;");
        y.die(0);
        Check.eq("the godchild has it", y.error(0, 0), 1);
        Check.eq("who had it first", y.error(0, 7), 0);
    }

    private static void errorsWithoutAnyHeir() {
        SlipHeirs x = one("error e p a b 5 5 5;error f p a c 5 5 5;deed d b;");
        x.die(0);
        Check.eq("all are the STATE's", x.now(4), 3);
        Check.eq("none is worn out", x.now(3), 0);
        Check.eq("the dead one has none", x.person(0, 3), 0);
        SlipHeirs y = Check.kin();
        y.die(3);
        Check.eq("who has none leaves none", y.now(4), 0);
    }

    private static void theStateMakesNothing() {
        SlipHeirs x = Check.of(STEPS + "person p 1;person q 2;error e p a b 5 5 5;deed d a;");
        x.die(0);
        Check.eq("the STATE does nothing", x.act(10, 0), -1);
        Check.eq("the STATE does not die", x.die(10), -1);
        Check.eq("the STATE is given nothing", x.give(0, 10), -1);
        x.drawn(60, 1);
        Check.eq("no WEAR is gone", x.error(0, 3), 5);
        Check.eq("made", x.error(0, 6), 0);
        Check.eq("fortune", x.now(1), 1000);
    }

    private static void oneWornOutOrOfTheState() {
        SlipHeirs x = Check.of(STEPS + "person p 1;person q 2;god p q;error e p a b 1 0 0;deed d a;");
        x.image(0);
        Check.eq("neither", x.give(0, 1), 0);
        x.restore(0);
        x.act(0, 0);
        Check.eq("worn out", x.give(0, 1), 1);
        x.restore(0);
        x.die(1);
        x.die(0);
        Check.eq("the STATE has it", x.give(0, 1), 1);
    }

    private static void twoDead() {
        SlipHeirs x = Check.of(STEPS + "person p 1;person q 2;god p q;error e p a b 1 0 0;");
        x.die(1);
        Check.eq("who is to have it is dead", x.give(0, 1), 2);
        x.undo();
        Check.eq("alive", x.give(0, 1), 0);
    }

    private static void threeWearAboveThree() {
        for (int wear = 1; wear <= 5; wear++) {
            SlipHeirs x = Check.of(STEPS + "person p 1;person q 2;god p q;error e p a b " + wear + " 0 0;deed d a;");
            Check.eq("WEAR of " + wear, x.give(0, 1), wear > 3 ? 3 : 0);
        }
        SlipHeirs x = Check.of(STEPS + "person p 1;person q 2;god p q;error e p a b 4 0 0;deed d a;");
        x.act(0, 0);
        Check.eq("WEAR left counts", x.give(0, 1), 0);
    }

    private static void fourNotTheGodchild() {
        SlipHeirs x = Check.of(STEPS + "person p 1;person q 2;person r 3 of p;god p q;error e p a b 3 0 0;error f q a b 3 0 0;");
        Check.eq("the child is none", x.give(0, 2), 4);
        Check.eq("alike", x.give(0, 0), 4);
        Check.eq("back", x.give(1, 0), 4);
        Check.eq("without a godchild, alike", x.give(1, 1), 4);
        Check.eq("the godchild", x.give(0, 1), 0);
        Check.eq("its own godchild counts then", x.give(0, 0), 4);
    }

    private static void theFirstReasonCounts() {
        SlipHeirs x = Check.of(STEPS + "person p 1;person q 2;person r 3;god p q;error e p a b 1 0 0;error f p c a 4 0 0;error g r a b 4 0 0;deed d a;");
        x.act(0, 0);
        x.die(1);
        x.die(2);
        Check.eq("worn out, and dead", x.give(0, 1), 1);
        Check.eq("the STATE's, and dead, much WEAR", x.give(2, 1), 1);
        Check.eq("dead, and much WEAR", x.give(1, 1), 2);
        Check.eq("dead, much WEAR, no godchild", x.give(1, 2), 2);
        Check.eq("much WEAR, and alike", x.give(1, 0), 3);
        Check.eq("nothing was given", x.undo(), 2);
    }

    private static SlipHeirs at(int year) {
        SlipHeirs x = Check.kin();
        for (int left = year - 300; left > 0; left -= Math.min(left, 99)) {
            x.years(Math.min(left, 99));
        }
        Check.eq("the YEAR", x.now(0), year);
        return x;
    }

    private static void yearsGoTo999() {
        Check.eq("years(99) from 900", at(900).years(99), 999);
        Check.eq("years(99) from 901", at(901).years(99), -1);
        Check.eq("years(1) from 998", at(998).years(1), 999);
        Check.eq("years(1) from 999", at(999).years(1), -1);
        Check.eq("drawn(60) from 939", at(939).drawn(60, 5), 999);
        Check.eq("drawn(60) from 940", at(940).drawn(60, 5), -1);
        Check.eq("drawn(1) from 998", at(998).drawn(1, 5), 999);
        Check.eq("drawn(1) from 999", at(999).drawn(1, 5), -1);
        Check.is("odds from 969", at(969).odds(0, 1, 5) >= 0);
        Check.eq("odds from 970", at(970).odds(0, 1, 5), -1);
        SlipHeirs x = at(900);
        Check.eq("a CHRONICLE to 999", Check.chronicle(x, "year 99;", 0), -1);
        Check.eq("why", x.told(0), 0);
        Check.eq("the YEAR then", x.told(2), 999);
        Check.eq("a CHRONICLE to 1000", Check.chronicle(x, "year 98;year 2;", 0), 1);
        Check.eq("why", x.told(0), 31);
        Check.eq("the YEAR then", x.told(2), 998);
        SlipHeirs y = at(999);
        Check.eq("lived at 999", Check.chronicle(y, "old does walk;year 1;old dies;", 1), 1);
        Check.eq("the YEAR", y.now(0), 999);
        Check.eq("done", y.now(5), 1);
        Check.eq("not dead", y.now(2), 0);
    }

    private static void comesOutWithWear() {
        SlipHeirs x = one("error e p a b 2 0 0;deed d a a a;");
        int[] due = {1, 1, 0};
        for (int i = 0; i < 3; i++) {
            Check.eq("comes(0, 0, " + i + ")", x.comes(0, 0, i), due[i]);
        }
        Check.eq("others than told", x.comes(0, 0, -1), 2);
        Check.eq("no WEAR is gone", x.error(0, 3), 2);
        x.act(0, 0);
        Check.eq("others than told", x.comes(0, 0, -1), 0);
    }

    private static void rightIsJustAsTold() {
        SlipHeirs x = one("error e p a b 1 0 0;error f p b a 1 0 0;deed d a a a;deed g a b;");
        Check.eq("made wrong and right again", x.right(0), 1);
        Check.eq("one STEP is not as told", x.right(1), 1);
        SlipHeirs y = one("error e p a b 1 0 0;error f p b a 2 0 0;deed d a b;");
        Check.eq("the last STEP is another", y.right(0), 0);
        SlipHeirs z = Check.of(STEPS + "person p 1;person q 2;error e p a b 1 0 0;deed d a;");
        Check.eq("by q alone", z.right(0), 2);
        z.die(1);
        Check.eq("by nobody", z.right(0), 0);
    }

    private static int plan(SlipHeirs x, int p, int... steps) {
        Check.steps(x, steps);
        return x.plan(p);
    }

    private static void plansOf1To6Steps() {
        SlipHeirs x = one("error e p a b 3 0 0;");
        Check.eq("no STEP", plan(x, 0), -1);
        Check.eq("one STEP", plan(x, 0, 1), 2);
        Check.eq("six STEPS, e wears out", plan(x, 0, 1, 1, 1, 1, 1, 1), 42);
        Check.eq("seven STEPS", plan(x, 0, 1, 1, 1, 1, 1, 1, 1), -1);
        int[] due = {0, 0, 0, 1, 1, 1};
        for (int i = 0; i < 6; i++) {
            Check.eq("planned(" + i + ")", x.planned(i), due[i]);
        }
        Check.eq("planned(6)", x.planned(6), -1);
        Check.eq("the last STEP there is", plan(x, 0, 2), 1);
        Check.eq("one beyond", plan(x, 0, 3), -1);
        Check.eq("no way while e is there", plan(x, 0, 0), 0);
        Check.eq("a way when it is worn out", plan(x, 0, 1, 1, 1, 0), 1);
    }

    private static void worn(SlipHeirs x, int e, int times, int by, int loss) {
        Check.eq("worn(" + e + ")", x.worn(e), times);
        Check.eq("wornBy()", x.wornBy(), by);
        Check.eq("wornLoss()", x.wornLoss(), loss);
    }

    private static void wornBy20TimesAtMost() {
        worn(one("error e p a b 20 1 0;deed d a;"), 0, 20, 0, 20);
        // f is made of the first a of all, so that e is made once less.
        String behind = "error f p a c 1 0 0;error e p a b ";
        worn(one(behind + "19 1 0;deed d a;"), 1, 20, 0, 19);
        worn(one(behind + "20 1 0;deed d a;"), 1, -1, -1, -100001);
        worn(one("error e p a b 1 1 0;deed d b;"), 0, -1, -1, -100001);
        worn(one("error e p a b 1 1 0;"), 0, -1, -1, -100001);
        worn(one("error e p a b 12 1 0;deed d" + Check.repeat(" a", 12) + ";"), 0, 1, 0, 12);
        worn(one("error e p a b 13 1 0;deed d" + Check.repeat(" a", 12) + ";"), 0, 2, 0, 13);
    }

    private static void wornTheFewestTimesThenTheLeastLossThenTheFirst() {
        String kin = "error e p a b 2 1 0;error f p c b 9 5 0;error g p c a 20 0 0;";
        worn(one(kin + "deed d a;deed h a a c;"), 0, 1, 1, 7);
        worn(one(kin + "deed d a a c;deed h a a;"), 0, 1, 1, 2);
        worn(one(kin + "deed d a a c;deed h c a a;deed i a a b;deed j b a a;"), 0, 1, 2, 2);
        // A loss below 0 is the least of all.
        worn(one("error e p a b 2 1 0;error f p c b 9 0 5;deed d a a;deed h a a c c;"), 0, 1, 1, -8);
    }

    private static void gifts(SlipHeirs x, int least, int... due) {
        Check.eq("gifts()", x.gifts(), least);
        for (int e = 0; e < due.length; e++) {
            Check.eq("gift(" + e + ")", x.gift(e), due[e]);
        }
    }

    private static void giftsToEachGodchildOne() {
        String kin = STEPS + "person p 1;person q 2;person r 3;god p q;god r q;care p 9;care r 9;care q 0;";
        gifts(Check.of(kin + "error e p a b 3 5 0;"), 0, 1);
        gifts(Check.of(kin + "error e p a b 3 5 0;error f p a b 3 6 0;"), 45, 0, 1);
        gifts(Check.of(kin + "error e p a b 3 5 0;error f r a b 3 6 0;"), 45, 0, 1);
        gifts(Check.of(kin + "error e p a b 3 5 0;error f q a b 3 6 0;"), 0, 1, 1);
        // Two godchildren may have one each.
        gifts(Check.of(STEPS + "person p 1;person q 2;god p q;god q p;care p 0;care q 2;error e p a b 3 5 0;error f q a b 3 6 0;"), 0, 0, 0);
        gifts(Check.of(STEPS + "person p 1;person q 2;god p q;god q p;care p 2;care q 1;error e p a b 3 5 0;error f q a b 3 6 0;"), 11, 1, 1);
    }

    private static void giftsThatMayBeGiven() {
        String kin = STEPS + "person p 1;person q 2;god p q;care p 9;error e p a b ";
        gifts(Check.of(kin + "3 5 0;"), 5, 1);
        SlipHeirs x = Check.of(kin + "4 5 0;deed d a;");
        gifts(x, 45, 0);
        x.act(0, 0);
        gifts(x, 5, 1);
        x.die(1);
        gifts(x, 45, 0);
        x.die(0);
        gifts(x, 0, -1);
        SlipHeirs y = Check.of(kin + "1 5 0;deed d a;");
        y.act(0, 0);
        gifts(y, 0, -1);
        gifts(new SlipHeirs(), 0, -1);
    }

    private static void giftsOfLikeHarm() {
        String like = STEPS + "person p 1;person q 2;god p q;error e p a b 3 5 0;error f p a b 3 5 0;";
        gifts(Check.of(like), 10, 0, 0);
        gifts(Check.of(like + "care p 2;"), 15, 0, 1);
        gifts(Check.of(like + "care p 0;"), 0, 0, 0);
    }

    private static void togetherTillAllRest() {
        SlipHeirs x = Check.of("step a;step b;step c;step d;step e;step f;person p 1;"
            + "error g p b a 1 0 0;error h p c b 1 0 0;error i p d c 1 0 0;error j p e d 1 0 0;error k p f e 1 0 0;error l p a f 1 0 0;");
        Check.eq("no ERRORS", x.rests(0), 0);
        Check.eq("one", x.rests(1), 1);
        Check.eq("two behind one another", x.rests(3), 2);
        Check.eq("five, the most", x.rests(31), 5);
        Check.eq("all but a go round", x.rests(63), 1);
        Check.eq("a becomes", x.together(63, 0), 5);
        Check.eq("b becomes", x.together(63, 1), 5);
        Check.eq("f becomes", x.together(63, 5), 4);
        SlipHeirs y = one("error e p a b 1 0 0;error f p b a 1 0 0;");
        Check.eq("b comes to a, and a to a", y.rests(3), 1);
        SlipHeirs z = one("error e p c a 1 0 0;error f p b c 1 0 0;error g p a b 1 0 0;");
        Check.eq("b and c go round", z.rests(7), 1);
    }

    /** The draws as the document tells them, in wider numbers that are cut to an int. */
    private static int next(int x) {
        return (int) ((long) x * 1103515245L + 12345L);
    }

    private static int draw(int x, int n) {
        return (int) ((x & 0xffffffffL) / 256 % n);
    }

    private static void theSeedWraps() {
        int[] seeds = {0, 1, -1, 2, Integer.MAX_VALUE, Integer.MIN_VALUE, Integer.MAX_VALUE - 1, Integer.MIN_VALUE + 1, 1 << 30, -12345};
        for (int seed : seeds) {
            SlipHeirs x = Check.of("step a;person p 1;deed d a;deed e a a;deed f a a a;");
            int at = seed;
            int done = 0;
            boolean lives = true;
            for (int i = 0; i < 60 && lives; i++) {
                at = next(at);
                if (draw(at, 6) == 0) {
                    at = next(at);
                    done = done * 3 + draw(at, 3) + 1;
                }
                at = next(at);
                lives = draw(at, 40) != 0;
            }
            int got = 0;
            SlipHeirs[] ends = new SlipHeirs[61];
            for (int n = 1; n <= 60; n++) {
                ends[n] = Check.of("step a;person p 1;deed d a;deed e a a;deed f a a a;");
                ends[n].drawn(n, seed);
                int before = n == 1 ? 0 : ends[n - 1].now(5);
                got = ends[n].now(5) > before ? got * 3 + ends[n].came(-1) : got;
            }
            x.drawn(60, seed);
            Check.eq("what is done by " + seed, got, done);
            Check.eq("alive by " + seed, x.person(0, 2), lives ? 1 : 0);
        }
        oddsOfSeedsThatWrap();
    }

    private static void oddsOfSeedsThatWrap() {
        int due = 0;
        for (int i = 0; i < 10; i++) {
            SlipHeirs y = Check.kin();
            y.drawn(30, Integer.MAX_VALUE - 4 + i);
            due += y.error(1, 0) == -1 ? 1 : 0;
        }
        Check.eq("odds over the greatest seed", Check.kin().odds(1, 10, Integer.MAX_VALUE - 4), due);
    }

    private static void whoDiesDrawsNoMore() {
        for (int seed = 0; seed < 60; seed++) {
            SlipHeirs x = Check.of("person p 1;person q 2;person r 3;");
            int at = seed;
            int dead = 0;
            for (int year = 0; year < 40; year++) {
                for (int p = 0; p < 3; p++) {
                    if ((dead >> p & 1) == 0) {
                        at = next(next(at));
                        dead |= draw(at, 40) == 0 ? 1 << p : 0;
                    }
                }
            }
            x.drawn(40, seed);
            Check.eq("dead by " + seed, x.now(2), dead);
        }
    }

    /** Nobody lives, or there is nothing to do: the years go by all the same. */
    private static void withoutDeeds() {
        SlipHeirs x = new SlipHeirs();
        Check.eq("of nobody", x.drawn(60, 9), 360);
        SlipHeirs y = Check.of("person p 1;");
        y.die(0);
        Check.eq("of the dead", y.drawn(60, 9), 360);
        SlipHeirs z = Check.of("person p 1;");
        Check.eq("of no DEEDS", z.drawn(60, 9), 360);
        Check.eq("nothing is done", z.now(5), 0);
    }

    private static void aNewFamily() {
        SlipHeirs x = Check.kin();
        x.act(0, 1);
        x.act(2, 0);
        x.die(0);
        x.years(9);
        Check.eq("one came out RIGHT", x.now(6), 1);
        Check.sentence(x, "alive");
        Check.put(x, Check.KIN);
        Check.eq("the same FAMILY again", x.family(), 18);
        int[] due = {300, 1000, 0, 0, 0, 0, 0, -1};
        for (int what = 0; what < 8; what++) {
            Check.eq("now(" + what + ")", x.now(what), due[what]);
        }
        Check.eq("no SENTENCE", x.said(-1), -1);
        Check.eq("no DEED came", x.came(-1), -1);
        Check.eq("nothing to undo", x.undo(), -1);
        Check.eq("WEAR", x.error(0, 3), 3);
        Check.eq("made", x.error(0, 6) + x.person(0, 7), 0);
        Check.eq("an empty one", x.family(), 0);
        Check.eq("has nobody", x.count(0) + x.count(1) + x.count(2) + x.count(3), 0);
    }

    private static void aCallThatThrows() {
        SlipHeirs x = Check.kin();
        x.act(0, 1);
        x.feed(1, 2, 3, 4, 5);
        Check.is("person throws", Check.noPerson(x, 5, 0));
        Check.is("loss throws", Check.noLoss(x, 0, 3));
        Check.eq("the tape stays", x.count(4), 20);
        Check.eq("the fortune stays", x.now(1), 984);
        Check.eq("what came stays", x.came(-1), 2);
        Check.eq("no FAULT", x.fault(), 0);
        Check.eq("the deed can be undone", x.undo(), 0);
    }
}
