/** Promises 9 to 15: now, act, die, give, years, undo, came. */
public final class ActsTest {
    private static final int[] WILD = {-1, -2, 10, 31, 32, Integer.MIN_VALUE, Integer.MAX_VALUE};

    public static void main(String[] args) {
        acting();
        wornWithinADeed();
        goodAndCare();
        dying();
        giving();
        years();
        cameOut();
        undoing();
        undoingAll();
        Check.close("ActsTest");
    }

    private static void now(SlipHeirs x, String when, int... due) {
        for (int what = 0; what < due.length; what++) {
            Check.eq("now(" + what + ") " + when, x.now(what), due[what]);
        }
    }

    private static void came(SlipHeirs x, String when, int... due) {
        Check.eq("came(NONE) " + when, x.came(-1), due.length);
        for (int i = 0; i < due.length; i++) {
            Check.eq("came(" + i + ") " + when, x.came(i), due[i]);
        }
        Check.eq("came past it " + when, x.came(due.length), -1);
    }

    private static void acting() {
        SlipHeirs x = Check.kin();
        now(x, "at first", 300, 1000, 0, 0, 0, 0, 0, -1);
        Check.eq("act(2, 0)", x.act(2, 0), 0);
        now(x, "behind a right deed", 300, 1000, 0, 0, 0, 1, 1, -1);
        Check.eq("years(7)", x.years(7), 307);
        Check.eq("act(0, 1)", x.act(0, 1), 0);
        now(x, "behind a wrong deed", 307, 984, 0, 2, 0, 2, 1, 307);
        x.years(3);
        Check.eq("act(0, 1)", x.act(0, 1), 0);
        now(x, "worn out again", 310, 980, 0, 3, 0, 3, 1, 307);
        Check.eq("act(0, 1)", x.act(0, 1), 0);
        now(x, "nothing is left", 310, 980, 0, 3, 0, 4, 2, 307);
        x.die(0);
        Check.eq("act of a dead one", x.act(0, 0), 1);
        now(x, "nothing done", 310, 980, 1, 3, 0, 4, 2, 307);
        Check.eq("act(0, 3)", x.act(0, 3), -1);
        Check.eq("act(5, 0)", x.act(5, 0), -1);
        for (int i : WILD) {
            Check.eq("act(" + i + ", 0)", x.act(i, 0), -1);
            Check.eq("act(1, " + i + ")", x.act(1, i), -1);
            Check.eq("now(" + i + ")", x.now(i), -1);
        }
        Check.eq("now(8)", x.now(8), -1);
    }

    private static void wornWithinADeed() {
        SlipHeirs x = Check.of("step a;step b;step c;person p 1;error e p a b 2 3 0;error f p b c 1 0 1;error g p a c 9 1 0;"
            + "deed d a a a b a;");
        // Step by step: a is b by e, c by f (f is gone); a is b by e (e is gone); a is c by g; b; a is c by g.
        Check.eq("act", x.act(0, 0), 0);
        came(x, "worn within", 2, 1, 2, 1, 2);
        Check.eq("e", x.error(0, 0), -1);
        Check.eq("f", x.error(1, 0), -1);
        Check.eq("g wears", x.error(2, 3), 7);
        Check.eq("g was made", x.error(2, 6), 2);
        Check.eq("fortune", x.now(1), 1000 - 3 - 3 + 1 - 1 - 1);
        Check.eq("made by", x.person(0, 7), 5);
        Check.eq("errors", x.person(0, 3), 4);
        Check.eq("right", x.now(6), 0);
    }

    private static void goodAndCare() {
        SlipHeirs x = Check.of("step a;step b;person p 1;person q 2;care p 0;care q 9;error e p a b 20 20 20;error f q a b 20 20 0;"
            + "deed d a a a a a a a a a a a a;");
        x.act(0, 0);
        Check.eq("all good", x.now(1), 1240);
        x.act(1, 0);
        Check.eq("all harm", x.now(1), 1240 - 12 * 180);
        Check.eq("below 0", x.now(1), -920);
    }

    private static void dying() {
        SlipHeirs x = Check.kin();
        Check.eq("die(0)", x.die(0), 0);
        Check.eq("slip goes to the eldest", x.error(0, 0), 2);
        Check.eq("turn goes to the eldest", x.error(1, 0), 2);
        Check.eq("dead", x.now(2), 1);
        Check.eq("die(0) again", x.die(0), 1);
        Check.eq("die(2)", x.die(2), 0);
        Check.eq("the state's", x.now(4), 3);
        Check.eq("worn out", x.now(3), 0);
        Check.eq("die(1)", x.die(1), 0);
        Check.eq("back goes to the child", x.error(2, 0), 3);
        Check.eq("die(3)", x.die(3), 0);
        Check.eq("back goes to the state", x.error(2, 0), 10);
        Check.eq("die(4)", x.die(4), 0);
        Check.eq("all are dead", x.now(2), 31);
        Check.eq("all are the state's", x.now(4), 7);
        Check.eq("die(5)", x.die(5), -1);
        for (int i : WILD) {
            Check.eq("die(" + i + ")", x.die(i), -1);
        }
        SlipHeirs y = Check.kin();
        y.die(3);
        y.die(1);
        Check.eq("back goes to the godchild", y.error(2, 0), 4);
    }

    private static void giving() {
        SlipHeirs x = Check.kin();
        Check.eq("too much wear", x.give(2, 4), 3);
        Check.eq("too much wear, no godchild", x.give(2, 3), 3);
        Check.eq("not the godchild", x.give(0, 1), 4);
        Check.eq("to oneself", x.give(0, 0), 4);
        Check.eq("nothing was done", x.undo(), -1);
        Check.eq("given", x.give(0, 4), 0);
        Check.eq("the godchild has it", x.error(0, 0), 4);
        Check.eq("who had it first", x.error(0, 7), 0);
        Check.eq("the godchild has none", x.give(0, 0), 4);
        x.die(4);
        Check.eq("the state has it", x.give(0, 0), 1);
        Check.eq("the godchild is dead", x.give(1, 4), 2);
        Check.eq("dead is told ahead of wear", x.give(2, 4), 2);
        x.act(0, 1);
        Check.eq("turn is there", x.give(1, 0), 4);
        SlipHeirs y = Check.kin();
        y.act(0, 1);
        Check.eq("worn out", y.give(1, 4), 1);
        y.die(4);
        Check.eq("worn out is told ahead of dead", y.give(1, 4), 1);
        SlipHeirs z = Check.of("step a;step b;person p 1;person q 2;god p q;error e p a b 4 1 1;deed d a;");
        Check.eq("wear of 4", z.give(0, 1), 3);
        z.act(0, 0);
        Check.eq("wear of 3", z.give(0, 1), 0);
        for (int i : WILD) {
            Check.eq("give(" + i + ", 0)", z.give(i, 0), -1);
            Check.eq("give(0, " + i + ")", z.give(0, i), -1);
        }
        Check.eq("give(1, 0)", z.give(1, 0), -1);
        Check.eq("give(0, 2)", z.give(0, 2), -1);
    }

    private static void years() {
        SlipHeirs x = new SlipHeirs();
        int[] wrong = {0, -1, 100, Integer.MIN_VALUE, Integer.MAX_VALUE};
        for (int n : wrong) {
            Check.eq("years(" + n + ")", x.years(n), -1);
        }
        for (int i = 1; i <= 7; i++) {
            Check.eq("years(99)", x.years(99), 300 + 99 * i);
        }
        Check.eq("years(7) from 993", x.years(7), -1);
        Check.eq("years(6) from 993", x.years(6), 999);
        Check.eq("years(1) from 999", x.years(1), -1);
        Check.eq("the year", x.now(0), 999);
    }

    private static void cameOut() {
        SlipHeirs x = Check.kin();
        Check.eq("ahead of any", x.came(-1), -1);
        Check.eq("ahead of any", x.came(0), -1);
        x.act(0, 0);
        came(x, "walk", 2, 2);
        x.act(1, 2);
        came(x, "rest", 0);
        x.die(1);
        x.act(1, 0);
        came(x, "still rest", 0);
        x.comes(0, 1, 0);
        x.right(0);
        came(x, "still rest", 0);
        x.undo();
        x.undo();
        came(x, "walk again", 2, 2);
        for (int i : WILD) {
            Check.eq("came(" + i + ")", x.came(i), i == -1 ? 2 : -1);
        }
        x.undo();
        Check.eq("none is left", x.came(-1), -1);
    }

    private static void undoing() {
        SlipHeirs x = Check.kin();
        Check.eq("nothing to undo", x.undo(), -1);
        for (int i = 0; i < 11; i++) {
            x.years(1);
        }
        for (int more = 7; more >= 0; more--) {
            Check.eq("undo", x.undo(), more);
            Check.eq("the year then", x.now(0), 303 + more);
        }
        Check.eq("no more", x.undo(), -1);
        Check.eq("the year stays", x.now(0), 303);
        x.years(1);
        Check.eq("one more", x.undo(), 0);
        // What was not done can't be undone.
        x.die(3);
        x.die(3);
        x.act(3, 0);
        x.give(2, 4);
        x.years(0);
        x.drawn(0, 0);
        Check.chronicle(x, "cid dies;", 0);
        Check.chronicle(x, "cid does;", 1);
        Check.sentence(x, "alive");
        x.image(0);
        Check.eq("only a death", x.undo(), 0);
        Check.eq("all live", x.now(2), 0);
        Check.eq("the sentence stays", x.said(-1), 5);
    }

    private static void undoingAll() {
        SlipHeirs x = Check.kin();
        x.act(0, 1);
        x.give(0, 4);
        x.die(4);
        x.years(9);
        x.drawn(30, 5);
        Check.eq("lived", Check.chronicle(x, "year 9;", 1), -1);
        Check.eq("chronicle", x.undo(), 5);
        Check.eq("drawn", x.undo(), 4);
        now(x, "behind years", 309, 984, 16, 2, 1, 1, 0, 300);
        Check.eq("years", x.undo(), 3);
        now(x, "behind a death", 300, 984, 16, 2, 1, 1, 0, 300);
        Check.eq("die", x.undo(), 2);
        now(x, "behind a gift", 300, 984, 0, 2, 0, 1, 0, 300);
        Check.eq("its bearer", x.error(0, 0), 4);
        Check.eq("give", x.undo(), 1);
        Check.eq("its bearer", x.error(0, 0), 0);
        now(x, "behind a deed", 300, 984, 0, 2, 0, 1, 0, 300);
        Check.eq("made", x.person(0, 7), 4);
        Check.eq("act", x.undo(), 0);
        now(x, "ahead of all", 300, 1000, 0, 0, 0, 0, 0, -1);
        Check.eq("no more", x.undo(), -1);
    }
}
