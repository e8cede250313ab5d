/** Promises 34 and 35: drawn, odds. */
public final class DrawnTest {
    private static final int[] WILD = {0, -1, 61, 100, Integer.MIN_VALUE, Integer.MAX_VALUE};

    public static void main(String[] args) {
        limits();
        byHand();
        noDeeds();
        yearByYear();
        odds();
        Check.close("DrawnTest");
    }

    private static void limits() {
        SlipHeirs x = Check.kin();
        for (int n : WILD) {
            Check.eq("drawn(" + n + ", 1)", x.drawn(n, 1), -1);
        }
        Check.eq("nothing to undo", x.undo(), -1);
        int year = 300;
        for (int i = 0; i < 11; i++) {
            year += 60;
            Check.eq("drawn(60)", x.drawn(60, i), year);
        }
        Check.eq("960", x.now(0), 960);
        Check.eq("drawn(40) from 960", x.drawn(40, 1), -1);
        Check.is("odds from 960", x.odds(0, 1, 1) >= 0);
        x.years(9);
        Check.is("odds from 969", x.odds(0, 1, 1) >= 0);
        x.undo();
        Check.eq("drawn(10) from 960", x.drawn(10, 1), 970);
        Check.eq("odds from 970", x.odds(0, 1, 1), -1);
        Check.eq("drawn(30) from 970", x.drawn(30, 1), -1);
        Check.eq("drawn(29) from 970", x.drawn(29, 1), 999);
        Check.eq("drawn(1) from 999", x.drawn(1, 1), -1);
        Check.eq("undo", x.undo(), 7);
        Check.eq("the year", x.now(0), 970);
    }

    /** The draws of a seed, as the document tells them. */
    private static final class Draws {
        private long x;

        Draws(int seed) {
            x = seed;
        }

        int of(int n) {
            x = (int) (x * 1103515245L + 12345L);
            return (int) (((x & 0xffffffffL) >> 8) % n);
        }
    }

    /** One living person and no errors: what is done and whether it lives can be counted by the draws alone. */
    private static void byHand() {
        boolean anyDead = false;
        boolean anyDone = false;
        for (int seed = -40; seed < 40; seed++) {
            SlipHeirs x = Check.of("step a;person p 1;deed d a;deed e a a;deed f a a a;");
            Draws draws = new Draws(seed);
            int done = 0;
            int latest = -1;
            boolean lives = true;
            for (int i = 0; i < 20 && lives; i++) {
                if (draws.of(6) == 0) {
                    latest = draws.of(3) + 1;
                    done++;
                }
                lives = draws.of(40) != 0;
            }
            Check.eq("drawn(20, " + seed + ")", x.drawn(20, seed), 320);
            Check.eq("alive by " + seed, x.person(0, 2), lives ? 1 : 0);
            Check.eq("done by " + seed, x.now(5), done);
            Check.eq("right by " + seed, x.now(6), done);
            Check.eq("came by " + seed, x.came(-1), latest);
            Check.eq("undo", x.undo(), 0);
            Check.eq("undone", x.now(0) * 1000 + x.now(5) * 10 + x.now(2), 300000);
            anyDead |= !lives;
            anyDone |= done > 0;
        }
        Check.is("some seeds kill", anyDead);
        Check.is("some seeds do", anyDone);
    }

    private static void noDeeds() {
        for (int seed = 0; seed < 30; seed++) {
            SlipHeirs x = Check.of("person p 1;");
            Draws draws = new Draws(seed);
            boolean lives = true;
            for (int i = 0; i < 60 && lives; i++) {
                draws.of(6);
                lives = draws.of(40) != 0;
            }
            x.drawn(60, seed);
            Check.eq("alive by " + seed, x.person(0, 2), lives ? 1 : 0);
            Check.eq("nothing is done", x.now(5), 0);
        }
    }

    /** The year in which an error is worn out is the one in which it was drawn. */
    private static void yearByYear() {
        SlipHeirs x = Check.of("step a;step b;person p 1;error e p a b 1 7 0;deed d a;");
        Draws draws = new Draws(3);
        int year = 300;
        while (draws.of(6) != 0) {
            draws.of(40);
            year++;
        }
        x.drawn(60, 3);
        Check.eq("the year of the first one worn out", x.now(7), year);
        Check.eq("fortune", x.now(1), 993);
    }

    private static void odds() {
        SlipHeirs x = Check.kin();
        int[] seeds = {0, 1, 77, -5, Integer.MAX_VALUE - 3, Integer.MIN_VALUE};
        for (int seed : seeds) {
            for (int e = 0; e < 3; e++) {
                int due = 0;
                for (int i = 0; i < 9; i++) {
                    SlipHeirs y = Check.kin();
                    y.drawn(30, seed + i);
                    due += y.error(e, 0) == -1 ? 1 : 0;
                }
                Check.eq("odds(" + e + ", 9, " + seed + ")", x.odds(e, 9, seed), due);
            }
        }
        Check.eq("all stays", x.now(0) + x.now(5), 300);
        Check.eq("odds(0, 0, 1)", x.odds(0, 0, 1), -1);
        Check.eq("odds(0, 41, 1)", x.odds(0, 41, 1), -1);
        Check.is("odds(0, 40, 1)", x.odds(0, 40, 1) > 0);
        Check.eq("odds(3, 1, 1)", x.odds(3, 1, 1), -1);
        for (int i : WILD) {
            Check.eq("odds(0, " + i + ", 1)", x.odds(0, i, 1), -1);
        }
        Check.eq("odds(-1, 1, 1)", x.odds(-1, 1, 1), -1);
        Check.eq("odds(MAX, 1, 1)", x.odds(Integer.MAX_VALUE, 1, 1), -1);
        x.act(0, 1);
        Check.eq("worn out already", x.odds(1, 40, 1), 40);
        Check.eq("nothing to undo but the deed", x.undo(), 0);
    }
}
