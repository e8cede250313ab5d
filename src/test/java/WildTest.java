import java.util.NoSuchElementException;
import java.util.Random;

/** Objects used for most of their 512 calls, with wild arguments and texts: nothing is thrown but what the document names. */
public final class WildTest {
    private static final int OBJECTS = 300;
    private static final int CALLS = 440;
    private static final String[] WORDS = ("step person of god care error deed does dies gives year or and not alive clean has under errors born"
        + " made number ; ; ; < = > ( ) . 0 1 5 20 21 99 100 300 301 999 1000 a b c p q r e f d abcdefg abcdefgh a1").split(" ");
    private static final int[] EDGES = {-1, -2, 0, 1, 2, 3, 4, 5, 6, 7, 8, 9, 10, 11, 12, 20, 31, 32, 40, 41, 60, 61, 63, 64, 99, 100, 940, 941,
        Integer.MIN_VALUE, Integer.MIN_VALUE + 1, Integer.MAX_VALUE, Integer.MAX_VALUE - 1};

    private final Random random;
    private SlipHeirs x;
    private int calls;

    private WildTest(int seed) {
        random = new Random(seed);
    }

    public static void main(String[] args) {
        for (int i = 0; i < OBJECTS; i++) {
            new WildTest(i).use();
        }
        Check.close("WildTest");
    }

    private void use() {
        x = new SlipHeirs();
        calls = 0;
        while (calls < CALLS) {
            int k = random.nextInt(46);
            try {
                call(k);
                Check.is("call " + k, true);
            } catch (NoSuchElementException e) {
                Check.is("call " + k + " may throw", k == 5 || k == 17);
            } catch (RuntimeException e) {
                Check.is("call " + k + " throws " + e, false);
            }
            calls++;
        }
        lastCalls();
    }

    private int any() {
        return random.nextInt(3) > 0 ? random.nextInt(6) : random.nextInt(4) == 0 ? random.nextInt() : EDGES[random.nextInt(EDGES.length)];
    }

    private String soup(int most) {
        StringBuilder text = new StringBuilder();
        int words = random.nextInt(12);
        for (int i = 0; i < words && text.length() < most; i++) {
            text.append(WORDS[random.nextInt(WORDS.length)]).append(random.nextInt(5) == 0 ? "" : " ");
        }
        return text.toString();
    }

    private void put(String text) {
        x.end(0);
        Check.put(x, text);
        calls += 3 + text.length() / 20;
    }

    private void call(int k) {
        switch (k) {
            case 0 -> x.feed(random.nextInt(), any(), any(), random.nextInt(), any());
            case 1 -> x.end(any());
            case 2 -> x.family();
            case 3 -> put(random.nextBoolean() ? Check.KIN : Check.full());
            case 4 -> put(soup(900));
            case 5 -> x.person(any(), any());
            case 6 -> x.error(any(), any());
            case 7 -> x.deed(any(), any());
            case 8 -> x.now(any());
            case 9 -> x.act(any(), any());
            case 10 -> x.die(any());
            case 11 -> x.give(any(), any());
            case 12 -> x.years(any());
            case 13 -> x.undo();
            case 14 -> x.came(any());
            case 15 -> x.comes(any(), any(), any());
            case 16 -> x.right(any());
            case 17 -> x.loss(any(), any());
            case 18 -> x.heir(any());
            case 19 -> x.line(any(), any());
            case 20 -> x.plan(any());
            case 21 -> x.planned(any());
            case 22 -> x.who(any());
            default -> callMore(k);
        }
    }

    private void callMore(int k) {
        switch (k) {
            case 23 -> x.worn(any());
            case 24 -> x.gifts();
            case 25 -> x.gift(any());
            case 26 -> x.together(any(), any());
            case 27 -> x.rests(any());
            case 28 -> x.cancel(any(), any());
            case 29 -> x.under(any());
            case 30 -> x.common(any(), any());
            case 31 -> x.drawn(any(), any());
            case 32 -> x.odds(any(), any(), any());
            case 33 -> x.chronicle(any());
            case 34 -> x.told(any());
            case 35 -> x.sentence();
            case 36 -> x.said(any());
            case 37 -> x.image(any());
            case 38 -> x.restore(any());
            case 39 -> x.count(any());
            case 40 -> put("old does hop;year 5;gives slip gil;ann dies;" + soup(300));
            case 41 -> put("alive and not (errors > 1 or under old)" + soup(120));
            case 42 -> Check.steps(x, random.nextInt(7), random.nextInt(4));
            default -> x.family();
        }
    }

    /** Whatever came ahead, a new FAMILY begins anew. */
    private void lastCalls() {
        x.end(0);
        Check.eq("a family at last", Check.family(x, Check.KIN), 18);
        Check.eq("fortune at last", x.now(1), 1000);
        Check.eq("the first deed", x.act(0, 1), 0);
        Check.eq("fortune behind it", x.now(1), 984);
        Check.eq("undone", x.undo(), 0);
    }
}
