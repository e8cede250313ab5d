/** Promises 16 to 20: comes, right, loss, heir, line. */
public final class ComesTest {
    private static final int[] WILD = {-1, -2, 10, 31, 32, Integer.MIN_VALUE, Integer.MAX_VALUE};

    public static void main(String[] args) {
        comes();
        right();
        loss();
        heirs();
        heirsDown();
        lines();
        Check.close("ComesTest");
    }

    private static void comes(SlipHeirs x, int p, int d, int others, int... due) {
        String call = "comes(" + p + ", " + d + ", ";
        Check.eq(call + "NONE)", x.comes(p, d, -1), others);
        for (int i = 0; i < due.length; i++) {
            Check.eq(call + i + ")", x.comes(p, d, i), due[i]);
        }
        Check.eq(call + due.length + ")", x.comes(p, d, due.length), -1);
    }

    private static void comes() {
        SlipHeirs x = Check.kin();
        comes(x, 0, 0, 1, 2, 2);
        comes(x, 0, 1, 2, 2, 2);
        comes(x, 0, 2, 0, 2);
        comes(x, 1, 0, 1, 0, 0);
        comes(x, 2, 1, 0, 0, 0);
        Check.eq("nothing was done", x.now(5), 0);
        Check.eq("nothing wears", x.error(0, 3), 3);
        x.act(0, 1);
        comes(x, 0, 1, 1, 1, 0);
        x.die(0);
        Check.eq("dead", x.comes(0, 0, 0), -1);
        Check.eq("dead", x.comes(0, 0, -1), -1);
        comes(x, 2, 1, 1, 1, 0);
        for (int i : WILD) {
            Check.eq("comes(1, 0, " + i + ")", x.comes(1, 0, i), i == -1 ? 1 : -1);
            Check.eq("comes(1, " + i + ", 0)", x.comes(1, i, 0), -1);
            Check.eq("comes(" + i + ", 0, 0)", x.comes(i, 0, 0), -1);
        }
        Check.eq("comes(5, 0, 0)", x.comes(5, 0, 0), -1);
        Check.eq("comes(1, 3, 0)", x.comes(1, 3, 0), -1);
    }

    private static void right() {
        SlipHeirs x = Check.kin();
        Check.eq("right(0)", x.right(0), 28);
        Check.eq("right(1)", x.right(1), 30);
        Check.eq("right(2)", x.right(2), 29);
        Check.eq("right(3)", x.right(3), -1);
        for (int i : WILD) {
            Check.eq("right(" + i + ")", x.right(i), -1);
        }
        x.die(4);
        Check.eq("right(0) of the living", x.right(0), 12);
        x.die(0);
        Check.eq("right(0) of the living", x.right(0), 8);
        // Made, but made good again: what one error does, another undoes.
        SlipHeirs y = Check.of("step a;step b;person p 1;error e p a b 1 1 0;error f p b a 9 1 0;deed d a a;deed g b;");
        Check.eq("right in spite of all", y.right(0), 1);
        Check.eq("and it costs", y.loss(0, 0), 2);
        y.act(0, 0);
        Check.eq("it came out right", y.now(6), 1);
        Check.eq("wrong", y.right(1), 0);
    }

    private static void loss() {
        SlipHeirs x = Check.kin();
        Check.eq("loss(0, 0)", x.loss(0, 0), 8);
        Check.eq("loss(0, 1)", x.loss(0, 1), 16);
        Check.eq("loss(0, 2)", x.loss(0, 2), 0);
        Check.eq("loss(1, 0)", x.loss(1, 0), 0);
        x.give(0, 4);
        Check.eq("more", x.loss(4, 1), -2);
        Check.eq("nothing was done", x.now(1), 1000);
        x.act(0, 1);
        x.die(3);
        Check.is("dead", Check.noLoss(x, 3, 0));
        Check.is("no such deed", Check.noLoss(x, 0, 3));
        Check.is("no such person", Check.noLoss(x, 5, 0));
        for (int i : WILD) {
            Check.is("loss(" + i + ", 0) throws", Check.noLoss(x, i, 0));
            Check.is("loss(0, " + i + ") throws", Check.noLoss(x, 0, i));
        }
    }

    private static void heirs() {
        SlipHeirs x = Check.kin();
        int[] due = {2, 3, 10, 10, 10};
        for (int p = 0; p < 5; p++) {
            Check.eq("heir(" + p + ")", x.heir(p), due[p]);
        }
        x.die(2);
        Check.eq("the younger one", x.heir(0), 1);
        x.die(1);
        Check.eq("the dead one's child", x.heir(0), 3);
        x.die(3);
        Check.eq("the godchild", x.heir(0), 4);
        x.die(4);
        Check.eq("the state", x.heir(0), 10);
        x.die(0);
        Check.eq("dead", x.heir(0), -1);
        Check.eq("heir(5)", x.heir(5), -1);
        for (int i : WILD) {
            Check.eq("heir(" + i + ")", x.heir(i), -1);
        }
        SlipHeirs y = Check.of("person a 1;person b 5 of a;person c 5 of a;");
        Check.eq("of like years the first", y.heir(0), 1);
        y.die(1);
        Check.eq("then the second", y.heir(0), 2);
    }

    private static void heirsDown() {
        String text = "person a 1;person b 9 of a;person c 5 of a;person d 20 of b;person e 30 of c;person f 25 of c;"
            + "person g 40 of f;person h 41 of e;person i 7 of a;person j 3;god a j;";
        SlipHeirs x = Check.of(text);
        Check.eq("c is the eldest", x.heir(0), 2);
        x.die(2);
        Check.eq("i is next", x.heir(0), 8);
        x.die(8);
        Check.eq("a living child is ahead of a dead one's", x.heir(0), 1);
        x.die(1);
        Check.eq("of the eldest dead one the eldest", x.heir(0), 5);
        x.die(5);
        Check.eq("a living one ahead of the dead one's child", x.heir(0), 4);
        x.die(4);
        Check.eq("further down, the eldest ahead", x.heir(0), 6);
        x.die(6);
        Check.eq("further down", x.heir(0), 7);
        x.die(7);
        Check.eq("of the next dead one", x.heir(0), 3);
        x.die(3);
        Check.eq("the godchild", x.heir(0), 9);
    }

    private static void lines() {
        SlipHeirs x = Check.kin();
        Check.eq("line(0, 1)", x.line(0, 1), 2);
        Check.eq("line(0, 2)", x.line(0, 2), 10);
        Check.eq("line(0, 10)", x.line(0, 10), 10);
        Check.eq("line(1, 1)", x.line(1, 1), 3);
        Check.eq("line(0, 0)", x.line(0, 0), -1);
        Check.eq("line(0, 11)", x.line(0, 11), -1);
        Check.eq("all live on", x.now(2), 0);
        x.die(0);
        Check.eq("dead", x.line(0, 1), -1);
        for (int i : WILD) {
            Check.eq("line(" + i + ", 1)", x.line(i, 1), -1);
            Check.eq("line(1, " + i + ")", x.line(1, i), i == 10 ? 10 : -1);
        }
        SlipHeirs y = Check.of("person a 1;person b 2;person c 3;person d 4 of c;god a b;god b c;god d a;god c b;");
        int[] due = {1, 2, 3, 10, 10};
        for (int n = 1; n <= 5; n++) {
            Check.eq("line of godchildren " + n, y.line(0, n), due[n - 1]);
        }
        int[] back = {0, 1, 2, 10};
        for (int n = 1; n <= 4; n++) {
            Check.eq("line from the last one " + n, y.line(3, n), back[n - 1]);
        }
    }
}
