/** Promises 1 to 42, one by one: each argument at its bounds and one beyond them. */
public final class CallBoundsTest {
    public static void main(String[] args) {
        tape();
        telling();
        acting();
        asking();
        planning();
        several();
        drawing();
        texts();
        images();
        upTo512Calls();
        Check.close("CallBoundsTest");
    }

    private static void tape() {
        promise1NewObject();
        promise2Feed();
        promise3End();
        promise4Family();
        promise5Fault();
        promise42Count();
    }

    private static void telling() {
        promise6Person();
        promise7Error();
        promise8Deed();
        promise9Now();
    }

    private static void acting() {
        promise10Act();
        promise11Die();
        promise12Give();
        promise13Years();
        promise14Undo();
        promise15Came();
    }

    private static void asking() {
        promise16Comes();
        promise17Right();
        promise18Loss();
        promise19Heir();
        promise20Line();
    }

    private static void planning() {
        promise21Plan();
        promise22Planned();
        promise23Who();
        promise24To26Worn();
        promise27And28Gifts();
    }

    private static void several() {
        promise29Together();
        promise30Rests();
        promise31Cancel();
        promise32Under();
        promise33Common();
    }

    private static void drawing() {
        promise34Drawn();
        promise35Odds();
    }

    private static void texts() {
        promise36Chronicle();
        promise37Told();
        promise38Sentence();
        promise39Said();
    }

    private static void images() {
        promise40Image();
        promise41Restore();
    }

    private static SlipHeirs full() {
        return Check.of(Check.full());
    }

    /** Numbers that are none of 0 to n - 1: one beyond on both sides, far ones, and such as shifts would take for others. */
    private static int[] beyond(int n) {
        return new int[] {-1, -2, n, n + 1, n + 32, n + 256, 1 << 16, Integer.MIN_VALUE, Integer.MIN_VALUE + 1, Integer.MAX_VALUE};
    }

    /** The same without NONE, where that one has a meaning of its own. */
    private static int[] beyondNone(int n) {
        int[] row = beyond(n);
        row[0] = -32;
        return row;
    }

    private static void upTo512Calls() {
        SlipHeirs x = new SlipHeirs();
        for (int i = 1; i < 512; i += 2) {
            Check.eq("call " + i, x.years(99), 399);
            Check.eq("call " + (i + 1), x.undo(), 0);
        }
    }

    private static void promise1NewObject() {
        SlipHeirs x = new SlipHeirs();
        for (int what = 0; what <= 4; what++) {
            Check.eq("count(" + what + ") of a new object", x.count(what), 0);
        }
        Check.is("person(0, 0) of a new object throws", Check.noPerson(x, 0, 0));
        Check.is("loss(0, 0) of a new object throws", Check.noLoss(x, 0, 0));
        int[] none = {x.error(0, 0), x.deed(0, -1), x.act(0, 0), x.die(0), x.give(0, 0), x.undo(), x.came(-1), x.came(0),
            x.comes(0, 0, -1), x.right(0), x.heir(0), x.line(0, 1), x.plan(0), x.planned(0), x.who(0), x.worn(0), x.wornBy(),
            x.gift(0), x.together(0, 0), x.rests(1), x.cancel(0, -1), x.under(0), x.common(0, 0), x.odds(0, 1, 1), x.told(0),
            x.told(2), x.said(-1), x.said(0), x.now(7), x.sentence()};
        for (int i = 0; i < none.length; i++) {
            Check.eq("call " + i + " on a new object", none[i], -1);
        }
        Check.isNot("nothing is kept", x.restore(0) || x.restore(1));
        Check.eq("its FAMILY has no LINES", x.family(), 0);
        Check.eq("nor has a CHRONICLE", x.chronicle(1), -1);
        Check.eq("the YEAR", x.told(2), 300);
        Check.eq("fault", new SlipHeirs().fault(), 0);
    }

    private static void promise2Feed() {
        SlipHeirs x = new SlipHeirs();
        for (int i = 1; i <= 46; i++) {
            Check.eq("feed " + i, x.feed(0, 0, 0, 0, 0), 20 * i);
        }
        Check.eq("feed to 940", x.feed(0, 0, 0, 0, 0), 940);
        Check.eq("feed beyond 940", x.feed(0, 0, 0, 0, 0), -1);
        Check.eq("none came", x.count(4), 940);
        for (int n = 939; n > 920; n--) {
            x.end(n);
            Check.eq("feed at " + n, x.feed(0, 0, 0, 0, 0), -1);
            Check.eq("none came", x.count(4), n);
        }
        x.end(920);
        Check.eq("feed at 920", x.feed(0, 0, 0, 0, 0), 940);
    }

    private static void promise3End() {
        SlipHeirs x = new SlipHeirs();
        Check.is("end(0) of an empty tape", x.end(0));
        Check.isNot("end(1) of an empty tape", x.end(1));
        x.feed(0x73746570, 0x20613b73, 0x74657020, 0x623b0000, 0);
        for (int n : beyond(21)) {
            Check.isNot("end(" + n + ") of 20", x.end(n));
            Check.eq("the tape stays", x.count(4), 20);
        }
        Check.is("end(20) of 20", x.end(20));
        Check.is("end(14)", x.end(14));
        Check.isNot("end(15) of 14", x.end(15));
        Check.eq("the first bytes are there", x.family(), 2);
        Check.isNot("end(1) behind it", x.end(1));
    }

    private static void promise4Family() {
        SlipHeirs x = Check.kin();
        Check.eq("a FAULT at 0", Check.family(x, ";"), -1);
        Check.eq("it stays", x.count(1), 5);
        Check.eq("a FAULT at 1", Check.family(x, " ;"), -2);
        Check.eq("a FAULT at 900", Check.family(x, Check.repeat(" ", 901)), -901);
        Check.eq("it stays", x.count(1), 5);
        Check.eq("an empty tape", x.family(), 0);
        Check.eq("is an empty FAMILY", x.count(1), 0);
    }

    private static void promise5Fault() {
        SlipHeirs x = Check.kin();
        Check.eq("none", x.fault(), 0);
        String[] texts = {"step 5;", "person p 301;", "step a;step a;", Check.full() + "step z;"};
        for (int kind = 1; kind <= 4; kind++) {
            Check.family(x, texts[kind - 1]);
            Check.eq("the FAULT of a FAMILY", x.fault(), kind);
            x.chronicle(2);
            x.chronicle(-1);
            x.plan(0);
            x.who(0);
            x.act(0, 0);
            x.image(0);
            x.restore(0);
            Check.eq("stays", x.fault(), kind);
        }
        x.chronicle(0);
        Check.eq("none of a CHRONICLE", x.fault(), 0);
        Check.chronicle(x, "year 0;", 1);
        Check.eq("the FAULT of a CHRONICLE", x.fault(), 2);
        Check.sentence(x, "alive");
        Check.eq("none of a SENTENCE", x.fault(), 0);
        Check.sentence(x, "has none");
        Check.eq("the FAULT of a SENTENCE", x.fault(), 3);
        Check.family(x, "");
        Check.eq("none of a FAMILY", x.fault(), 0);
        Check.chronicle(x, "none dies;", 0);
        Check.eq("the FAULT of a CHRONICLE", x.fault(), 3);
        Check.eq("one that is WRONG has none", Check.chronicle(Check.kin(), "gives back gil;", 0), 0);
    }

    private static void promise6Person() {
        SlipHeirs x = full();
        for (int p = 0; p < 10; p++) {
            for (int what = 0; what < 8; what++) {
                Check.isNot("person(" + p + ", " + what + ") throws", Check.noPerson(x, p, what));
            }
            Check.is("person(" + p + ", 8) throws", Check.noPerson(x, p, 8));
            Check.is("person(" + p + ", -1) throws", Check.noPerson(x, p, -1));
        }
        for (int i : beyond(10)) {
            Check.is("person(" + i + ", 0) throws", Check.noPerson(x, i, 0));
        }
        for (int i : beyond(8)) {
            Check.is("person(0, " + i + ") throws", Check.noPerson(x, 0, i));
        }
        Check.eq("of nobody", x.person(0, 1), -1);
        Check.eq("the last one's children", x.person(9, 6), 0);
        Check.eq("no godchild", Check.kin().person(4, 5), -1);
        x.die(9);
        Check.eq("dead", x.person(9, 2), 0);
        Check.is("one beyond in a smaller FAMILY", Check.noPerson(Check.kin(), 5, 0));
    }

    private static void promise7Error() {
        SlipHeirs x = full();
        for (int e : beyond(6)) {
            for (int what = 0; what < 8; what++) {
                Check.eq("error(" + e + ", " + what + ")", x.error(e, what), -1);
            }
        }
        for (int what : beyond(8)) {
            Check.eq("error(0, " + what + ")", x.error(0, what), -1);
            Check.eq("error(5, " + what + ")", x.error(5, what), -1);
        }
        Check.eq("the last one", x.error(5, 0), 9);
        Check.eq("one beyond in a smaller FAMILY", Check.kin().error(3, 3), -1);
    }

    private static void promise8Deed() {
        SlipHeirs x = full();
        Check.eq("twelve STEPS", x.deed(0, -1), 12);
        Check.eq("STEP 11", x.deed(0, 11), 0);
        Check.eq("one STEP", x.deed(3, -1), 1);
        Check.eq("STEP 0", x.deed(3, 0), 3);
        for (int i : beyondNone(12)) {
            Check.eq("deed(0, " + i + ")", x.deed(0, i), -1);
        }
        for (int i : beyondNone(1)) {
            Check.eq("deed(3, " + i + ")", x.deed(3, i), -1);
        }
        for (int d : beyond(4)) {
            Check.eq("deed(" + d + ", NONE)", x.deed(d, -1), -1);
            Check.eq("deed(" + d + ", 0)", x.deed(d, 0), -1);
        }
    }

    private static void promise9Now() {
        SlipHeirs x = full();
        for (int what : beyond(8)) {
            Check.eq("now(" + what + ")", x.now(what), -1);
        }
        for (int p = 0; p < 10; p++) {
            x.die(p);
        }
        Check.eq("all are dead", x.now(2), 1023);
        Check.eq("all are the STATE's", x.now(4), 63);
        Check.eq("none is worn out", x.now(7), -1);
        SlipHeirs y = Check.of("step a;step b;person p 5;person q 5;error e p a b 1 0 0;error f q a b 1 0 0;deed d a;");
        y.years(5);
        y.act(0, 0);
        y.years(5);
        y.act(1, 0);
        Check.eq("the first YEAR alone", y.now(7), 305);
        Check.eq("worn out", y.now(3), 3);
    }

    private static void promise10Act() {
        SlipHeirs x = full();
        Check.eq("act(9, 3)", x.act(9, 3), 0);
        for (int i : beyond(10)) {
            Check.eq("act(" + i + ", 0)", x.act(i, 0), -1);
        }
        for (int i : beyond(4)) {
            Check.eq("act(0, " + i + ")", x.act(0, i), -1);
        }
        x.die(9);
        Check.eq("dead", x.act(9, 3), 1);
        Check.eq("dead, and no such DEED", x.act(9, 4), -1);
        Check.eq("done", x.now(5), 1);
    }

    private static void promise11Die() {
        SlipHeirs x = full();
        for (int i : beyond(10)) {
            Check.eq("die(" + i + ")", x.die(i), -1);
        }
        Check.eq("nobody is dead", x.now(2), 0);
        Check.eq("die(9)", x.die(9), 0);
        Check.eq("die(9) again", x.die(9), 1);
        Check.eq("die(0)", x.die(0), 0);
    }

    private static void promise12Give() {
        SlipHeirs x = full();
        for (int i : beyond(6)) {
            Check.eq("give(" + i + ", 0)", x.give(i, 0), -1);
        }
        for (int i : beyond(10)) {
            Check.eq("give(5, " + i + ")", x.give(5, i), -1);
        }
        Check.eq("give(5, 0)", x.give(5, 0), 0);
        Check.eq("it has it", x.error(5, 0), 0);
    }

    private static void promise13Years() {
        SlipHeirs x = Check.kin();
        for (int n : beyond(100)) {
            Check.eq("years(" + n + ")", x.years(n), -1);
        }
        Check.eq("years(0)", x.years(0), -1);
        Check.eq("years(100)", x.years(100), -1);
        Check.eq("years(1)", x.years(1), 301);
        Check.eq("years(99)", x.years(99), 400);
        Check.eq("two can be undone", x.undo(), 1);
    }

    private static void promise14Undo() {
        for (int done = 0; done <= 20; done++) {
            SlipHeirs x = Check.kin();
            for (int i = 0; i < done; i++) {
                x.years(1);
            }
            int kept = Math.min(done, 8);
            for (int more = kept - 1; more >= 0; more--) {
                Check.eq("undo behind " + done, x.undo(), more);
            }
            Check.eq("no more behind " + done, x.undo(), -1);
            Check.eq("the YEAR", x.now(0), 300 + done - kept);
        }
        undoEachSort();
        undoTwoWays();
    }

    private static void undoEachSort() {
        SlipHeirs x = Check.kin();
        x.give(0, 4);
        Check.eq("a gift", x.undo(), 0);
        Check.eq("is back", x.error(0, 0), 0);
        x.die(0);
        Check.eq("a death", x.undo(), 0);
        Check.eq("is back", x.person(0, 2) + x.error(0, 0) + x.error(1, 0), 1);
        x.act(0, 1);
        Check.eq("a DEED", x.undo(), 0);
        Check.eq("is not done", x.now(5) + x.person(0, 7) + x.error(0, 6), 0);
        Check.eq("did not come", x.came(-1), -1);
        x.drawn(60, 3);
        Check.eq("YEARS DRAWN", x.undo(), 0);
        Check.eq("the YEAR", x.now(0), 300);
        Check.chronicle(x, "old dies;year 5;", 1);
        Check.eq("a CHRONICLE", x.undo(), 0);
        Check.eq("the YEAR", x.now(0), 300);
        Check.eq("nothing is left", x.undo(), -1);
    }

    private static void undoTwoWays() {
        SlipHeirs x = Check.kin();
        for (int i = 0; i < 10; i++) {
            x.years(1);
        }
        for (int i = 0; i < 5; i++) {
            x.undo();
        }
        for (int i = 0; i < 7; i++) {
            x.years(10);
        }
        Check.eq("eight again, the eldest are gone", x.undo(), 7);
        for (int i = 0; i < 6; i++) {
            x.undo();
        }
        Check.eq("behind the tens", x.now(0), 305);
        Check.eq("the last one", x.undo(), 0);
        Check.eq("the YEAR", x.now(0), 304);
        Check.eq("no more", x.undo(), -1);
    }

    private static void promise15Came() {
        SlipHeirs x = full();
        Check.eq("none was done", x.came(-1), -1);
        Check.eq("none was done", x.came(0), -1);
        x.act(0, 0);
        Check.eq("twelve STEPS", x.came(-1), 12);
        Check.eq("the last one", x.came(11), 1);
        for (int i : beyondNone(12)) {
            Check.eq("came(" + i + ")", x.came(i), -1);
        }
        x.act(9, 3);
        Check.eq("one STEP", x.came(-1), 1);
        Check.eq("one beyond", x.came(1), -1);
        x.undo();
        Check.eq("twelve again", x.came(-1), 12);
        for (int i = 0; i < 9; i++) {
            x.act(9, 3);
        }
        for (int i = 0; i < 8; i++) {
            x.undo();
        }
        Check.eq("one is not undone", x.came(-1), 1);
    }

    private static void promise16Comes() {
        SlipHeirs x = full();
        Check.eq("all STEPS", x.comes(0, 0, -1), 12);
        Check.eq("the last one", x.comes(0, 0, 11), 1);
        Check.eq("no STEP is another", x.comes(9, 3, -1), 0);
        for (int i : beyondNone(12)) {
            Check.eq("comes(0, 0, " + i + ")", x.comes(0, 0, i), -1);
        }
        for (int i : beyond(10)) {
            Check.eq("comes(" + i + ", 0, 0)", x.comes(i, 0, 0), -1);
            Check.eq("comes(" + i + ", 0, NONE)", x.comes(i, 0, -1), -1);
        }
        for (int i : beyond(4)) {
            Check.eq("comes(0, " + i + ", 0)", x.comes(0, i, 0), -1);
            Check.eq("comes(0, " + i + ", NONE)", x.comes(0, i, -1), -1);
        }
        x.die(0);
        Check.eq("dead", x.comes(0, 0, -1), -1);
        Check.eq("dead", x.comes(0, 0, 0), -1);
    }

    private static void promise17Right() {
        SlipHeirs x = full();
        Check.eq("all but the first", x.right(0), 1022);
        Check.eq("all but the fourth", x.right(3), 1015);
        for (int i : beyond(4)) {
            Check.eq("right(" + i + ")", x.right(i), -1);
        }
        for (int p = 0; p < 10; p++) {
            x.die(p);
        }
        Check.eq("nobody", x.right(0), 0);
    }

    private static void promise18Loss() {
        SlipHeirs x = full();
        Check.eq("CARE 0: more", x.loss(0, 0), -240);
        Check.eq("CARE 3", x.loss(3, 3), 40);
        Check.eq("nothing", x.loss(9, 3), 0);
        for (int i : beyond(10)) {
            Check.is("loss(" + i + ", 0) throws", Check.noLoss(x, i, 0));
        }
        for (int i : beyond(4)) {
            Check.is("loss(0, " + i + ") throws", Check.noLoss(x, 0, i));
        }
        x.die(9);
        Check.is("dead", Check.noLoss(x, 9, 3));
    }

    private static void promise19Heir() {
        SlipHeirs x = full();
        for (int p = 0; p < 10; p++) {
            Check.eq("heir(" + p + ")", x.heir(p), (p + 1) % 10);
        }
        for (int i : beyond(10)) {
            Check.eq("heir(" + i + ")", x.heir(i), -1);
        }
        x.die(0);
        Check.eq("dead", x.heir(0), -1);
        Check.eq("its godchild is dead", x.heir(9), 10);
    }

    private static void promise20Line() {
        SlipHeirs x = full();
        for (int n = 1; n <= 9; n++) {
            Check.eq("line(0, " + n + ")", x.line(0, n), n);
        }
        Check.eq("line(0, 10)", x.line(0, 10), 10);
        Check.eq("line(1, 9)", x.line(1, 9), 0);
        Check.eq("line(1, 10)", x.line(1, 10), 10);
        Check.eq("line(0, 0)", x.line(0, 0), -1);
        for (int n : beyond(11)) {
            Check.eq("line(0, " + n + ")", x.line(0, n), -1);
        }
        for (int i : beyond(10)) {
            Check.eq("line(" + i + ", 1)", x.line(i, 1), -1);
        }
        x.die(4);
        Check.eq("dead", x.line(4, 1), -1);
        Check.eq("over the dead one", x.line(3, 1), 5);
    }

    private static int plan(SlipHeirs x, int p, int... steps) {
        Check.steps(x, steps);
        int ways = x.plan(p);
        Check.eq("the tape is empty", x.count(4), 0);
        return ways;
    }

    private static void promise21Plan() {
        SlipHeirs x = full();
        Check.eq("no bytes", plan(x, 0), -1);
        Check.eq("one byte", plan(x, 9, 1), 1);
        Check.eq("six bytes", plan(x, 8, 0, 1, 2, 3, 4, 5), 1);
        Check.eq("seven bytes", plan(x, 9, 0, 1, 2, 3, 4, 5, 0), -1);
        Check.eq("the last STEP", plan(x, 8, 5), 1);
        for (int s : new int[] {6, 7, 127, 128, 255}) {
            Check.eq("no STEP " + s, plan(x, 8, s), -1);
            Check.eq("no STEP " + s, plan(x, 8, 0, s), -1);
        }
        for (int i : beyond(10)) {
            Check.eq("plan(" + i + ")", plan(x, i, 1), -1);
        }
        x.die(9);
        Check.eq("dead", plan(x, 9, 1), -1);
        Check.eq("alive", plan(x, 0, 1), 2);
        for (int i = 0; i < 47; i++) {
            x.feed(0, 0, 0, 0, 0);
        }
        Check.eq("a full tape", x.plan(0), -1);
        Check.eq("is empty", x.count(4), 0);
    }

    private static void promise22Planned() {
        SlipHeirs x = full();
        Check.eq("ahead of any", x.planned(0), -1);
        plan(x, 0, 0);
        Check.eq("by none that was 1 or more", x.planned(0), -1);
        plan(x, 8, 5, 4, 3, 2, 1, 0);
        for (int i = 0; i < 6; i++) {
            Check.eq("planned(" + i + ")", x.planned(i), 5 - i);
        }
        for (int i : beyond(6)) {
            Check.eq("planned(" + i + ")", x.planned(i), -1);
        }
        plan(x, 0, 0);
        plan(x, 0, 9);
        Check.eq("0 ways and NONE leave it", x.planned(5), 0);
        plan(x, 8, 3);
        Check.eq("a shorter one", x.planned(0), 3);
        Check.eq("has no more", x.planned(1), -1);
    }

    private static int who(SlipHeirs x, int d, int... steps) {
        Check.steps(x, steps);
        int bits = x.who(d);
        Check.eq("the tape is empty", x.count(4), 0);
        return bits;
    }

    private static void promise23Who() {
        SlipHeirs x = full();
        Check.eq("twelve bytes", who(x, 0, 1, 1, 1, 1, 1, 1, 1, 1, 1, 1, 1, 1), 1);
        Check.eq("eleven bytes", who(x, 0, 1, 1, 1, 1, 1, 1, 1, 1, 1, 1, 1), -1);
        Check.eq("thirteen bytes", who(x, 0, 1, 1, 1, 1, 1, 1, 1, 1, 1, 1, 1, 1, 1), -1);
        Check.eq("one byte", who(x, 3, 3), 1015);
        Check.eq("no bytes", who(x, 3), -1);
        Check.eq("two bytes", who(x, 3, 3, 3), -1);
        Check.eq("nobody", who(x, 3, 0), 0);
        Check.eq("the last STEP", who(x, 3, 5), 0);
        for (int none : new int[] {6, 7, 127, 128, 253, 254, 255}) {
            Check.eq("a byte that is no STEP: " + none, who(x, 3, none), -1);
            Check.eq("the last of twelve: " + none, who(x, 0, 1, 1, 1, 1, 1, 1, 1, 1, 1, 1, 1, none), -1);
        }
        for (int i : beyond(4)) {
            Check.eq("who(" + i + ")", who(x, i, 3), -1);
        }
        x.die(9);
        Check.eq("of the living", who(x, 3, 3), 503);
    }

    private static void promise24To26Worn() {
        SlipHeirs x = full();
        Check.eq("ahead of any", x.wornBy(), -1);
        Check.eq("ahead of any", x.wornLoss(), -100001);
        for (int i : beyond(6)) {
            Check.eq("worn(" + i + ")", x.worn(i), -1);
        }
        Check.eq("by no DEED", x.worn(5), -1);
        Check.eq("NONE leaves it", x.wornLoss(), -100001);
        Check.eq("NONE leaves it", x.wornBy(), -1);
        Check.eq("twenty by twelve STEPS", x.worn(0), 2);
        Check.eq("by", x.wornBy(), 0);
        Check.eq("loss", x.wornLoss(), -400);
        Check.eq("twenty times", x.worn(3), 20);
        Check.eq("by", x.wornBy(), 3);
        Check.eq("loss", x.wornLoss(), 800);
        for (int p = 3; p < 10; p++) {
            x.die(p);
        }
        x.die(0);
        x.die(2);
        x.die(1);
        Check.eq("the STATE has it", x.worn(3), -1);
        Check.eq("NONE leaves it", x.wornBy() * 1000 + x.wornLoss(), 3800);
        SlipHeirs y = Check.of("step a;step b;person p 5;error e p a b 1 7 0;deed d a;");
        Check.eq("once", y.worn(0), 1);
        Check.eq("loss", y.wornLoss(), 7);
        y.act(0, 0);
        Check.eq("it is worn out", y.worn(0), 0);
        Check.eq("by none", y.wornBy(), -1);
        Check.eq("loss", y.wornLoss(), 0);
    }

    private static void promise27And28Gifts() {
        SlipHeirs x = full();
        for (int e = 0; e < 6; e++) {
            Check.eq("gift(" + e + ") ahead of any", x.gift(e), -1);
        }
        Check.eq("all stay but the last, which harms nobody", x.gifts(), 20 + 40 + 60 + 80);
        int[] due = {0, 1, 2, 3, 4, 9};
        for (int e = 0; e < 6; e++) {
            Check.eq("gift(" + e + ")", x.gift(e), due[e]);
        }
        for (int e : beyond(6)) {
            Check.eq("gift(" + e + ")", x.gift(e), -1);
        }
        Check.eq("nothing was given", x.undo(), -1);
        Check.eq("no ERRORS", new SlipHeirs().gifts(), 0);
        SlipHeirs y = Check.of("step a;step b;person p 5;error e p a b 1 7 0;");
        Check.eq("who has no godchild keeps it", y.gifts(), 7);
        Check.eq("who has it", y.gift(0), 0);
        Check.family(x, "step a;step b;person p 5;error e p a b 1 7 0;");
        for (int e = 0; e < 6; e++) {
            Check.eq("gift(" + e + ") by the gifts() ahead of another FAMILY", x.gift(e), due[e]);
        }
        for (int e : beyond(6)) {
            Check.eq("gift(" + e + ") behind another FAMILY", x.gift(e), -1);
        }
        x.gifts();
        Check.eq("of that FAMILY", x.gift(0), 0);
        Check.eq("no such ERROR by it", x.gift(1), -1);
        Check.eq("again as many as may be", Check.family(x, Check.full()), 46);
        Check.eq("no such ERROR by the latest gifts()", x.gift(1), -1);
    }

    private static void promise29Together() {
        SlipHeirs x = full();
        Check.eq("together(63, 0)", x.together(63, 0), 0);
        Check.eq("together(31, 0)", x.together(31, 0), 5);
        Check.eq("together(0, 5)", x.together(0, 5), 5);
        for (int i : beyond(64)) {
            Check.eq("together(" + i + ", 0)", x.together(i, 0), -1);
        }
        for (int i : beyond(6)) {
            Check.eq("together(0, " + i + ")", x.together(0, i), -1);
        }
        Check.eq("a bit beyond in a smaller FAMILY", Check.kin().together(8, 0), -1);
        Check.eq("a STEP beyond in a smaller FAMILY", Check.kin().together(7, 3), -1);
    }

    private static void promise30Rests() {
        SlipHeirs x = full();
        Check.eq("rests(0)", x.rests(0), 0);
        Check.eq("rests(63)", x.rests(63), 1);
        for (int i : beyond(64)) {
            Check.eq("rests(" + i + ")", x.rests(i), -1);
        }
        Check.eq("a bit beyond in a smaller FAMILY", Check.kin().rests(8), -1);
        Check.eq("of no ERRORS", new SlipHeirs().rests(0), 0);
        Check.eq("of no ERRORS, a bit beyond", new SlipHeirs().rests(1), -1);
    }

    private static void promise31Cancel() {
        SlipHeirs x = Check.of("step a;step b;person p 5;error e p a b 1 7 0;error f p b a 1 7 0;error g p a b 1 7 0;error h p b a 1 7 0;"
            + "deed d a;deed i b;deed j a b;");
        int[] due = {1, 3, 23};
        Check.eq("how many", x.cancel(0, -1), 3);
        for (int k = 0; k < 3; k++) {
            Check.eq("cancel(0, " + k + ")", x.cancel(0, k), due[k]);
        }
        for (int k : beyondNone(3)) {
            Check.eq("cancel(0, " + k + ")", x.cancel(0, k), -1);
        }
        Check.eq("of b", x.cancel(1, -1), 1);
        Check.eq("of b", x.cancel(1, 0), 12);
        Check.eq("none", x.cancel(2, -1), 0);
        Check.eq("none", x.cancel(2, 0), -1);
        for (int d : beyond(3)) {
            Check.eq("cancel(" + d + ", NONE)", x.cancel(d, -1), -1);
            Check.eq("cancel(" + d + ", 0)", x.cancel(d, 0), -1);
        }
    }

    private static void promise32Under() {
        SlipHeirs x = full();
        Check.eq("under(0)", x.under(0), 1022);
        Check.eq("under(8)", x.under(8), 512);
        Check.eq("under(9)", x.under(9), 0);
        for (int i : beyond(10)) {
            Check.eq("under(" + i + ")", x.under(i), -1);
        }
    }

    private static void promise33Common() {
        SlipHeirs x = full();
        Check.eq("common(9, 9)", x.common(9, 9), 9);
        Check.eq("common(0, 9)", x.common(0, 9), 0);
        Check.eq("common(9, 0)", x.common(9, 0), 0);
        Check.eq("common(5, 6)", x.common(5, 6), 5);
        for (int i : beyond(10)) {
            Check.eq("common(" + i + ", 0)", x.common(i, 0), -1);
            Check.eq("common(0, " + i + ")", x.common(0, i), -1);
            Check.eq("common(" + i + ", " + i + ")", x.common(i, i), -1);
        }
        Check.eq("none", Check.kin().common(0, 4), -1);
    }

    private static void promise34Drawn() {
        SlipHeirs x = full();
        for (int n : beyond(61)) {
            Check.eq("drawn(" + n + ", 1)", x.drawn(n, 1), -1);
        }
        Check.eq("drawn(0, 1)", x.drawn(0, 1), -1);
        Check.eq("nothing to undo", x.undo(), -1);
        Check.eq("drawn(1, 1)", x.drawn(1, 1), 301);
        Check.eq("drawn(60, MIN)", x.drawn(60, Integer.MIN_VALUE), 361);
        Check.eq("drawn(60, MAX)", x.drawn(60, Integer.MAX_VALUE), 421);
        Check.eq("undo", x.undo(), 2);
    }

    private static void promise35Odds() {
        SlipHeirs x = full();
        Check.is("odds(5, 1, 1)", x.odds(5, 1, 1) >= 0);
        Check.is("odds(5, 40, 1)", x.odds(5, 40, 1) >= 0);
        Check.eq("odds(5, 0, 1)", x.odds(5, 0, 1), -1);
        Check.eq("odds(5, 41, 1)", x.odds(5, 41, 1), -1);
        for (int i : beyond(6)) {
            Check.eq("odds(" + i + ", 1, 1)", x.odds(i, 1, 1), -1);
        }
        for (int i : beyond(41)) {
            Check.eq("odds(0, " + i + ", 1)", x.odds(0, i, 1), -1);
        }
        SlipHeirs y = Check.of("step a;step b;person p 5;error e p a b 1 7 0;deed d a;");
        y.act(0, 0);
        Check.eq("worn out by all 40", y.odds(0, 40, 7), 40);
        Check.eq("worn out by the one", y.odds(0, 1, 7), 1);
        SlipHeirs z = Check.of("step a;step b;person p 5;error e p a b 1 7 0;deed d b;");
        Check.eq("never", z.odds(0, 40, 7), 0);
    }

    private static void promise36Chronicle() {
        SlipHeirs x = Check.kin();
        Check.put(x, "year 5;");
        for (int lives : beyond(2)) {
            Check.eq("chronicle(" + lives + ")", x.chronicle(lives), -1000);
            Check.eq("the tape stays", x.count(4), 7);
        }
        Check.eq("judged", x.chronicle(0), -1);
        Check.eq("all stays", x.now(0), 300);
        Check.eq("lived", Check.chronicle(x, "year 5;", 1), -1);
        Check.eq("the YEAR", x.now(0), 305);
        Check.eq("a FAULT at 0", Check.chronicle(x, ";", 1), -2);
        Check.eq("a FAULT at 400", Check.chronicle(x, Check.repeat(" ", 401), 1), -402);
        Check.eq("the first LINE is WRONG", Check.chronicle(x, "gives back gil;year 1;", 0), 0);
        Check.eq("the last of 40 is WRONG", Check.chronicle(x, Check.repeat("year 1;", 39) + "gives back gil;", 0), 39);
        Check.eq("the YEAR", x.now(0), 305);
        Check.eq("a FAULT behind, nothing is lived", Check.chronicle(x, "year 9;year 100;", 1), -14);
        Check.eq("the YEAR", x.now(0), 305);
        Check.eq("lived as far as it is not WRONG", Check.chronicle(x, "year 9;gives back gil;year 9;", 1), 1);
        Check.eq("the YEAR", x.now(0), 314);
    }

    private static void promise37Told() {
        SlipHeirs x = Check.kin();
        for (int what = 0; what < 4; what++) {
            Check.eq("told(" + what + ") ahead of any", x.told(what), -1);
        }
        Check.chronicle(x, "year;", 0);
        x.chronicle(2);
        Check.eq("a FAULT and -1000 tell nothing", x.told(2), -1);
        Check.chronicle(x, "old does walk;year 5;gives back gil;year 5;", 0);
        int[] due = {23, 2, 305, -8};
        for (int what = 0; what < 4; what++) {
            Check.eq("told(" + what + ")", x.told(what), due[what]);
        }
        for (int what : beyond(4)) {
            Check.eq("told(" + what + ")", x.told(what), -1);
        }
        Check.chronicle(x, "year;", 0);
        x.chronicle(2);
        Check.eq("a FAULT and -1000 leave it", x.told(0), 23);
        SlipHeirs y = Check.of("step a;step b;person p 5;error e p a b 1 0 20;deed d a;");
        Check.chronicle(y, "p does d;", 1);
        Check.eq("the fortune is more", y.told(3), 20);
        Check.chronicle(y, "", 0);
        Check.eq("an empty one", y.told(0) + y.told(1) + y.told(3), 0);
        Check.eq("the YEAR", y.told(2), 300);
    }

    private static void promise38Sentence() {
        SlipHeirs x = Check.kin();
        Check.eq("one ONE", Check.sentence(x, "number = 4"), 1);
        Check.eq("a FAULT at 0", Check.sentence(x, "or"), -1);
        Check.eq("a FAULT at 200", Check.sentence(x, "alive" + Check.repeat(" ", 196)), -201);
        Check.eq("an empty tape", x.sentence(), -1);
        Check.eq("it stays", x.said(0), 4);
        Check.eq("twenty ONES", Check.sentence(x, "clean" + Check.repeat(" or clean", 19)), 20);
    }

    private static void promise39Said() {
        SlipHeirs x = full();
        Check.eq("there is no SENTENCE", x.said(-1), -1);
        Check.eq("there is no SENTENCE", x.said(0), -1);
        Check.sentence(x, "alive or not alive");
        Check.eq("of all", x.said(-1), 10);
        Check.eq("the last one", x.said(9), 9);
        for (int k : beyondNone(10)) {
            Check.eq("said(" + k + ")", x.said(k), -1);
        }
        Check.sentence(x, "number > 8");
        Check.eq("of one", x.said(-1), 1);
        Check.eq("the last one", x.said(0), 9);
        Check.eq("one beyond", x.said(1), -1);
        Check.sentence(x, "number > 9");
        Check.eq("of nobody", x.said(-1), 0);
        Check.eq("of nobody", x.said(0), -1);
        x.die(9);
        Check.sentence(x, "not alive");
        Check.eq("of a dead one", x.said(0), 9);
    }

    private static void promise40Image() {
        SlipHeirs x = Check.kin();
        for (int k : beyond(2)) {
            Check.isNot("image(" + k + ")", x.image(k));
        }
        Check.isNot("nothing is kept in 0", x.restore(0));
        Check.isNot("nothing is kept in 1", x.restore(1));
        Check.is("image(0)", x.image(0));
        Check.isNot("nothing is kept in 1", x.restore(1));
        Check.is("image(1)", x.image(1));
        Check.is("restore(1)", x.restore(1));
        Check.is("restore(0)", x.restore(0));
        Check.is("of a new object", new SlipHeirs().image(1));
    }

    private static void promise41Restore() {
        SlipHeirs x = Check.kin();
        Check.isNot("nothing is kept", x.restore(0));
        x.years(5);
        for (int k : beyond(2)) {
            Check.isNot("restore(" + k + ")", x.restore(k));
        }
        Check.eq("false leaves what can be undone", x.undo(), 0);
        x.image(1);
        x.years(5);
        Check.isNot("nothing is kept in 0", x.restore(0));
        Check.eq("the YEAR stays", x.now(0), 305);
        x.feed(1, 2, 3, 4, 5);
        Check.is("restore(1)", x.restore(1));
        Check.eq("the YEAR", x.now(0), 300);
        Check.eq("nothing can be undone", x.undo(), -1);
        Check.eq("the tape stays", x.count(4), 20);
        SlipHeirs y = new SlipHeirs();
        y.image(0);
        Check.family(y, Check.KIN);
        y.restore(0);
        Check.eq("the empty FAMILY again", y.count(1), 0);
    }

    private static void promise42Count() {
        SlipHeirs x = full();
        for (int what : beyond(5)) {
            Check.eq("count(" + what + ")", x.count(what), -1);
        }
        for (int i = 0; i < 48; i++) {
            x.feed(0, 0, 0, 0, 0);
        }
        Check.eq("count(4) of a full tape", x.count(4), 940);
        x.end(0);
        Check.eq("count(4) of an empty tape", x.count(4), 0);
    }
}
