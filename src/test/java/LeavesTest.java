import java.util.function.ToIntFunction;

/** What each call leaves as it was: refused ones, and those that only ask. */
public final class LeavesTest {
    /** Nine bytes that are no text of any sort. */
    private static final String REST = "(((,,,)))";

    public static void main(String[] args) {
        refusedActs();
        refusedTexts();
        refusedImages();
        asked();
        tellsOfItsOwn();
        toldLastStays();
        tapeOfEachCall();
        Check.close("LeavesTest");
    }

    /** A life half lived, with something told last by each call that tells, and a tape. */
    private static SlipHeirs lived(String tape) {
        SlipHeirs x = Check.kin();
        x.act(0, 1);
        x.years(5);
        x.die(3);
        Check.steps(x, 1, 0);
        x.plan(0);
        x.worn(0);
        x.gifts();
        Check.sentence(x, "alive and not clean");
        x.image(1);
        Check.chronicle(x, "ann does walk;gives back gil;", 0);
        Check.put(x, tape);
        return x;
    }

    /** All that can be asked without asking for a new answer, and how many acts can be undone is asked last. */
    private static String picture(SlipHeirs x) {
        StringBuilder text = new StringBuilder();
        for (int what = 0; what < 8; what++) {
            text.append(x.now(what)).append(' ');
            for (int p = 0; p < x.count(1); p++) {
                text.append(x.person(p, what)).append(' ');
            }
            for (int e = 0; e < x.count(2); e++) {
                text.append(x.error(e, what)).append(' ');
            }
        }
        for (int i = -1; i < 3; i++) {
            text.append(x.came(i)).append(' ').append(x.planned(i)).append(' ').append(x.gift(i)).append(' ').append(x.said(i)).append(' ');
            text.append(x.told(i + 1)).append(' ').append(x.count(i + 1)).append(' ').append(x.deed(0, i)).append(' ').append(x.deed(2, i)).append(' ');
        }
        return text.append(x.wornBy()).append(' ').append(x.wornLoss()).toString();
    }

    private static void leaves(String call, String tape, int due, ToIntFunction<SlipHeirs> act, boolean tapeStays) {
        SlipHeirs x = lived(tape);
        String ahead = picture(x);
        Check.eq(call, act.applyAsInt(x), due);
        String behind = picture(x);
        Check.is(call + " leaves all as it was:\n" + ahead + "\n" + behind, behind.equals(ahead));
        Check.eq("tape behind " + call, x.count(4), tapeStays ? tape.length() : 0);
        Check.eq("what can be undone behind " + call, x.undo(), 2);
        Check.eq("the death was the latest behind " + call, x.now(2), 0);
    }

    private static void leavesAll(String call, int due, ToIntFunction<SlipHeirs> act) {
        leaves(call, REST, due, act, true);
    }

    private static void refusedActs() {
        leavesAll("act of a dead one", 1, x -> x.act(3, 0));
        leavesAll("act of nobody", -1, x -> x.act(5, 0));
        leavesAll("act of no deed", -1, x -> x.act(0, 3));
        leavesAll("die of a dead one", 1, x -> x.die(3));
        leavesAll("die of nobody", -1, x -> x.die(5));
        leavesAll("give of what is worn out", 1, x -> x.give(1, 4));
        leavesAll("give to a dead one", 2, x -> x.give(0, 3));
        leavesAll("give of too much wear", 3, x -> x.give(2, 4));
        leavesAll("give to no godchild", 4, x -> x.give(0, 1));
        leavesAll("give of no error", -1, x -> x.give(3, 4));
        leavesAll("give to nobody", -1, x -> x.give(0, 5));
        leavesAll("years(0)", -1, x -> x.years(0));
        leavesAll("years(100)", -1, x -> x.years(100));
        leavesAll("drawn(0)", -1, x -> x.drawn(0, 5));
        leavesAll("drawn(61)", -1, x -> x.drawn(61, 5));
        leavesAll("chronicle(2)", -1000, x -> x.chronicle(2));
        leavesAll("chronicle(-1)", -1000, x -> x.chronicle(-1));
        leavesAll("person of nobody", 1, x -> Check.noPerson(x, 5, 0) ? 1 : 0);
        leavesAll("loss of a dead one", 1, x -> Check.noLoss(x, 3, 0) ? 1 : 0);
        leavesAll("end(-1)", 0, x -> x.end(-1) ? 1 : 0);
        leavesAll("end beyond", 0, x -> x.end(REST.length() + 1) ? 1 : 0);
    }

    private static void refusedTexts() {
        leaves("family of a fault", REST, -1, SlipHeirs::family, false);
        leaves("family of a late fault", "step a;person p 5;step 6;", -24, SlipHeirs::family, false);
        leaves("chronicle of a fault", REST, -2, x -> x.chronicle(1), false);
        leaves("chronicle of a late fault", "old dies;year 5;year 100;", -23, x -> x.chronicle(1), false);
        leaves("sentence of a late fault", "alive or has none", -14, SlipHeirs::sentence, false);
        leaves("sentence of no bytes", "", -1, SlipHeirs::sentence, false);
        leaves("plan of too many", REST, -1, x -> x.plan(0), false);
        leaves("plan of nobody", "\1", -1, x -> x.plan(5), false);
        leaves("plan of a dead one", "\1", -1, x -> x.plan(3), false);
        leaves("plan without a way", "\2", 0, x -> x.plan(1), false);
        leaves("who of too many", REST, -1, x -> x.who(0), false);
        leaves("who of no deed", "\1", -1, x -> x.who(3), false);
    }

    private static void refusedImages() {
        leavesAll("image(2)", 0, x -> x.image(2) ? 1 : 0);
        leavesAll("image(-1)", 0, x -> x.image(-1) ? 1 : 0);
        leavesAll("restore(2)", 0, x -> x.restore(2) ? 1 : 0);
        leavesAll("restore(-1)", 0, x -> x.restore(-1) ? 1 : 0);
        leavesAll("restore of what was not kept", 0, x -> x.restore(0) ? 1 : 0);
    }

    private static void asked() {
        leavesAll("image(0)", 1, x -> x.image(0) ? 1 : 0);
        leavesAll("image(1)", 1, x -> x.image(1) ? 1 : 0);
        leavesAll("comes", 2, x -> x.comes(1, 0, -1) + x.comes(0, 1, 0));
        leavesAll("right", 28 - 8, x -> x.right(0));
        leavesAll("loss", 4, x -> x.loss(0, 0));
        leavesAll("heir", 2, x -> x.heir(0));
        leavesAll("line", 10, x -> x.line(0, 10));
        leavesAll("worn of none", -1, x -> x.worn(3));
        leavesAll("together", 2, x -> x.together(3, 0));
        leavesAll("rests", 1, x -> x.rests(7));
        leavesAll("cancel", 0, x -> x.cancel(0, -1));
        leavesAll("under", 14, x -> x.under(0));
        leavesAll("common", 0, x -> x.common(2, 3));
        leavesAll("odds of one that is worn out", 40, x -> x.odds(1, 40, 5));
        leavesAll("fault", 0, SlipHeirs::fault);
        leaves("who", "\0\2", 28 - 8, x -> x.who(0), false);
    }

    /** These change what they tell, and nothing else. */
    private static void tellsOfItsOwn() {
        SlipHeirs x = lived(REST);
        x.act(0, 0);
        String ahead = picture(x);
        x.worn(2);
        x.gifts();
        Check.steps(x, 0);
        x.plan(2);
        x.chronicle(0);
        Check.sentence(x, "clean");
        x.undo();
        x.act(0, 0);
        Check.isNot("something is told anew", picture(x).equals(ahead));
        Check.eq("the year", x.now(0), 305);
        Check.eq("done", x.now(5), 2);
        Check.eq("four can be undone", x.undo(), 3);
    }

    /** What plan(), worn(), gifts() and chronicle() told last; those that ask for it look at nothing that is so by now. */
    private static String toldLast(SlipHeirs x) {
        StringBuilder text = new StringBuilder();
        for (int i = -1; i < 7; i++) {
            text.append(x.planned(i)).append(' ').append(x.gift(i)).append(' ').append(x.told(i)).append(' ');
        }
        return text.append(x.wornBy()).append(' ').append(x.wornLoss()).toString();
    }

    private static void stays(String call, String tape, ToIntFunction<SlipHeirs> act) {
        SlipHeirs x = lived(tape);
        String ahead = toldLast(x);
        act.applyAsInt(x);
        String behind = toldLast(x);
        Check.is("what was told last stays behind " + call + ":\n" + ahead + "\n" + behind, behind.equals(ahead));
    }

    private static void toldLastStays() {
        stays("an empty FAMILY", "", SlipHeirs::family);
        stays("a FAMILY of one PERSON", "person p 5;", SlipHeirs::family);
        stays("a FAMILY of one ERROR", "step a;step b;person p 5;error e p a b 1 7 0;deed d a;", SlipHeirs::family);
        stays("another FAMILY's acts", "step a;step b;person p 5;error e p a b 1 7 0;deed d a;", x -> x.family() + x.act(0, 0) + x.die(0));
        stays("undoing", "", x -> x.undo() + x.undo() + x.undo());
        stays("restoring", "", x -> x.restore(1) ? 1 : 0);
        stays("restoring behind an empty FAMILY", "", x -> x.family() + (x.restore(1) ? 1 : 0));
        stays("deaths", "", x -> x.die(0) + x.die(1) + x.die(2) + x.die(4));
        stays("YEARS DRAWN", "", x -> x.drawn(60, 5));
    }

    private static void tape(String call, int left, ToIntFunction<SlipHeirs> act) {
        SlipHeirs x = lived(REST);
        act.applyAsInt(x);
        Check.eq("tape behind " + call, x.count(4), left);
    }

    private static void tapeOfEachCall() {
        tape("family", 0, SlipHeirs::family);
        tape("plan", 0, x -> x.plan(0));
        tape("who", 0, x -> x.who(0));
        tape("chronicle(0)", 0, x -> x.chronicle(0));
        tape("chronicle(1)", 0, x -> x.chronicle(1));
        tape("sentence", 0, SlipHeirs::sentence);
        tape("act", 9, x -> x.act(0, 0));
        tape("die", 9, x -> x.die(0));
        tape("give", 9, x -> x.give(0, 4));
        tape("years", 9, x -> x.years(5));
        tape("drawn", 9, x -> x.drawn(5, 5));
        tape("undo", 9, SlipHeirs::undo);
        tape("restore", 9, x -> x.restore(1) ? 1 : 0);
        tape("worn", 9, x -> x.worn(0));
        tape("gifts", 9, SlipHeirs::gifts);
        tape("feed", 29, x -> x.feed(0, 0, 0, 0, 0));
        tape("end", 4, x -> x.end(4) ? 1 : 0);
    }
}
