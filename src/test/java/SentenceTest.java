/** Promises 38 and 39: sentence, said. */
public final class SentenceTest {
    public static void main(String[] args) {
        faults();
        tooMany();
        tooLong();
        meanings();
        saidNow();
        wrongOnes();
        Check.close("SentenceTest");
    }

    /** The fault stands where the sign ! stands in the text. */
    private static void at(String marked, int kind) {
        int place = marked.indexOf('!');
        faulty(marked.substring(0, place) + marked.substring(place + 1), place, kind);
    }

    private static void faulty(String text, int place, int kind) {
        SlipHeirs x = Check.kin();
        Check.sentence(x, "number = 3");
        Check.eq("sentence of <" + text + ">", Check.sentence(x, text), -1 - place);
        Check.eq("fault of <" + text + ">", x.fault(), kind);
        Check.eq("the tape is empty", x.count(4), 0);
        Check.eq("it stays", x.said(0) * 10 + x.said(-1), 31);
    }

    private static void faults() {
        at("!", 1);
        at("  !", 1);
        at("!or", 1);
        at("!and alive", 1);
        at("!old", 1);
        at("!5", 1);
        at("!)", 1);
        at("!=", 1);
        at("!;", 1);
        at("!of", 1);
        at("!step", 1);
        at("alive!;", 1);
        at("alive !alive", 1);
        at("alive!)", 1);
        at("alive or!", 1);
        at("alive or !or alive", 1);
        at("alive and !or alive", 1);
        at("(alive!", 1);
        at("(!)", 1);
        at("(alive!;", 1);
        at("(alive))".replace("))", ")!)"), 1);
        at("not!", 1);
        at("not !and alive", 1);
        at("has!", 1);
        at("has !has", 1);
        at("has !5", 1);
        at("under!", 1);
        at("under !(old)", 1);
        at("errors!", 1);
        at("errors !5", 1);
        at("errors =!", 1);
        at("errors = !=", 1);
        at("errors = !old", 1);
        at("errors = !1000", 1);
        at("errors !; 5", 1);
        at("errors !( 5", 1);
        at("born !old", 1);
        at("has !old", 3);
        at("has !none", 3);
        at("under !slip", 3);
        at("under !walk", 3);
        at("under !none", 3);
        at("alive and has !none or", 3);
    }

    private static void tooMany() {
        String twenty = "alive" + Check.repeat(" or alive", 19);
        SlipHeirs x = Check.kin();
        Check.eq("twenty ones", Check.sentence(x, twenty), 20);
        Check.eq("said", x.said(-1), 5);
        at(twenty + " or !alive", 4);
        at(twenty + " and !alive", 4);
        at(twenty + " or !(alive)", 4);
        at(twenty + " or !not", 4);
        at(twenty + " or !has none", 4);
        at(twenty + " or !or", 1);
        at(twenty + " or !none", 1);
        Check.eq("eight within", Check.sentence(x, Check.repeat("not ", 7) + "alive"), 8);
        Check.eq("said", x.said(-1), 0);
        Check.eq("eight within", Check.sentence(x, Check.repeat("(", 7) + "alive" + Check.repeat(")", 7)), 8);
        Check.eq("said", x.said(-1), 5);
        at(Check.repeat("not ", 8) + "!alive", 4);
        at(Check.repeat("not ", 8) + "!not alive", 4);
        at(Check.repeat("not ", 8) + "!old", 1);
        at(Check.repeat("(", 8) + "!alive" + Check.repeat(")", 8), 4);
        at("(not (not (not (not !(not alive", 4);
        at("(not (not (not (alive and not !(alive", 4);
        Check.eq("beside one another", Check.sentence(x, "(((((((alive or alive) and alive) or not alive))))) and not not not not alive"), 17);
        Check.eq("said", x.said(-1), 5);
        at(Check.repeat("not alive or ", 10) + "!alive", 4);
    }

    private static void tooLong() {
        SlipHeirs x = Check.kin();
        Check.eq("200 bytes", Check.sentence(x, "alive" + Check.repeat(" ", 195)), 1);
        faulty("alive" + Check.repeat(" ", 196), 200, 1);
        faulty("alive" + Check.repeat(" ", 195) + "or alive", 200, 1);
        faulty("alive" + Check.repeat(" ", 194) + "or alive", 200, 1);
        faulty("alive" + Check.repeat(" ", 194) + "alive", 199, 1);
        faulty("has" + Check.repeat(" ", 196) + "slip", 200, 1);
        faulty("has" + Check.repeat(" ", 196) + "slap", 199, 3);
        faulty(Check.repeat(" ", 201), 200, 1);
        faulty(Check.repeat(" ", 200), 200, 1);
    }

    private static void said(SlipHeirs x, String text, int ones, int... due) {
        Check.eq("sentence <" + text + ">", Check.sentence(x, text), ones);
        Check.eq("fault of <" + text + ">", x.fault(), 0);
        Check.eq("said(NONE) of <" + text + ">", x.said(-1), due.length);
        for (int k = 0; k < due.length; k++) {
            Check.eq("said(" + k + ") of <" + text + ">", x.said(k), due[k]);
        }
        Check.eq("said(" + due.length + ") of <" + text + ">", x.said(due.length), -1);
    }

    private static void meanings() {
        SlipHeirs x = Check.kin();
        x.act(0, 1);
        x.act(1, 0);
        x.die(2);
        said(x, "alive", 1, 0, 1, 3, 4);
        said(x, "not alive", 2, 2);
        said(x, "clean", 1, 2, 3, 4);
        said(x, "has slip", 1, 0);
        said(x, "has turn", 1);
        said(x, "has back", 1, 1);
        said(x, "under old", 1, 1, 2, 3);
        said(x, "under ann", 1, 3);
        said(x, "under gil", 1);
        said(x, "errors=1", 1, 0, 1);
        said(x, "errors<1", 1, 2, 3, 4);
        said(x, "errors>0", 1, 0, 1);
        said(x, "errors>1", 1);
        said(x, "born < 150", 1, 0, 2);
        said(x, "born=150", 1, 1);
        said(x, "born\n>\n150", 1, 3, 4);
        said(x, "made = 4", 1, 0);
        said(x, "made=001", 1, 1);
        said(x, "made>0", 1, 0, 1);
        said(x, "made < 1", 1, 2, 3, 4);
        said(x, "number > 2", 1, 3, 4);
        said(x, "number<999", 1, 0, 1, 2, 3, 4);
        said(x, "number=0", 1, 0);
        said(x, "number = 0 or number = 1 and number = 2", 3, 0);
        said(x, "(number = 0 or number = 1) and number = 1", 4, 1);
        said(x, "number = 2 and number = 1 or number = 0", 3, 0);
        said(x, "number = 1 and (number = 1 or number = 0)", 4, 1);
        said(x, "not number = 0 and number < 2", 3, 1);
        said(x, "not (number = 0 and number < 2)", 4, 1, 2, 3, 4);
        said(x, "not not number = 3", 3, 3);
        said(x, "not number = 3 or number = 3", 3, 0, 1, 2, 3, 4);
        said(x, "(((number = 3)))", 4, 3);
        said(x, "under old and not clean or not under old and not alive", 7, 1);
    }

    private static void saidNow() {
        SlipHeirs x = Check.kin();
        Check.sentence(x, "alive and errors > 1");
        Check.eq("said(0)", x.said(0), 0);
        x.die(0);
        Check.eq("said(0) of the heir", x.said(0), 2);
        x.undo();
        Check.eq("said(0) undone", x.said(0), 0);
        x.act(0, 1);
        Check.eq("said(NONE)", x.said(-1), 0);
        Check.eq("said(0)", x.said(0), -1);
    }

    private static void wrongOnes() {
        SlipHeirs x = Check.kin();
        Check.eq("no sentence", x.said(-1), -1);
        Check.eq("no sentence", x.said(0), -1);
        Check.eq("an empty text is no sentence", x.sentence(), -1);
        Check.eq("no sentence", x.said(-1), -1);
        Check.sentence(x, "alive");
        int[] wild = {-2, 5, 10, Integer.MIN_VALUE, Integer.MAX_VALUE};
        for (int k : wild) {
            Check.eq("said(" + k + ")", x.said(k), -1);
        }
        SlipHeirs y = new SlipHeirs();
        Check.eq("of no family", Check.sentence(y, "alive or not alive"), 3);
        Check.eq("said of none", y.said(-1), 0);
        Check.eq("said of none", y.said(0), -1);
    }
}
