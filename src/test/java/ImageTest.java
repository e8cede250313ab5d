/** Promises 40 and 41: image, restore. */
public final class ImageTest {
    public static void main(String[] args) {
        places();
        allIsAsItWas();
        whatStays();
        Check.close("ImageTest");
    }

    private static void places() {
        SlipHeirs x = Check.kin();
        int[] wild = {-1, 2, 3, Integer.MIN_VALUE, Integer.MAX_VALUE};
        for (int k : wild) {
            Check.isNot("image(" + k + ")", x.image(k));
            Check.isNot("restore(" + k + ")", x.restore(k));
        }
        Check.isNot("restore(0), nothing kept", x.restore(0));
        Check.isNot("restore(1), nothing kept", x.restore(1));
        Check.is("image(1)", x.image(1));
        Check.isNot("restore(0), nothing kept", x.restore(0));
        Check.is("restore(1)", x.restore(1));
        x.years(5);
        Check.is("image(0)", x.image(0));
        x.years(5);
        Check.is("restore(1)", x.restore(1));
        Check.eq("the year", x.now(0), 300);
        Check.is("restore(0)", x.restore(0));
        Check.eq("the year", x.now(0), 305);
        Check.is("restore(0) again", x.restore(0));
        x.years(7);
        Check.is("image(0) again", x.image(0));
        x.years(7);
        x.restore(0);
        Check.eq("the year", x.now(0), 312);
    }

    private static void allIsAsItWas() {
        SlipHeirs x = Check.kin();
        x.act(0, 1);
        x.give(0, 4);
        x.years(9);
        x.die(3);
        Check.sentence(x, "alive and errors > 0");
        x.image(0);
        Check.family(x, "step a;step b;person p 5;person q 6 of p;care p 7;god q p;error e p a b 5 5 5;deed d a;");
        x.act(0, 0);
        x.image(1);
        Check.is("restore(0)", x.restore(0));
        int[] now = {309, 984, 8, 2, 0, 1, 0, 300};
        for (int what = 0; what < now.length; what++) {
            Check.eq("now(" + what + ")", x.now(what), now[what]);
        }
        int[] counts = {3, 5, 3, 3};
        for (int what = 0; what < counts.length; what++) {
            Check.eq("count(" + what + ")", x.count(what), counts[what]);
        }
        Check.eq("care", x.person(1, 4), 2);
        Check.eq("godchild", x.person(1, 5), 4);
        Check.eq("parent", x.person(1, 1), 0);
        Check.eq("born", x.person(4, 0), 250);
        Check.eq("made", x.person(0, 7), 4);
        Check.eq("came", x.came(-1) * 100 + x.came(0) * 10 + x.came(1), 222);
        int[] error = {4, 0, 1, 1, 5, 1, 2, 0};
        for (int what = 0; what < error.length; what++) {
            Check.eq("error(0, " + what + ")", x.error(0, what), error[what]);
        }
        Check.eq("deed", x.deed(1, -1) * 100 + x.deed(1, 0) * 10 + x.deed(0, 1), 202);
        Check.eq("the sentence", x.said(-1), 2);
        Check.eq("said", x.said(0) * 10 + x.said(1), 14);
        Check.eq("names are known", Check.sentence(x, "under old and has back"), 2);
        Check.eq("said", x.said(0), 1);
        Check.eq("nothing can be undone", x.undo(), -1);
        x.restore(1);
        Check.eq("persons", x.count(1), 2);
        Check.eq("no sentence", x.said(-1), -1);
        Check.eq("fortune", x.now(1), 1000 - 35 + 5);
        Check.eq("came", x.came(-1) * 10 + x.came(0), 11);
        Check.eq("unknown then", Check.sentence(x, "under old"), -7);
    }

    private static void whatStays() {
        SlipHeirs x = Check.kin();
        x.image(0);
        x.act(0, 1);
        Check.steps(x, 1, 0);
        x.plan(0);
        x.worn(0);
        x.gifts();
        Check.chronicle(x, "ann dies;ann dies;", 0);
        Check.sentence(x, "has none");
        x.feed(1, 2, 3, 4, 5);
        x.restore(0);
        Check.eq("the tape", x.count(4), 20);
        Check.eq("the fault", x.fault(), 3);
        Check.eq("the plan", x.planned(1), 0);
        Check.eq("worn by", x.wornBy(), 0);
        Check.eq("worn loss", x.wornLoss(), 4);
        Check.eq("the gift", x.gift(0), 4);
        Check.eq("told", x.told(0), 11);
        Check.eq("nothing can be undone", x.undo(), -1);
        Check.eq("none came", x.came(-1), -1);
        x.end(0);
        Check.eq("the image stays", x.restore(0) ? 1 : 0, 1);
        Check.family(x, "step a;");
        Check.eq("behind a new family, too", x.restore(0) ? 1 : 0, 1);
        Check.eq("persons", x.count(1), 5);
    }
}
