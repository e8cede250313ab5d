/** Promises 4 and 5: family and fault, with all that a FAMILY's text may have wrong. */
public final class FamilyTest {
    private static final String STEPS = "step a;step b;";
    private static final String BOTH = STEPS + "person p 1;person q 2;";

    public static void main(String[] args) {
        fine();
        tokens();
        cannotCome();
        reservedWords();
        numbers();
        names();
        tooMany();
        theLeastOfOneToken();
        tooLong();
        staysAsItWas();
        Check.close("FamilyTest");
    }

    private static void fine(String text, int lines) {
        SlipHeirs x = new SlipHeirs();
        Check.eq("family of <" + text + ">", Check.family(x, text), lines);
        Check.eq("fault of <" + text + ">", x.fault(), 0);
    }

    private static void faulty(String text, int place, int kind) {
        SlipHeirs x = new SlipHeirs();
        Check.eq("family of <" + text + ">", Check.family(x, text), -1 - place);
        Check.eq("fault of <" + text + ">", x.fault(), kind);
        Check.eq("tape behind <" + text + ">", x.count(4), 0);
        Check.eq("persons behind <" + text + ">", x.count(1), 0);
    }

    /** The fault stands where the sign ! stands in the text. */
    private static void at(String marked, int kind) {
        int place = marked.indexOf('!');
        faulty(marked.substring(0, place) + marked.substring(place + 1), place, kind);
    }

    private static void fine() {
        fine("", 0);
        fine(" \n \n", 0);
        fine(Check.KIN, 18);
        fine("step a;", 1);
        fine("\nstep\na\n;\n", 1);
        fine("step abcdefg;", 1);
        fine("person p 0;person q 300 of p;", 2);
        fine("person p 000;person q 001 of p;", 2);
        fine("person p 1;person q 2;god p q;god q p;", 4);
        fine("person p 1;person q 2;person r 3;god p r;god q r;", 5);
        fine("person p 1;care p 0;", 2);
        fine("person p 1;care p 9;", 2);
        fine(BOTH + "error e p a b 1 0 0;error f q b a 20 20 20;", 6);
        fine(STEPS + "deed d" + Check.repeat(" a", 12) + ";", 3);
        fine("step a;step b;step c;step d;step e;step f;", 6);
        fine(STEPS + "deed c a;deed d a;deed e a;deed f a;", 6);
    }

    private static void tokens() {
        at("!abcdefgh a;", 1);
        at("step !abcdefgh;", 1);
        at("step !a1;", 1);
        at("step !1a;", 1);
        at("person p !1234;", 1);
        at("person p !12a;", 1);
        at("step !A;", 1);
        at("step a!A;", 1);
        at("step !_;", 1);
        at("step a!.", 1);
        at("step a!,", 1);
        at("step!\ta;", 1);
        at("step!\r\na;", 1);
        at("step !\u00e4;", 1);
        at("!\u00ff", 1);
        at("!\u0000", 1);
        at("!:", 1);
        at("!?", 1);
        at("!/", 1);
        at("step !`;", 1);
        at("step !{;", 1);
    }

    private static void cannotCome() {
        at("!;", 1);
        at("!5;", 1);
        at("!a;", 1);
        at("!<", 1);
        at("step!", 1);
        at("step !", 1);
        at("step a!", 1);
        at("step a  !", 1);
        at("step !;", 1);
        at("step !5;", 1);
        at("step !(;", 1);
        at("step a !b;", 1);
        at("step a !step b;", 1);
        at("step a;!;", 1);
        at("person p!;", 1);
        at("person p !x;", 1);
        at("person p 5 !5;", 1);
        at("person p 5 !p;", 1);
        at("person p 5 of!;", 1);
        at("person p 5 of !5;", 1);
        at("person p 5;person q 6 of p !of p;", 1);
        at("person p 5;god p!;", 1);
        at("person p 5;god !5 p;", 1);
        at(BOTH + "god p q !p;", 1);
        at("person p 5;care p!;", 1);
        at("person p 5;care p !p;", 1);
        at("person p 5;care p 5 !5;", 1);
        at("person p 5;care !5 p;", 1);
        at(BOTH + "error e p a b 1 1!;", 1);
        at(BOTH + "error e p a b 1 1 1 !1;", 1);
        at(BOTH + "error e p a !1 1 1;", 1);
        at(BOTH + "error e !1;", 1);
        at(STEPS + "deed d!;", 1);
        at(STEPS + "deed d a !5;", 1);
        at(STEPS + "deed d a !step c;", 1);
        at(STEPS + "deed d a b!", 1);
        at("step a!=", 1);
    }

    private static void reservedWords() {
        String words = "step person of god care error deed does dies gives year or and not alive clean has under"
            + " errors born made number";
        for (String word : words.split(" ")) {
            at("step !" + word + ";", 1);
            at(BOTH + "deed d a !" + word + ";", 1);
            at(BOTH + "care !" + word + " 1;", 1);
        }
        String others = "steps persons did die died give given years nor ands error" + "z aliv cleans had unde bear make numbers ofs";
        for (String word : others.split(" ")) {
            fine("step " + word + ";", 1);
        }
    }

    private static void numbers() {
        at("person p !301;", 2);
        at("person p !999;", 2);
        at("person p 1;care p !10;", 2);
        at("person p 1;care p !999;", 2);
        at(BOTH + "error e p a b !0 1 1;", 2);
        at(BOTH + "error e p a b !21 1 1;", 2);
        at(BOTH + "error e p a b 1 !21 1;", 2);
        at(BOTH + "error e p a b 1 1 !21;", 2);
        at(BOTH + "error e p a b !21 21 1;", 2);
        at("person p !301 301;", 2);
    }

    private static void names() {
        at("step a;step !a;", 3);
        at("step a;person !a 5;", 3);
        at("person a 5;step !a;", 3);
        at(BOTH + "error !p p a b 1 1 1;", 3);
        at(BOTH + "error e p a b 1 1 1;deed !e a;", 3);
        at(BOTH + "deed d a;deed !d a;", 3);
        at("person p 5 of !q;", 3);
        at("person p 5 of !p;", 3);
        at("step a;person p 5 of !a;", 3);
        at("person p 5;person q 5 of !p;", 3);
        at("person p 6;person q 5 of !p;", 3);
        at("person q 6 of !p;person p 5;", 3);
        at("god !p q;", 3);
        at(BOTH + "god p !r;", 3);
        at(BOTH + "god p !p;", 3);
        at(BOTH + "god p !a;", 3);
        at(BOTH + "god !a p;", 3);
        at(BOTH + "god p q;god !p q;", 3);
        at(BOTH + "god p q;god !p p;", 3);
        at(BOTH + "care p 1;care !p 1;", 3);
        at(BOTH + "care !a 1;", 3);
        at("care !p 1;", 3);
        at(BOTH + "error e !a a b 1 1 1;", 3);
        at(BOTH + "error e !e a b 1 1 1;", 3);
        at(BOTH + "error e p !c b 1 1 1;", 3);
        at(BOTH + "error e p a !c 1 1 1;", 3);
        at(BOTH + "error e p a !a 1 1 1;", 3);
        at(BOTH + "error e p a !p 1 1 1;", 3);
        at(STEPS + "deed d !d;", 3);
        at(STEPS + "deed d a !c;", 3);
        at(STEPS + "deed d !x;step x;", 3);
    }

    private static void tooMany() {
        at("step a;step b;step c;step d;step e;step f;!step g;", 4);
        at("step a;step b;step c;step d;step e;step f;!step a;", 4);
        at("step a;step b;step c;step d;step e;step f;!step", 4);
        StringBuilder people = new StringBuilder();
        for (char c = 'a'; c < 'k'; c++) {
            people.append("person ").append(c).append(" 1;");
        }
        fine(people.toString(), 10);
        at(people + "!person k 1;", 4);
        StringBuilder errors = new StringBuilder(BOTH);
        for (char c = 'r'; c < 'x'; c++) {
            errors.append("error ").append(c).append(" p a b 1 1 1;");
        }
        fine(errors.toString(), 10);
        at(errors + "!error x p a b 1 1 1;", 4);
        at(STEPS + "deed c a;deed d a;deed e a;deed f a;!deed g a;", 4);
        at(STEPS + "deed d" + Check.repeat(" a", 12) + " !a;", 4);
        at(STEPS + "deed d" + Check.repeat(" a", 12) + " !b a x;", 4);
    }

    private static void theLeastOfOneToken() {
        at(STEPS + "deed d" + Check.repeat(" a", 12) + " !x;", 3);
        at(STEPS + "deed d" + Check.repeat(" a", 12) + " !5;", 1);
        at(STEPS + "deed d" + Check.repeat(" a", 12) + " !of;", 1);
        at(STEPS + "deed d" + Check.repeat(" a", 12) + "!", 1);
    }

    private static void tooLong() {
        String line = "step a;";
        fine(line + Check.repeat(" ", 893), 1);
        faulty(line + Check.repeat(" ", 894), 900, 1);
        faulty(line + Check.repeat("\n", 933), 900, 1);
        faulty(line + Check.repeat(" ", 893) + "step b;", 900, 1);
        // Tokens that begin ahead of byte 900 are read whole.
        faulty(line + Check.repeat(" ", 890) + "ste", 897, 1);
        faulty(line + Check.repeat(" ", 891) + "ste", 898, 1);
        faulty(line + Check.repeat(" ", 889) + "step b;", 900, 1);
        faulty(line + Check.repeat(" ", 892) + "step b;", 900, 1);
        faulty(line + Check.repeat(" ", 892) + "stepping b;", 899, 1);
        faulty(line + Check.repeat(" ", 887) + "step a", 899, 3);
        faulty(line + Check.repeat(" ", 887) + "step aa;", 900, 1);
        faulty(line + Check.repeat(" ", 885) + "person p 301;", 900, 1);
        faulty(line + Check.repeat(" ", 883) + "person p 301;", 899, 2);
        faulty("step !" + Check.repeat(" ", 900), 5, 1);
        faulty(Check.repeat(" ", 940), 900, 1);
        fine(Check.repeat(" ", 900), 0);
    }

    private static void staysAsItWas() {
        SlipHeirs x = Check.kin();
        x.act(0, 1);
        Check.sentence(x, "alive");
        Check.eq("wrong family", Check.family(x, "step a;step a;"), -13);
        Check.eq("fault", x.fault(), 3);
        Check.eq("persons stay", x.count(1), 5);
        Check.eq("fortune stays", x.now(1), 984);
        Check.eq("sentence stays", x.said(-1), 5);
        Check.eq("what was done can be undone", x.undo(), 0);
        x.die(0);
        x.act(1, 0);
        x.years(5);
        Check.eq("new family", Check.family(x, "step a;person p 5;"), 2);
        Check.eq("fault", x.fault(), 0);
        Check.eq("nothing can be undone", x.undo(), -1);
        Check.eq("no sentence", x.said(-1), -1);
        int[] fresh = {300, 1000, 0, 0, 0, 0, 0, -1};
        for (int what = 0; what < fresh.length; what++) {
            Check.eq("now(" + what + ") of a new family", x.now(what), fresh[what]);
        }
        Check.eq("none came", x.came(-1), -1);
        Check.eq("steps", x.count(0), 1);
        Check.eq("persons", x.count(1), 1);
        Check.eq("errors", x.count(2), 0);
        Check.eq("deeds", x.count(3), 0);
        Check.eq("care without", x.person(0, 4), 1);
        Check.eq("godchild without", x.person(0, 5), -1);
        Check.eq("an empty text is an empty family", x.family(), 0);
        Check.eq("no persons", x.count(1), 0);
        x.feed(0x73746570, 0x20613b73, 0, 0, 0);
        Check.eq("another lives", x.chronicle(7), -1000);
        Check.eq("leaves no fault", x.fault(), 0);
        x.family();
        Check.eq("fault of bytes 0", x.fault(), 1);
        Check.eq("another lives", x.chronicle(-1), -1000);
        Check.eq("leaves the fault", x.fault(), 1);
        x.chronicle(0);
        Check.eq("a chronicle has none", x.fault(), 0);
        Check.sentence(x, "alive or");
        Check.eq("a sentence has one", x.fault(), 1);
        Check.sentence(x, "alive");
        Check.eq("a sentence has none", x.fault(), 0);
    }
}
