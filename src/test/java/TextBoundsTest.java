/** 'Terms', sentence by sentence: each bound of a text, at it and one beyond it. */
public final class TextBoundsTest {
    private static final String STEPS = "step a;step b;";
    private static final String TWO = STEPS + "person p 1;person q 2;";
    /** What the chronicles and sentences here speak of. */
    private static final String KIN = TWO + "person abcdefg 3;error e p a b 3 1 1;deed d a;";

    public static void main(String[] args) {
        blanksAre32And10();
        signs();
        noBlanksAreNeeded();
        wordsOf1To7Letters();
        numbersOf1To3Digits();
        aRunGoesOn();
        families();
        chronicles();
        sentences();
        faults();
        Check.close("TextBoundsTest");
    }

    private static void families() {
        familyOf900Bytes();
        familyWithoutLines();
        bornFrom0To300();
        bornOfOneToldAhead();
        bornOfOneOfAnEarlierYear();
        eachFirstOneHasOneGodchild();
        careOnceFrom0To9();
        errorsOfUnlikeSteps();
        wearFrom1To20();
        harmFrom0To20();
        goodFrom0To20();
        deedsOf1To12Steps();
        namesAreNoneOfTheWords();
        namesAreToldOnce();
        namesOfAnotherSort();
        atMost6Steps();
        atMost10Persons();
        atMost6Errors();
        atMost4Deeds();
        allAtTheirMost();
    }

    private static void chronicles() {
        chronicleOf400Bytes();
        chronicleWithoutLines();
        chronicleOf40Lines();
        chronicleYearsFrom1To99();
    }

    private static void sentences() {
        sentenceOf200Bytes();
        sentenceWithoutOnes();
        sentenceOf20Ones();
        sentenceOf8WithinOneAnother();
        sentenceNumbersFrom0To999();
        sentenceSigns();
    }

    private static void faults() {
        theFirstAlongTheText();
        theLeastOfOneToken();
        atTheEndOfTheBytes();
        atTheMostBytes();
        tokensAheadOfTheMostBytesAreReadWhole();
    }

    private static void reads(char sort, String text, int due) {
        Check.reads(sort == 'f' ? new SlipHeirs() : Check.of(KIN), sort, text, due);
    }

    private static void faultAt(char sort, String marked, int kind) {
        Check.faultAt(sort == 'f' ? new SlipHeirs() : Check.of(KIN), sort, marked, kind);
    }

    private static void faultAt(char sort, String text, int place, int kind) {
        Check.faultAt(sort == 'f' ? new SlipHeirs() : Check.of(KIN), sort, text, place, kind);
    }

    private static String blanks(int n) {
        return Check.repeat(" ", n);
    }

    private static boolean isBlank(int c) {
        return c == 32 || c == 10;
    }

    private static boolean isOfARun(int c) {
        return c >= 'a' && c <= 'z' || c >= '0' && c <= '9';
    }

    private static void blanksAre32And10() {
        for (int c = 0; c < 256; c++) {
            String ahead = (char) c + "step a;";
            if (isBlank(c)) {
                reads('f', ahead, 1);
                reads('f', "step a;" + (char) c, 1);
                reads('c', "p" + (char) c + "dies;", -1);
                reads('s', "not" + (char) c + "alive", 2);
            } else {
                faultAt('f', ahead, 0, 1);
                faultAt('f', "step a;" + (char) c, 7, 1);
                faultAt('c', "p" + (char) c + "dies;", isOfARun(c) ? 0 : 1, c >= 'a' && c <= 'z' ? 3 : 1);
                faultAt('s', "not" + (char) c + "alive", isOfARun(c) ? 0 : c == '(' ? 9 : 3, 1);
            }
        }
    }

    private static void signs() {
        for (int c = 0; c < 256; c++) {
            String text = "born" + (char) c + "5";
            if (c == '<' || c == '=' || c == '>') {
                reads('s', text, 1);
            } else {
                faultAt('s', text, isOfARun(c) ? 0 : isBlank(c) ? 5 : 4, 1);
            }
        }
        reads('s', "(alive)", 2);
        faultAt('s', "!'alive)", 1);
        faultAt('s', "!*alive)", 1);
        faultAt('s', "(alive!*", 1);
        faultAt('s', "(alive!'", 1);
        faultAt('f', "step a!:", 1);
        faultAt('f', "step a!.", 1);
    }

    private static void noBlanksAreNeeded() {
        reads('f', "step a;step b;", 2);
        reads('f', " step  a ; \n\n step\nb\n;", 2);
        reads('s', "(alive)or(not(clean))and born<5", 7);
        faultAt('f', "!stepa;", 1);
        faultAt('f', "person p 5;person q !6of p;", 1);
        faultAt('s', "born<!5or alive", 1);
    }

    private static void wordsOf1To7Letters() {
        reads('f', "step z;", 1);
        reads('f', "step abcdefg;", 1);
        faultAt('f', "step !abcdefgh;", 1);
        reads('c', "abcdefg dies;", -1);
        faultAt('c', "!abcdefgh dies;", 1);
        faultAt('c', "!abcdefz dies;", 3);
        reads('s', "under abcdefg", 1);
        faultAt('s', "under !abcdefgh", 1);
        faultAt('s', "under !abcdef", 3);
        faultAt('f', "step !" + Check.repeat("a", 500) + ";", 1);
        // Words that begin alike, or differ in the first or the last letter alone, are unlike.
        reads('f', "step abcdefg;step abcdef;step bbcdefg;step abcdefh;step a;step aa;", 6);
        faultAt('f', "step abcdefg;step !abcdefg;", 3);
    }

    private static void numbersOf1To3Digits() {
        reads('f', "person p 0;", 1);
        reads('f', "person p 00;", 1);
        reads('f', "person p 000;", 1);
        faultAt('f', "person p !0000;", 1);
        faultAt('f', "person p !0300;", 1);
        faultAt('f', "person p !1000;", 1);
        faultAt('f', "person p !4294967296;", 1);
        reads('c', "year 099;", -1);
        faultAt('c', "year !0099;", 1);
        reads('s', "born > 999", 1);
        faultAt('s', "born > !0999", 1);
    }

    private static void aRunGoesOn() {
        faultAt('f', "step !a1;", 1);
        faultAt('f', "step !1a;", 1);
        faultAt('f', "step !abcdefg1;", 1);
        faultAt('f', "person p !12a;", 1);
        faultAt('f', "person p !123a;", 1);
        faultAt('f', "!step1 a;", 1);
        faultAt('f', "step a!B;", 1);
        faultAt('c', "!p1 dies;", 1);
        faultAt('c', "year !5p;", 1);
        faultAt('s', "!alive1", 1);
        faultAt('s', "born = !5a", 1);
    }

    private static void familyOf900Bytes() {
        reads('f', "step a;" + blanks(893), 1);
        reads('f', blanks(893) + "step a;", 1);
        faultAt('f', "step a;" + blanks(894), 900, 1);
        faultAt('f', blanks(894) + "step a;", 900, 1);
        faultAt('f', blanks(933) + "step a;", 900, 1);
    }

    private static void familyWithoutLines() {
        reads('f', "", 0);
        reads('f', " ", 0);
        reads('f', blanks(900), 0);
        faultAt('f', blanks(901), 900, 1);
        faultAt('f', "!;", 1);
    }

    private static void bornFrom0To300() {
        SlipHeirs x = Check.of("person p 0;person q 300;");
        Check.eq("the least YEAR", x.person(0, 0), 0);
        Check.eq("the greatest YEAR", x.person(1, 0), 300);
        faultAt('f', "person p !301;", 2);
        faultAt('f', "person p !999;", 2);
    }

    private static void bornOfOneToldAhead() {
        reads('f', "person p 5;person q 6 of p;", 2);
        faultAt('f', "person q 6 of !p;person p 5;", 3);
        faultAt('f', "person q 6 of !q;", 3);
    }

    private static void bornOfOneOfAnEarlierYear() {
        reads('f', "person p 299;person q 300 of p;", 2);
        reads('f', "person p 0;person q 1 of p;", 2);
        faultAt('f', "person p 300;person q 300 of !p;", 3);
        faultAt('f', "person p 0;person q 0 of !p;", 3);
        faultAt('f', "person p 6;person q 5 of !p;", 3);
    }

    private static void eachFirstOneHasOneGodchild() {
        reads('f', TWO + "god p q;god q p;", 6);
        reads('f', TWO + "person r 3;god p r;god q r;", 7);
        faultAt('f', TWO + "god p q;god !p q;", 3);
        faultAt('f', TWO + "person r 3;god p q;god !p r;", 3);
        faultAt('f', TWO + "god p !p;", 3);
        faultAt('f', TWO + "god p q;god q !q;", 3);
    }

    private static void careOnceFrom0To9() {
        SlipHeirs x = Check.of(TWO + "person r 3;care p 0;care q 9;");
        Check.eq("the least CARE", x.person(0, 4), 0);
        Check.eq("the greatest CARE", x.person(1, 4), 9);
        Check.eq("CARE without", x.person(2, 4), 1);
        faultAt('f', TWO + "care p !10;", 2);
        faultAt('f', TWO + "care p 1;care !p 2;", 3);
        faultAt('f', TWO + "care p 1;care q 1;care !q 1;", 3);
    }

    private static void errorsOfUnlikeSteps() {
        reads('f', TWO + "error e p b a 1 1 1;", 5);
        faultAt('f', TWO + "error e p a !a 1 1 1;", 3);
        faultAt('f', TWO + "error e p b !b 1 1 1;", 3);
    }

    private static SlipHeirs withError(String numbers) {
        return Check.of(TWO + "error e p a b " + numbers + ";");
    }

    private static void wearFrom1To20() {
        Check.eq("the least WEAR", withError("1 5 5").error(0, 3), 1);
        Check.eq("the greatest WEAR", withError("20 5 5").error(0, 3), 20);
        faultAt('f', TWO + "error e p a b !0 5 5;", 2);
        faultAt('f', TWO + "error e p a b !21 5 5;", 2);
    }

    private static void harmFrom0To20() {
        Check.eq("the least HARM", withError("5 0 5").error(0, 4), 0);
        Check.eq("the greatest HARM", withError("5 20 5").error(0, 4), 20);
        faultAt('f', TWO + "error e p a b 5 !21 5;", 2);
    }

    private static void goodFrom0To20() {
        Check.eq("the least GOOD", withError("5 5 0").error(0, 5), 0);
        Check.eq("the greatest GOOD", withError("5 5 20").error(0, 5), 20);
        faultAt('f', TWO + "error e p a b 5 5 !21;", 2);
    }

    private static void deedsOf1To12Steps() {
        faultAt('f', STEPS + "deed d!;", 1);
        Check.eq("one STEP", Check.of(STEPS + "deed d b;").deed(0, -1), 1);
        Check.eq("twelve STEPS", Check.of(STEPS + "deed d" + Check.repeat(" b", 12) + ";").deed(0, -1), 12);
        faultAt('f', STEPS + "deed d" + Check.repeat(" b", 12) + " !b;", 4);
        faultAt('f', STEPS + "deed d" + Check.repeat(" b", 12) + " !a b;", 4);
    }

    private static void namesAreNoneOfTheWords() {
        String words = "step person of god care error deed does dies gives year or and not alive clean has under errors born made number";
        for (String word : words.split(" ")) {
            faultAt('f', "step !" + word + ";", 1);
            faultAt('f', "person !" + word + " 5;", 1);
            faultAt('f', TWO + "error !" + word + " p a b 1 1 1;", 1);
            faultAt('f', STEPS + "deed !" + word + " a;", 1);
            reads('f', "step " + word.substring(1) + ";", 1);
        }
    }

    private static void namesAreToldOnce() {
        String[] tells = {"step x", "person x 5", "error x p a b 1 1 1", "deed x a"};
        String[] again = {"step !x", "person !x 5", "error !x p a b 1 1 1", "deed !x a"};
        for (String first : tells) {
            reads('f', TWO + first + ";", 5);
            for (String second : again) {
                faultAt('f', TWO + first + ";" + second + ";", 3);
            }
        }
    }

    private static void namesOfAnotherSort() {
        String all = TWO + "error e p a b 1 1 1;deed d a;";
        for (String other : new String[] {"a", "e", "d", "none"}) {
            faultAt('f', all + "person r 5 of !" + other + ";", 3);
            faultAt('f', all + "god !" + other + " q;", 3);
            faultAt('f', all + "god p !" + other + ";", 3);
            faultAt('f', all + "care !" + other + " 5;", 3);
            faultAt('f', all + "error f !" + other + " a b 1 1 1;", 3);
            faultAt('c', "!" + other + " dies;", 3);
            faultAt('c', "gives e !" + other + ";", 3);
            faultAt('s', "under !" + other, 3);
        }
        for (String other : new String[] {"p", "e", "d", "none"}) {
            faultAt('f', all + "error f p !" + other + " b 1 1 1;", 3);
            faultAt('f', all + "error f p a !" + other + " 1 1 1;", 3);
            faultAt('f', all + "deed f a !" + other + ";", 3);
        }
        for (String other : new String[] {"a", "p", "d", "none"}) {
            faultAt('c', "gives !" + other + " p;", 3);
            faultAt('s', "has !" + other, 3);
        }
        for (String other : new String[] {"a", "p", "e", "none"}) {
            faultAt('c', "p does !" + other + ";", 3);
        }
    }

    private static void atMost6Steps() {
        String six = "step a;step b;step c;step d;step e;step f;";
        Check.eq("six STEPS", Check.of(six).count(0), 6);
        faultAt('f', six + "!step g;", 4);
        faultAt('f', six + "!step a;", 4);
        faultAt('f', six + "!step;", 4);
    }

    private static void atMost10Persons() {
        StringBuilder ten = new StringBuilder();
        for (char c = 'a'; c <= 'j'; c++) {
            ten.append("person ").append(c).append(" 5;");
        }
        Check.eq("ten PERSONS", Check.of(ten.toString()).count(1), 10);
        faultAt('f', ten + "!person k 5;", 4);
        faultAt('f', ten + "!person k 301;", 4);
        reads('f', ten + "care j 5;", 11);
    }

    private static void atMost6Errors() {
        StringBuilder six = new StringBuilder(TWO);
        for (char c = 'c'; c <= 'h'; c++) {
            six.append("error ").append(c).append(" p a b 5 5 5;");
        }
        Check.eq("six ERRORS", Check.of(six.toString()).count(2), 6);
        faultAt('f', six + "!error i p a b 5 5 5;", 4);
        faultAt('f', six + "!error i p a a 5 5 5;", 4);
    }

    private static void atMost4Deeds() {
        String four = STEPS + "deed c a;deed d a;deed e a;deed f a;";
        Check.eq("four DEEDS", Check.of(four).count(3), 4);
        faultAt('f', four + "!deed g a;", 4);
        faultAt('f', four + "!deed g;", 4);
    }

    private static void allAtTheirMost() {
        SlipHeirs x = Check.of(Check.full());
        int[] due = {6, 10, 6, 4};
        for (int what = 0; what < 4; what++) {
            Check.eq("count(" + what + ") at the most", x.count(what), due[what]);
        }
        // Numbered from 0 each, as they were told.
        for (int p = 0; p < 10; p++) {
            Check.eq("born " + p, x.person(p, 0), 291 + p);
            Check.eq("CARE of " + p, x.person(p, 4), p);
            Check.eq("godchild of " + p, x.person(p, 5), (p + 1) % 10);
            Check.eq("of whom " + p, x.person(p, 1), p - 1);
        }
        for (int e = 0; e < 5; e++) {
            Check.eq("who had " + e, x.error(e, 7), e);
            Check.eq("STEPS of " + e, x.error(e, 1) * 10 + x.error(e, 2), e * 11 + 1);
        }
        Check.eq("the last ERROR", x.error(5, 7) * 100 + x.error(5, 1) * 10 + x.error(5, 2), 950);
        for (int d = 0; d < 4; d++) {
            Check.eq("STEP of " + d, x.deed(d, 0), d);
        }
        for (String sort : new String[] {"step zz;", "person zz 5;", "error zz pa a b 1 1 1;", "deed zz a;"}) {
            Check.faultAt(new SlipHeirs(), 'f', Check.full() + "!" + sort, 4);
        }
    }

    private static void chronicleOf400Bytes() {
        reads('c', "p dies;" + blanks(393), -1);
        reads('c', blanks(393) + "p dies;", -1);
        faultAt('c', "p dies;" + blanks(394), 400, 1);
        faultAt('c', blanks(394) + "p dies;", 400, 1);
    }

    private static void chronicleWithoutLines() {
        reads('c', "", -1);
        reads('c', blanks(400), -1);
        faultAt('c', blanks(401), 400, 1);
        faultAt('c', "!;", 1);
    }

    private static void chronicleOf40Lines() {
        String forty = Check.repeat("p does d;", 20) + Check.repeat("year 1;", 20);
        SlipHeirs x = Check.of(KIN);
        Check.reads(x, 'c', forty, -1);
        Check.eq("LINES", x.told(1), 40);
        faultAt('c', forty + "!year 1;", 4);
        faultAt('c', forty + "!q dies;", 4);
        faultAt('c', forty + "!gives e p;", 4);
        faultAt('c', forty + "!year 0;", 4);
        faultAt('c', forty + "!gives none none;", 4);
    }

    private static void chronicleYearsFrom1To99() {
        reads('c', "year 1;", -1);
        reads('c', "year 99;", -1);
        faultAt('c', "year !0;", 2);
        faultAt('c', "year !100;", 2);
    }

    private static void sentenceOf200Bytes() {
        reads('s', "alive" + blanks(195), 1);
        reads('s', blanks(195) + "alive", 1);
        faultAt('s', "alive" + blanks(196), 200, 1);
        faultAt('s', blanks(196) + "alive", 200, 1);
    }

    private static void sentenceWithoutOnes() {
        faultAt('s', "", 0, 1);
        faultAt('s', blanks(200), 200, 1);
        faultAt('s', "(!)", 1);
    }

    private static void sentenceOf20Ones() {
        String twenty = "clean" + Check.repeat(" or clean", 19);
        reads('s', twenty, 20);
        reads('s', "clean" + Check.repeat(" and clean", 19), 20);
        SlipHeirs x = Check.of(TWO + "error e p a b 3 1 1;error f q a b 3 1 1;");
        Check.reads(x, 's', Check.repeat("clean or ", 19) + "alive", 20);
        Check.eq("the twentieth counts", x.said(-1), 2);
        Check.reads(x, 's', Check.repeat("alive and ", 19) + "clean", 20);
        Check.eq("the twentieth counts", x.said(-1), 0);
        faultAt('s', twenty + " or !clean", 4);
        faultAt('s', twenty + " or !not clean", 4);
        faultAt('s', twenty + " and !(clean)", 4);
        reads('s', Check.repeat("not clean or ", 9) + "not alive", 20);
        faultAt('s', Check.repeat("not clean or ", 10) + "!alive", 4);
        faultAt('s', Check.repeat("not clean or ", 9) + "alive or not !alive", 4);
        reads('s', Check.repeat("(clean) or ", 9) + "(alive)", 20);
        faultAt('s', Check.repeat("(clean) or ", 9) + "alive or (!alive)", 4);
    }

    private static void sentenceOf8WithinOneAnother() {
        reads('s', Check.repeat("not ", 7) + "alive", 8);
        faultAt('s', Check.repeat("not ", 8) + "!alive", 4);
        reads('s', Check.repeat("(", 7) + "alive" + Check.repeat(")", 7), 8);
        faultAt('s', Check.repeat("(", 8) + "!alive" + Check.repeat(")", 8), 4);
        reads('s', "(not (not (not (alive))))", 8);
        faultAt('s', "(not (not (not (not !alive))))", 4);
        // One that is closed again holds nothing more.
        reads('s', Check.repeat("(", 7) + "alive" + Check.repeat(")", 7) + " or " + Check.repeat("not ", 7) + "alive", 16);
    }

    private static void sentenceNumbersFrom0To999() {
        for (String what : new String[] {"errors", "born", "made", "number"}) {
            reads('s', what + " = 0", 1);
            reads('s', what + " < 999", 1);
            faultAt('s', what + " < !1000", 1);
        }
    }

    private static void sentenceSigns() {
        SlipHeirs x = Check.of(KIN);
        for (int i = 0; i < 3; i++) {
            Check.reads(x, 's', "number " + "<=>".charAt(i) + " 1", 1);
            Check.eq("said of one", x.said(-1), 1);
            Check.eq("said of", x.said(0), i);
        }
        faultAt('s', "number !5", 1);
        faultAt('s', "number <!= 5", 1);
        faultAt('s', "number !( 5", 1);
    }

    private static void theFirstAlongTheText() {
        faultAt('f', "person p !301 of none;", 2);
        faultAt('f', "person p 5 of !none 5", 3);
        faultAt('f', "step a;step !a b", 3);
        faultAt('f', "step a!", 1);
        faultAt('f', TWO + "error e p a b !0 21 21 21;", 2);
        faultAt('f', "step a;step b;step c;step d;step e;step f;!step 5;", 4);
        faultAt('c', "p dies;q does !none;year 0;", 3);
        faultAt('s', "has !none and born < 1000", 3);
    }

    private static void theLeastOfOneToken() {
        String twelve = STEPS + "deed d" + Check.repeat(" a", 12);
        faultAt('f', twelve + " !none;", 3);
        faultAt('f', twelve + " !d;", 3);
        faultAt('f', twelve + " !deed;", 1);
        faultAt('f', twelve + " !7;", 1);
        String forty = Check.repeat("year 1;", 40);
        faultAt('c', forty + "!none dies;", 3);
        faultAt('c', forty + "!d dies;", 3);
        faultAt('c', forty + "!dies;", 1);
        faultAt('c', forty + "!5;", 1);
        faultAt('c', forty + "!?", 1);
        String twenty = "clean" + Check.repeat(" or clean", 19);
        faultAt('s', twenty + " or !or", 1);
        faultAt('s', twenty + " or !none", 1);
        faultAt('s', Check.repeat("not ", 8) + "!5", 1);
        faultAt('s', Check.repeat("not ", 8) + "!", 1);
    }

    private static void atTheEndOfTheBytes() {
        faultAt('f', "step!", 1);
        faultAt('f', "step a  !", 1);
        faultAt('f', "step a" + blanks(894), 900, 1);
        faultAt('c', "p!", 1);
        faultAt('c', "p dies\n!", 1);
        faultAt('c', "p dies" + blanks(394), 400, 1);
        faultAt('s', "not!", 1);
        faultAt('s', "(alive !", 1);
        faultAt('s', "not" + blanks(197), 200, 1);
    }

    private static void atTheMostBytes() {
        for (int more = 1; more <= 40; more += 13) {
            faultAt('f', "step a;" + blanks(893 + more), 900, 1);
            faultAt('f', "step a" + blanks(894 + more), 900, 1);
            faultAt('f', "step a;step ?" + blanks(887 + more), 12, 1);
            faultAt('c', "p dies;" + blanks(393 + more), 400, 1);
            faultAt('c', "p dies;year 0;" + blanks(393 + more), 12, 2);
            faultAt('s', "alive" + blanks(195 + more), 200, 1);
            faultAt('s', "has none" + blanks(195 + more), 4, 3);
        }
        faultAt('f', blanks(900) + "?", 900, 1);
        faultAt('f', blanks(899) + "?", 899, 1);
        faultAt('c', blanks(400) + "none dies;", 400, 1);
        faultAt('c', blanks(399) + "none dies;", 399, 3);
        faultAt('s', blanks(200) + "has none", 200, 1);
        faultAt('s', blanks(199) + "none", 199, 1);
    }

    private static void tokensAheadOfTheMostBytesAreReadWhole() {
        // The NAME begins at the last byte: read whole it is another one than its first letter.
        faultAt('f', "step a;" + blanks(887) + "step ab;", 900, 1);
        faultAt('f', "step a;" + blanks(887) + "step a;", 899, 3);
        faultAt('f', "step a;" + blanks(887) + "step abcdefgh;", 899, 1);
        faultAt('f', blanks(890) + "person p 300;", 900, 1);
        faultAt('f', blanks(890) + "person p 301;", 899, 2);
        faultAt('c', blanks(399) + "abcdefg dies;", 400, 1);
        faultAt('c', blanks(399) + "abcdefx dies;", 399, 3);
        faultAt('c', blanks(394) + "year 100;", 399, 2);
        faultAt('c', blanks(394) + "year 99;", 400, 1);
        faultAt('s', blanks(199) + "alive", 200, 1);
        faultAt('s', blanks(199) + "alivex", 199, 1);
        reads('s', blanks(195) + "has e", 1);
        faultAt('s', blanks(195) + "has ee", 199, 3);
    }
}
