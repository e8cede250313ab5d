/** Promises 36 and 37: chronicle, told. */
public final class ChronicleTest {
    public static void main(String[] args) {
        faults();
        tooManyAndTooLong();
        judged();
        lived();
        wrongLines();
        told();
        Check.close("ChronicleTest");
    }

    /** The fault stands where the sign ! stands in the text. */
    private static void at(String marked, int kind) {
        int place = marked.indexOf('!');
        faulty(marked.substring(0, place) + marked.substring(place + 1), place, kind);
    }

    private static void faulty(String text, int place, int kind) {
        SlipHeirs x = Check.kin();
        for (int lives = 0; lives < 2; lives++) {
            Check.eq("chronicle of <" + text + ">", Check.chronicle(x, text, lives), -2 - place);
            Check.eq("fault of <" + text + ">", x.fault(), kind);
            Check.eq("the tape is empty", x.count(4), 0);
        }
        Check.eq("nothing was lived", x.now(0) + x.now(2) + x.now(5), 300);
        Check.eq("nothing to undo", x.undo(), -1);
        Check.eq("nothing was told", x.told(0), -1);
    }

    private static void faults() {
        at("!;", 1);
        at("!5;", 1);
        at("!does;", 1);
        at("!dies;", 1);
        at("!step;", 1);
        at("!person;", 1);
        at("!alive;", 1);
        at("old!", 1);
        at("old!;", 1);
        at("old !walk;", 1);
        at("old !gives slip gil;", 1);
        at("old !year 5;", 1);
        at("old does!;", 1);
        at("old does !5;", 1);
        at("old does !does;", 1);
        at("old does walk!", 1);
        at("old does walk !rest;", 1);
        at("old dies !old;", 1);
        at("old dies;!;", 1);
        at("gives!;", 1);
        at("gives slip!;", 1);
        at("gives slip gil !gil;", 1);
        at("year!;", 1);
        at("year !old;", 1);
        at("year 5 !5;", 1);
        at("year !1000;", 1);
        at("year 5!:", 1);
        at("year !0;", 2);
        at("year !100;", 2);
        at("year !000;", 2);
        at("year 99;year !999;", 2);
        at("!nobody dies;", 3);
        at("!walk dies;", 3);
        at("!slip dies;", 3);
        at("old does !old;", 3);
        at("old does !run;", 3);
        at("gives !walk gil;", 3);
        at("gives !gil slip;", 3);
        at("gives slip !slip;", 3);
        at("gives slip !none;", 3);
        at("old dies;old dies;!none", 3);
    }

    private static void tooManyAndTooLong() {
        String forty = Check.repeat("year 1;", 40);
        SlipHeirs x = Check.kin();
        Check.eq("forty lines", Check.chronicle(x, forty, 0), -1);
        Check.eq("are told", x.told(1), 40);
        at(forty + "!year 1;", 4);
        at(forty + "!year", 4);
        at(forty + "!gives;", 4);
        at(forty + "!old dies;", 4);
        at(forty + "!none dies;", 3);
        at(forty + "!walk dies;", 3);
        at(forty + "!does;", 1);
        at(forty + "!;", 1);
        String line = "old dies;";
        Check.eq("400 bytes", Check.chronicle(x, line + Check.repeat(" ", 391), 0), -1);
        faulty(line + Check.repeat(" ", 392), 400, 1);
        faulty(line + Check.repeat(" ", 531), 400, 1);
        faulty(line + Check.repeat(" ", 390) + "old dies;", 400, 1);
        faulty(line + Check.repeat(" ", 390) + "older dies;", 399, 3);
        faulty(line + Check.repeat(" ", 391) + "older dies;", 400, 1);
        faulty(line + Check.repeat(" ", 382) + "old does", 399, 1);
    }

    private static void told(SlipHeirs x, int... due) {
        for (int what = 0; what < due.length; what++) {
            Check.eq("told(" + what + ")", x.told(what), due[what]);
        }
    }

    private static void judged() {
        SlipHeirs x = Check.kin();
        Check.eq("judged", Check.chronicle(x, "old does hop; year 20; gives slip gil; gil does walk; old dies; cid does rest;", 0), -1);
        Check.eq("fault", x.fault(), 0);
        told(x, 0, 6, 320, -15);
        Check.eq("the year stays", x.now(0), 300);
        Check.eq("the fortune stays", x.now(1), 1000);
        Check.eq("all live", x.now(2), 0);
        Check.eq("none came", x.came(-1), -1);
        Check.eq("nothing to undo", x.undo(), -1);
        Check.eq("an empty one", x.chronicle(0), -1);
        told(x, 0, 0, 300, 0);
    }

    private static void lived() {
        SlipHeirs x = Check.kin();
        String text = "old does hop;\nyear 20;\ngives slip gil;\ngil does walk;\nold dies;\ncid does rest;\n";
        Check.eq("lived", Check.chronicle(x, text, 1), -1);
        told(x, 0, 6, 320, -15);
        int[] now = {320, 985, 1, 3, 0, 3, 1, 300};
        for (int what = 0; what < now.length; what++) {
            Check.eq("now(" + what + ")", x.now(what), now[what]);
        }
        Check.eq("came", x.came(-1), 1);
        Check.eq("as one it is undone", x.undo(), 0);
        int[] first = {300, 1000, 0, 0, 0, 0, 0, -1};
        for (int what = 0; what < first.length; what++) {
            Check.eq("now(" + what + ") undone", x.now(what), first[what]);
        }
        Check.eq("as far as it is not wrong", Check.chronicle(x, "bob dies;year 5;bob does walk;year 7;", 1), 2);
        told(x, 1, 2, 305, 0);
        Check.eq("the year", x.now(0), 305);
        Check.eq("the dead", x.now(2), 4);
        Check.eq("undone", x.undo(), 0);
        Check.eq("all live", x.now(2), 0);
    }

    private static void wrong(String text, int line, int why) {
        SlipHeirs x = Check.kin();
        Check.eq("judged <" + text + ">", Check.chronicle(x, text, 0), line);
        Check.eq("why <" + text + ">", x.told(0), why);
        Check.eq("lines of <" + text + ">", x.told(1), line);
        Check.eq("lived <" + text + ">", Check.chronicle(x, text, 1), line);
        Check.eq("why <" + text + ">", x.told(0), why);
        Check.eq("fault of <" + text + ">", x.fault(), 0);
    }

    private static void wrongLines() {
        wrong("old dies;old does walk;", 1, 1);
        wrong("old dies;old dies;", 1, 11);
        wrong("old does hop;gives turn gil;", 1, 21);
        wrong("bob dies;old dies;ann dies;cid dies;gil dies;gives slip old;", 5, 21);
        wrong("gil dies;gives slip gil;", 1, 22);
        wrong("gives back gil;", 0, 23);
        wrong("gives slip bob;", 0, 24);
        wrong("gives slip old;", 0, 24);
        wrong("year 99;year 99;year 99;year 99;year 99;year 99;year 99;year 7;year 1;", 7, 31);
        wrong("year 99;year 99;year 99;year 99;year 99;year 99;year 99;year 6;year 1;", 8, 31);
    }

    private static void told() {
        SlipHeirs x = Check.kin();
        for (int what = -1; what < 5; what++) {
            Check.eq("told ahead of any", x.told(what), -1);
        }
        x.feed(1, 2, 3, 4, 5);
        int[] lives = {2, -1, Integer.MIN_VALUE, Integer.MAX_VALUE};
        for (int other : lives) {
            Check.eq("chronicle(" + other + ")", x.chronicle(other), -1000);
            Check.eq("the tape stays", x.count(4), 20);
        }
        Check.eq("nothing told", x.told(0), -1);
        x.end(0);
        Check.chronicle(x, "old does walk;year 3;year 4;old dies;old dies;", 0);
        told(x, 11, 4, 307, -8);
        Check.chronicle(x, "old does;", 0);
        told(x, 11, 4, 307, -8);
        x.chronicle(5);
        told(x, 11, 4, 307, -8);
        Check.family(x, "step a;");
        told(x, 11, 4, 307, -8);
        int[] whats = {-1, 4, 5, Integer.MIN_VALUE, Integer.MAX_VALUE};
        for (int what : whats) {
            Check.eq("told(" + what + ")", x.told(what), -1);
        }
    }
}
