/** Promises 1, 2, 3 and 42: a new object, feed, end, count. */
public final class TapeTest {
    public static void main(String[] args) {
        newObject();
        feedAndEnd();
        highestByteFirst();
        counts();
        Check.close("TapeTest");
    }

    private static void newObject() {
        SlipHeirs x = new SlipHeirs();
        for (int what = 0; what <= 4; what++) {
            Check.eq("new count(" + what + ")", x.count(what), 0);
        }
        Check.eq("new fault", x.fault(), 0);
        Check.eq("new year", x.now(0), 300);
        Check.eq("new fortune", x.now(1), 1000);
        for (int what = 2; what <= 6; what++) {
            Check.eq("new now(" + what + ")", x.now(what), 0);
        }
        Check.eq("new now(7)", x.now(7), -1);
        Check.eq("empty family", x.family(), 0);
        Check.eq("NONE", SlipHeirs.NONE, -1);
    }

    private static void feedAndEnd() {
        SlipHeirs x = new SlipHeirs();
        Check.isNot("end(1) of an empty tape", x.end(1));
        Check.isNot("end(-1)", x.end(-1));
        Check.is("end(0)", x.end(0));
        for (int i = 1; i <= 47; i++) {
            Check.eq("feed " + i, x.feed(i, 0, -1, Integer.MIN_VALUE, Integer.MAX_VALUE), 20 * i);
        }
        Check.eq("feed 48", x.feed(0, 0, 0, 0, 0), -1);
        Check.eq("count behind it", x.count(4), 940);
        Check.isNot("end(941)", x.end(941));
        Check.isNot("end(MIN)", x.end(Integer.MIN_VALUE));
        Check.isNot("end(MAX)", x.end(Integer.MAX_VALUE));
        Check.is("end(940)", x.end(940));
        Check.is("end(921)", x.end(921));
        Check.eq("feed at 921", x.feed(0, 0, 0, 0, 0), -1);
        Check.is("end(920)", x.end(920));
        Check.eq("feed at 920", x.feed(0, 0, 0, 0, 0), 940);
        Check.is("end(3)", x.end(3));
        Check.isNot("end(4) of three", x.end(4));
        Check.eq("feed at 3", x.feed(0, 0, 0, 0, 0), 23);
    }

    private static void highestByteFirst() {
        SlipHeirs x = new SlipHeirs();
        // "step", " a;s", "tep ", "b;ab", "cdef"
        Check.eq("feed", x.feed(0x73746570, 0x20613b73, 0x74657020, 0x623b6162, 0x63646566), 20);
        Check.is("end", x.end(14));
        Check.eq("family", x.family(), 2);
        Check.eq("steps", x.count(0), 2);
        Check.eq("the tape is empty", x.count(4), 0);
    }

    private static void counts() {
        SlipHeirs x = Check.kin();
        Check.eq("steps", x.count(0), 3);
        Check.eq("persons", x.count(1), 5);
        Check.eq("errors", x.count(2), 3);
        Check.eq("deeds", x.count(3), 3);
        Check.eq("bytes", x.count(4), 0);
        x.feed(1, 2, 3, 4, 5);
        Check.eq("bytes", x.count(4), 20);
        int[] wrong = {-1, 5, 6, Integer.MIN_VALUE, Integer.MAX_VALUE};
        for (int what : wrong) {
            Check.eq("count(" + what + ")", x.count(what), -1);
        }
    }
}
