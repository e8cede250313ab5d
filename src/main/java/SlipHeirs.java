import java.util.Arrays;
import java.util.NoSuchElementException;

/** Mistakes are inherited: the document ../shared/DOC.md says what each call promises. */
public final class SlipHeirs {
    public static final int NONE = -1;

    /** Stands where a PERSON's number would: what nobody inherits is its own. */
    private static final int STATE = 10;

    private static final int STEPS = 0;
    private static final int PERSONS = 1;
    private static final int ERRORS = 2;
    private static final int DEEDS = 3;
    private static final int SORTS = 4;

    private static final int MOST_PERSONS = 10;
    private static final int MOST_ERRORS = 6;
    private static final int MOST_DEEDS = 4;
    private static final int MOST_DEED_STEPS = 12;

    private static final int MOST_TAPE = 940;
    private static final int MOST_FAMILY = 900;
    private static final int MOST_CHRONICLE = 400;
    private static final int MOST_SENTENCE = 200;

    private static final int MOST_LINES = 40;
    private static final int MOST_ONES = 20;
    private static final int MOST_WITHIN = 8;

    private static final int FIRST_YEAR = 300;
    private static final int LAST_YEAR = 999;
    private static final int FIRST_FORTUNE = 1000;
    private static final int MOST_UNDONE = 8;
    private static final int MOST_PLAN = 6;
    private static final int MOST_TIMES = 20;
    private static final int ODDS_YEARS = 30;
    private static final int OTHER_LIVES = -1000;

    /** All NAMES stand in one row, sort behind sort: where each sort begins, and the end. */
    private static final int[] FIRST_SLOT = {0, 6, 16, 22, 26};

    // The kinds of TOKENS; each of the signs ; < = > ( ) is a kind by its own number.
    private static final int END = 0;
    private static final int BAD = 1;
    private static final int NAME = 2;
    private static final int NUMBER = 3;
    private static final int STEP = 100;
    private static final int PERSON = 101;
    private static final int OF = 102;
    private static final int GOD = 103;
    private static final int CARE = 104;
    private static final int ERROR = 105;
    private static final int DEED = 106;
    private static final int DOES = 107;
    private static final int DIES = 108;
    private static final int GIVES = 109;
    private static final int YEAR = 110;
    private static final int OR = 111;
    private static final int AND = 112;
    private static final int NOT = 113;
    private static final int ALIVE = 114;
    private static final int CLEAN = 115;
    private static final int HAS = 116;
    private static final int UNDER = 117;
    private static final int HOW_MANY = 118;
    private static final int BORN = 119;
    private static final int MADE = 120;
    private static final int OWN_NUMBER = 121;

    /** The WORDS of those kinds from STEP on, in their order, a blank behind each. */
    private static final String KEY_WORDS = "step person of god care error deed does dies gives year or and not alive clean has under errors born made number ";

    private static final int KEYS = 22;

    // The kinds of FAULTS.
    private static final int CANNOT_COME = 1;
    private static final int WRONG_NUMBER = 2;
    private static final int WRONG_NAME = 3;
    private static final int TOO_MANY = 4;

    private final Text text = new Text();
    private final Family house = new Family();
    private final Family draftHouse = new Family();
    private final Life life = new Life();
    private final Life trial = new Life();
    private final Phrase phrase = new Phrase();
    private final Phrase draftPhrase = new Phrase();
    private final Script script = new Script();
    private final Past past = new Past();
    private final Image[] images = {new Image(), new Image()};
    private final Planner planner = new Planner();
    private final int[] giftRow = new int[MOST_ERRORS];
    private final int[] toldRow = new int[4];
    private boolean anyTold = false;
    private int lastFault = 0;
    private int wornDeed = NONE;
    private int wornCost = NONE - 100000;

    public SlipHeirs() {
        Arrays.fill(giftRow, NONE);
    }

    public int feed(int a, int b, int c, int d, int e) {
        if (text.length + 20 > MOST_TAPE) {
            return NONE;
        }
        text.put(a);
        text.put(b);
        text.put(c);
        text.put(d);
        text.put(e);
        return text.length;
    }

    public boolean end(int n) {
        if (n < 0 || n > text.length) {
            return false;
        }
        text.length = n;
        return true;
    }

    public int family() {
        boolean fine = draftHouse.read(text);
        closeText();
        if (!fine) {
            return -1 - text.faultPlace;
        }
        house.copyFrom(draftHouse);
        life.begin(house);
        phrase.clear();
        past.clear();
        return house.lines;
    }

    public int fault() {
        return lastFault;
    }

    public int person(int p, int what) throws NoSuchElementException {
        if (!house.has(PERSONS, p) || what < 0 || what > 7) {
            throw new NoSuchElementException();
        }
        switch (what) {
            case 0: return house.born[p];
            case 1: return house.parent[p];
            case 2: return life.lives(p) ? 1 : 0;
            case 3: return life.errorsOf(house, p);
            case 4: return house.care[p];
            case 5: return house.godchild[p];
            case 6: return house.childrenOf(p);
            default: return life.madeBy[p];
        }
    }

    public int error(int e, int what) {
        if (!house.has(ERRORS, e)) {
            return NONE;
        }
        switch (what) {
            case 0: return life.bearer[e];
            case 1: return house.from[e];
            case 2: return house.to[e];
            case 3: return life.wear[e];
            case 4: return house.harm[e];
            case 5: return house.good[e];
            case 6: return life.made[e];
            case 7: return house.owner[e];
            default: return NONE;
        }
    }

    public int deed(int d, int i) {
        if (!house.has(DEEDS, d)) {
            return NONE;
        }
        return i == NONE ? house.lengths[d] : house.stepOf(d, i);
    }

    public int now(int what) {
        switch (what) {
            case 0: return life.year;
            case 1: return life.fortune;
            case 2: return life.dead;
            case 3: return life.errorsOf(house, NONE);
            case 4: return life.errorsOf(house, STATE);
            case 5: return life.done;
            case 6: return life.doneRight;
            case 7: return life.firstWorn;
            default: return NONE;
        }
    }

    public int act(int p, int d) {
        if (!house.has(PERSONS, p) || !house.has(DEEDS, d)) {
            return NONE;
        }
        if (!life.lives(p)) {
            return 1;
        }
        past.keep(life);
        return life.perform(house, p, d);
    }

    public int die(int p) {
        if (!house.has(PERSONS, p)) {
            return NONE;
        }
        if (!life.lives(p)) {
            return 1;
        }
        past.keep(life);
        return life.bury(house, p);
    }

    public int give(int e, int p) {
        if (!house.has(ERRORS, e) || !house.has(PERSONS, p)) {
            return NONE;
        }
        int why = life.whyNotGiven(house, e, p);
        if (why != 0) {
            return why;
        }
        past.keep(life);
        return life.handOver(house, e, p);
    }

    public int years(int n) {
        if (n < 1 || n > 99 || life.year + n > LAST_YEAR) {
            return NONE;
        }
        past.keep(life);
        life.year += n;
        return life.year;
    }

    public int undo() {
        return past.takeBack(life);
    }

    public int came(int i) {
        if (life.cameLength == 0) {
            return NONE;
        }
        return i == NONE ? life.cameLength : life.cameAt(i);
    }

    public int comes(int p, int d, int i) {
        if (!canDo(p, d)) {
            return NONE;
        }
        tryDeed(p, d);
        return i == NONE ? trial.unlike(house, d) : trial.cameAt(i);
    }

    public int right(int d) {
        if (!house.has(DEEDS, d)) {
            return NONE;
        }
        int bits = 0;
        for (int p = 0; p < house.counts[PERSONS]; p++) {
            if (life.lives(p)) {
                tryDeed(p, d);
                bits |= trial.unlike(house, d) == 0 ? 1 << p : 0;
            }
        }
        return bits;
    }

    public int loss(int p, int d) throws NoSuchElementException {
        if (!canDo(p, d)) {
            throw new NoSuchElementException();
        }
        tryDeed(p, d);
        return life.fortune - trial.fortune;
    }

    public int heir(int p) {
        if (!house.has(PERSONS, p) || !life.lives(p)) {
            return NONE;
        }
        return house.heirOf(p, life.dead);
    }

    public int line(int p, int n) {
        if (!house.has(PERSONS, p) || !life.lives(p) || n < 1 || n > 10) {
            return NONE;
        }
        int dead = life.dead;
        int bearer = p;
        for (int i = 0; i < n && bearer != STATE; i++) {
            int next = house.heirOf(bearer, dead);
            dead |= 1 << bearer;
            bearer = next;
        }
        return bearer;
    }

    public int plan(int p) {
        int length = text.takeAll();
        if (!house.has(PERSONS, p) || !life.lives(p) || length < 1 || length > MOST_PLAN || !tellsSteps(length)) {
            return NONE;
        }
        return planner.waysTo(text, length, house, life, p);
    }

    public int planned(int i) {
        return i < 0 || i >= planner.firstLength ? NONE : planner.first[i];
    }

    public int who(int d) {
        int length = text.takeAll();
        if (!house.has(DEEDS, d) || length != house.lengths[d] || !tellsSteps(length)) {
            return NONE;
        }
        int bits = 0;
        for (int p = 0; p < house.counts[PERSONS]; p++) {
            if (life.lives(p)) {
                tryDeed(p, d);
                bits |= cameAsTold(length) ? 1 << p : 0;
            }
        }
        return bits;
    }

    public int worn(int e) {
        if (!house.has(ERRORS, e) || life.bearer[e] == STATE) {
            return NONE;
        }
        if (life.bearer[e] == NONE) {
            wornDeed = NONE;
            wornCost = 0;
            return 0;
        }
        int fewest = NONE;
        for (int d = 0; d < house.counts[DEEDS]; d++) {
            int times = timesToWear(e, d);
            int cost = life.fortune - trial.fortune;
            if (times != NONE && (fewest == NONE || times < fewest || times == fewest && cost < wornCost)) {
                fewest = times;
                wornDeed = d;
                wornCost = cost;
            }
        }
        return fewest;
    }

    public int wornBy() {
        return wornDeed;
    }

    public int wornLoss() {
        return wornCost;
    }

    public int gifts() {
        int errors = house.counts[ERRORS];
        int least = NONE;
        int best = 0;
        for (int choice = 0; choice < 1 << errors; choice++) {
            int harm = harmBy(choice);
            if (harm != NONE && (least == NONE || harm < least)) {
                least = harm;
                best = choice;
            }
        }
        for (int e = 0; e < MOST_ERRORS; e++) {
            giftRow[e] = e < errors ? bearerBy(best, e) : NONE;
        }
        return least;
    }

    public int gift(int e) {
        // The ERRORS are those of the latest gifts(): the FAMILY may be another by now.
        return e < 0 || e >= MOST_ERRORS ? NONE : giftRow[e];
    }

    public int together(int set, int s) {
        if (!house.isSet(set) || !house.has(STEPS, s)) {
            return NONE;
        }
        return house.become(set, s);
    }

    public int rests(int set) {
        if (!house.isSet(set)) {
            return NONE;
        }
        // As long as some STEP is still on its way, the STEPS that are left grow fewer each time.
        int left = (1 << house.counts[STEPS]) - 1;
        int times = 0;
        for (int i = 0; i < house.counts[STEPS]; i++) {
            int next = house.becomeAll(set, left);
            if (next != left) {
                times++;
            }
            left = next;
        }
        return times;
    }

    public int cancel(int d, int k) {
        if (!house.has(DEEDS, d) || k < NONE) {
            return NONE;
        }
        int found = 0;
        for (int a = 0; a < house.counts[ERRORS]; a++) {
            for (int b = a + 1; b < house.counts[ERRORS]; b++) {
                if (house.cancelOut(d, a, b)) {
                    if (found == k) {
                        return 10 * a + b;
                    }
                    found++;
                }
            }
        }
        return k == NONE ? found : NONE;
    }

    public int under(int p) {
        return house.has(PERSONS, p) ? house.underOf(p) : NONE;
    }

    public int common(int a, int b) {
        if (!house.has(PERSONS, a) || !house.has(PERSONS, b)) {
            return NONE;
        }
        int at = a;
        for (int i = 0; i < MOST_PERSONS && at != NONE; i++) {
            if (at == b || (house.underOf(at) >> b & 1) == 1) {
                return at;
            }
            at = house.parent[at];
        }
        return NONE;
    }

    public int drawn(int n, int seed) {
        if (n < 1 || n > 60 || life.year + n > LAST_YEAR) {
            return NONE;
        }
        past.keep(life);
        life.drawYears(house, n, seed);
        return life.year;
    }

    public int odds(int e, int n, int seed) {
        if (!house.has(ERRORS, e) || n < 1 || n > 40 || life.year + ODDS_YEARS > LAST_YEAR) {
            return NONE;
        }
        int wornOut = 0;
        for (int i = 0; i < n; i++) {
            trial.copyFrom(life);
            trial.drawYears(house, ODDS_YEARS, seed + i);
            wornOut += trial.bearer[e] == NONE ? 1 : 0;
        }
        return wornOut;
    }

    public int chronicle(int lives) {
        if (lives != 0 && lives != 1) {
            return OTHER_LIVES;
        }
        boolean fine = script.read(text, house);
        closeText();
        if (!fine) {
            return -2 - text.faultPlace;
        }
        trial.copyFrom(life);
        if (lives == 1) {
            past.keep(life);
        }
        Life by = lives == 1 ? life : trial;
        int fortune = by.fortune;
        int wrong = script.liveBy(house, by);
        toldRow[0] = script.why;
        toldRow[1] = wrong == NONE ? script.lines : wrong;
        toldRow[2] = by.year;
        toldRow[3] = by.fortune - fortune;
        anyTold = true;
        return wrong;
    }

    public int told(int what) {
        return !anyTold || what < 0 || what > 3 ? NONE : toldRow[what];
    }

    public int sentence() {
        boolean fine = draftPhrase.read(text, house);
        closeText();
        if (!fine) {
            return -1 - text.faultPlace;
        }
        phrase.copyFrom(draftPhrase);
        return phrase.ones;
    }

    public int said(int k) {
        if (phrase.ones == 0) {
            return NONE;
        }
        int bits = phrase.saidOf(house, life);
        if (k == NONE) {
            return Integer.bitCount(bits);
        }
        int found = 0;
        for (int p = 0; p < house.counts[PERSONS]; p++) {
            if ((bits >> p & 1) == 1) {
                if (found == k) {
                    return p;
                }
                found++;
            }
        }
        return NONE;
    }

    public boolean image(int k) {
        if (k != 0 && k != 1) {
            return false;
        }
        Image place = images[k];
        place.house.copyFrom(house);
        place.life.copyFrom(life);
        place.phrase.copyFrom(phrase);
        place.kept = true;
        return true;
    }

    public boolean restore(int k) {
        if (k != 0 && k != 1 || !images[k].kept) {
            return false;
        }
        Image place = images[k];
        house.copyFrom(place.house);
        life.copyFrom(place.life);
        phrase.copyFrom(place.phrase);
        past.clear();
        return true;
    }

    public int count(int what) {
        if (what == SORTS) {
            return text.length;
        }
        return what < 0 || what > SORTS ? NONE : house.counts[what];
    }

    private void closeText() {
        lastFault = text.faultKind;
        text.length = 0;
    }

    private boolean canDo(int p, int d) {
        return house.has(PERSONS, p) && house.has(DEEDS, d) && life.lives(p);
    }

    private void tryDeed(int p, int d) {
        trial.copyFrom(life);
        trial.perform(house, p, d);
    }

    private boolean tellsSteps(int length) {
        for (int i = 0; i < length; i++) {
            if (!house.has(STEPS, text.byteAt(i))) {
                return false;
            }
        }
        return true;
    }

    private boolean cameAsTold(int length) {
        for (int i = 0; i < length; i++) {
            if (trial.cameAt(i) != text.byteAt(i)) {
                return false;
            }
        }
        return true;
    }

    /** Leaves in the trial what the times have cost. */
    private int timesToWear(int e, int d) {
        int p = life.bearer[e];
        trial.copyFrom(life);
        for (int times = 1; times <= MOST_TIMES; times++) {
            trial.perform(house, p, d);
            if (trial.bearer[e] == NONE) {
                return times;
            }
        }
        return NONE;
    }

    /** The first ERROR's bit is the highest, so that choices in their order begin with those where it stays. */
    private boolean isGiven(int choice, int e) {
        return (choice >> house.counts[ERRORS] - 1 - e & 1) == 1;
    }

    private int bearerBy(int choice, int e) {
        int bearer = life.bearer[e];
        if (bearer < 0 || bearer >= STATE) {
            return NONE;
        }
        return isGiven(choice, e) ? house.godchild[bearer] : bearer;
    }

    private boolean mayBeGiven(int e) {
        int bearer = life.bearer[e];
        if (bearer < 0 || bearer >= STATE || house.godchild[bearer] == NONE) {
            return false;
        }
        return life.whyNotGiven(house, e, house.godchild[bearer]) == 0;
    }

    /** HARM times CARE in all; NONE, if one may not choose so. */
    private int harmBy(int choice) {
        int harm = 0;
        int taken = 0;
        for (int e = 0; e < house.counts[ERRORS]; e++) {
            if (isGiven(choice, e) && !mayBeGiven(e)) {
                return NONE;
            }
            int bearer = bearerBy(choice, e);
            if (bearer != NONE) {
                if (isGiven(choice, e) && (taken >> bearer & 1) == 1) {
                    return NONE;
                }
                taken |= isGiven(choice, e) ? 1 << bearer : 0;
                harm += house.harm[e] * house.care[bearer];
            }
        }
        return harm;
    }

    /** The tape, and its TOKENS while it is read. */
    private static final class Text {
        final byte[] bytes = new byte[MOST_TAPE];
        final int[] kinds = new int[MOST_FAMILY + 1];
        final int[] places = new int[MOST_FAMILY + 1];
        final long[] values = new long[MOST_FAMILY + 1];
        final long[] keys = new long[KEYS];
        int length = 0;
        int tokens = 0;
        int current = 0;
        int taken = 0;
        boolean tooLong = false;
        int faultKind = 0;
        int faultPlace = 0;

        Text() {
            int key = 0;
            for (int i = 0; i < KEY_WORDS.length(); i++) {
                if (KEY_WORDS.charAt(i) == ' ') {
                    key++;
                } else if (key < KEYS) {
                    keys[key] = withLetter(keys[key], KEY_WORDS.charAt(i));
                }
            }
        }

        /** A WORD as a number: seven letters of five bits each. */
        static long withLetter(long word, int letter) {
            return word * 32 + letter - 'a' + 1;
        }

        static boolean isLetter(int c) {
            return c >= 'a' && c <= 'z';
        }

        static boolean isDigit(int c) {
            return c >= '0' && c <= '9';
        }

        void put(int number) {
            for (int shift = 24; shift >= 0 && length < MOST_TAPE; shift -= 8) {
                bytes[length] = (byte) (number >> shift);
                length++;
            }
        }

        int byteAt(int i) {
            return i < 0 || i >= MOST_TAPE ? NONE : bytes[i] & 255;
        }

        /** The tape is empty then, but its bytes can still be looked at. */
        int takeAll() {
            int all = length;
            length = 0;
            return all;
        }

        void open(int most) {
            int limit = Math.min(length, most);
            int next = 0;
            tokens = 0;
            for (int place = 0; place < limit; place++) {
                if (place >= next && bytes[place] != ' ' && bytes[place] != '\n') {
                    next = scan(place);
                }
            }
            add(END, limit, 0);
            tooLong = length > most;
            current = 0;
            faultKind = 0;
            faultPlace = 0;
        }

        /** Where the TOKEN ends that begins here. */
        private int scan(int place) {
            int c = bytes[place];
            if (isLetter(c) || isDigit(c)) {
                return scanRun(place);
            }
            boolean isSign = c >= ';' && c <= '>' || c == '(' || c == ')';
            add(isSign ? c : BAD, place, 0);
            return place + 1;
        }

        private int scanRun(int place) {
            long word = 0;
            int number = 0;
            int letters = 0;
            int digits = 0;
            int at = place;
            for (; at < length && (isLetter(bytes[at]) || isDigit(bytes[at])); at++) {
                if (isLetter(bytes[at])) {
                    letters++;
                    word = withLetter(word, bytes[at]);
                } else {
                    digits++;
                    number = number * 10 + bytes[at] - '0';
                }
            }
            if (letters == 0 && digits <= 3) {
                add(NUMBER, place, number);
            } else if (digits == 0 && letters <= 7) {
                add(kindOf(word), place, word);
            } else {
                add(BAD, place, 0);
            }
            return at;
        }

        private int kindOf(long word) {
            for (int i = 0; i < KEYS; i++) {
                if (keys[i] == word) {
                    return STEP + i;
                }
            }
            return NAME;
        }

        private void add(int kind, int place, long value) {
            if (tokens < kinds.length) {
                kinds[tokens] = kind;
                places[tokens] = place;
                values[tokens] = value;
                tokens++;
            }
        }

        int kind() {
            return kinds[current];
        }

        long value() {
            return values[current];
        }

        void advance() {
            if (current + 1 < tokens) {
                current++;
            }
        }

        /** A FAULT at the TOKEN at hand; false, so that a reader can answer it. */
        boolean fails(int kind) {
            faultKind = kind;
            faultPlace = places[current];
            return false;
        }

        boolean takes(int kind) {
            if (kinds[current] != kind) {
                return fails(CANNOT_COME);
            }
            advance();
            return true;
        }

        boolean takesNumber(int low, int high) {
            if (kinds[current] != NUMBER) {
                return fails(CANNOT_COME);
            }
            taken = (int) values[current];
            if (taken < low || taken > high) {
                return fails(WRONG_NUMBER);
            }
            advance();
            return true;
        }

        boolean closes() {
            return kinds[current] == END && !tooLong || fails(CANNOT_COME);
        }
    }

    /** What a FAMILY's text tells. */
    private static final class Family {
        final int[] counts = new int[SORTS];
        final long[] names = new long[26];
        final int[] born = new int[MOST_PERSONS];
        final int[] parent = new int[MOST_PERSONS];
        final int[] godchild = new int[MOST_PERSONS];
        final int[] care = new int[MOST_PERSONS];
        final int[] owner = new int[MOST_ERRORS];
        final int[] from = new int[MOST_ERRORS];
        final int[] to = new int[MOST_ERRORS];
        final int[] wear = new int[MOST_ERRORS];
        final int[] harm = new int[MOST_ERRORS];
        final int[] good = new int[MOST_ERRORS];
        final int[] lengths = new int[MOST_DEEDS];
        final int[] steps = new int[MOST_DEEDS * MOST_DEED_STEPS];
        int caredFor = 0;
        int lines = 0;

        void copyFrom(Family other) {
            System.arraycopy(other.counts, 0, counts, 0, counts.length);
            System.arraycopy(other.names, 0, names, 0, names.length);
            System.arraycopy(other.born, 0, born, 0, born.length);
            System.arraycopy(other.parent, 0, parent, 0, parent.length);
            System.arraycopy(other.godchild, 0, godchild, 0, godchild.length);
            System.arraycopy(other.care, 0, care, 0, care.length);
            System.arraycopy(other.owner, 0, owner, 0, owner.length);
            System.arraycopy(other.from, 0, from, 0, from.length);
            System.arraycopy(other.to, 0, to, 0, to.length);
            System.arraycopy(other.wear, 0, wear, 0, wear.length);
            System.arraycopy(other.harm, 0, harm, 0, harm.length);
            System.arraycopy(other.good, 0, good, 0, good.length);
            System.arraycopy(other.lengths, 0, lengths, 0, lengths.length);
            System.arraycopy(other.steps, 0, steps, 0, steps.length);
            caredFor = other.caredFor;
            lines = other.lines;
        }

        boolean read(Text text) {
            Arrays.fill(counts, 0);
            Arrays.fill(names, 0);
            Arrays.fill(parent, NONE);
            Arrays.fill(godchild, NONE);
            Arrays.fill(care, 1);
            caredFor = 0;
            lines = 0;
            text.open(MOST_FAMILY);
            for (int i = 0; i < MOST_FAMILY && text.kind() != END; i++) {
                if (!readLine(text) || !text.takes(';')) {
                    return false;
                }
                lines++;
            }
            return text.closes();
        }

        private boolean readLine(Text text) {
            switch (text.kind()) {
                case STEP: return begins(text, STEPS);
                case PERSON: return readPerson(text);
                case GOD: return readGod(text);
                case CARE: return readCare(text);
                case ERROR: return readError(text);
                case DEED: return readDeed(text);
                default: return text.fails(CANNOT_COME);
            }
        }

        /** A LINE's first WORD and the NAME that it tells. */
        private boolean begins(Text text, int sort) {
            int slot = FIRST_SLOT[sort] + counts[sort];
            if (slot >= FIRST_SLOT[sort + 1]) {
                return text.fails(TOO_MANY);
            }
            text.advance();
            if (text.kind() != NAME) {
                return text.fails(CANNOT_COME);
            }
            if (slotOf(text.value()) != NONE) {
                return text.fails(WRONG_NAME);
            }
            names[slot] = text.value();
            counts[sort]++;
            text.advance();
            return true;
        }

        private boolean readPerson(Text text) {
            int p = counts[PERSONS];
            if (!begins(text, PERSONS) || !text.takesNumber(0, FIRST_YEAR)) {
                return false;
            }
            born[p] = text.taken;
            if (text.kind() != OF) {
                return true;
            }
            text.advance();
            int of = known(text, PERSONS);
            if (of == NONE) {
                return false;
            }
            if (born[of] >= born[p]) {
                return text.fails(WRONG_NAME);
            }
            parent[p] = of;
            text.advance();
            return true;
        }

        private boolean readGod(Text text) {
            text.advance();
            int p = known(text, PERSONS);
            if (p == NONE) {
                return false;
            }
            if (godchild[p] != NONE) {
                return text.fails(WRONG_NAME);
            }
            text.advance();
            int child = known(text, PERSONS);
            if (child == NONE) {
                return false;
            }
            if (child == p) {
                return text.fails(WRONG_NAME);
            }
            godchild[p] = child;
            text.advance();
            return true;
        }

        private boolean readCare(Text text) {
            text.advance();
            int p = known(text, PERSONS);
            if (p == NONE) {
                return false;
            }
            if ((caredFor >> p & 1) == 1) {
                return text.fails(WRONG_NAME);
            }
            caredFor |= 1 << p;
            text.advance();
            if (!text.takesNumber(0, 9)) {
                return false;
            }
            care[p] = text.taken;
            return true;
        }

        private boolean readError(Text text) {
            int e = counts[ERRORS];
            if (!begins(text, ERRORS)) {
                return false;
            }
            owner[e] = known(text, PERSONS);
            if (owner[e] == NONE) {
                return false;
            }
            text.advance();
            from[e] = known(text, STEPS);
            if (from[e] == NONE) {
                return false;
            }
            text.advance();
            to[e] = known(text, STEPS);
            if (to[e] == NONE) {
                return false;
            }
            if (to[e] == from[e]) {
                return text.fails(WRONG_NAME);
            }
            text.advance();
            return readWeights(text, e);
        }

        private boolean readWeights(Text text, int e) {
            if (!text.takesNumber(1, 20)) {
                return false;
            }
            wear[e] = text.taken;
            if (!text.takesNumber(0, 20)) {
                return false;
            }
            harm[e] = text.taken;
            if (!text.takesNumber(0, 20)) {
                return false;
            }
            good[e] = text.taken;
            return true;
        }

        private boolean readDeed(Text text) {
            int d = counts[DEEDS];
            if (!begins(text, DEEDS)) {
                return false;
            }
            for (int i = 0; i <= MOST_DEED_STEPS; i++) {
                if (i > 0 && text.kind() == ';') {
                    return true;
                }
                int step = known(text, STEPS);
                if (step == NONE) {
                    return false;
                }
                if (i == MOST_DEED_STEPS) {
                    return text.fails(TOO_MANY);
                }
                steps[d * MOST_DEED_STEPS + i] = step;
                lengths[d] = i + 1;
                text.advance();
            }
            return true;
        }

        private int slotOf(long name) {
            for (int slot = 0; slot < names.length; slot++) {
                if (names[slot] == name) {
                    return slot;
                }
            }
            return NONE;
        }

        /** The number of the NAME at hand (which stays at hand); NONE with a FAULT, if it is none of that sort. */
        int known(Text text, int sort) {
            if (text.kind() != NAME) {
                text.fails(CANNOT_COME);
                return NONE;
            }
            int slot = slotOf(text.value());
            if (slot < FIRST_SLOT[sort] || slot >= FIRST_SLOT[sort + 1]) {
                text.fails(WRONG_NAME);
                return NONE;
            }
            return slot - FIRST_SLOT[sort];
        }

        boolean has(int sort, int i) {
            return i >= 0 && i < counts[sort];
        }

        boolean isSet(int set) {
            return set >= 0 && set < 1 << counts[ERRORS];
        }

        /** STEP i of a DEED that there is; NONE, if it has none such. */
        int stepOf(int d, int i) {
            return i < 0 || i >= lengths[d] ? NONE : steps[d * MOST_DEED_STEPS + i];
        }

        int childrenOf(int p) {
            int bits = 0;
            for (int i = 0; i < counts[PERSONS]; i++) {
                bits |= parent[i] == p ? 1 << i : 0;
            }
            return bits;
        }

        /** One is told behind whom it was born of, so that one way along the row finds all. */
        int underOf(int p) {
            int bits = 0;
            for (int i = p + 1; i < counts[PERSONS]; i++) {
                if (parent[i] == p || parent[i] != NONE && (bits >> parent[i] & 1) == 1) {
                    bits |= 1 << i;
                }
            }
            return bits;
        }

        int heirOf(int p, int dead) {
            int at = p;
            for (int i = 0; i < MOST_PERSONS && at != NONE; i++) {
                int child = eldest(childrenOf(at) & ~dead);
                if (child != NONE) {
                    return child;
                }
                at = eldest(withLiving(childrenOf(at), dead));
            }
            int child = godchild[p];
            return child != NONE && (dead >> child & 1) == 0 ? child : STATE;
        }

        private int eldest(int bits) {
            int found = NONE;
            for (int i = 0; i < counts[PERSONS]; i++) {
                if ((bits >> i & 1) == 1 && (found == NONE || born[i] < born[found])) {
                    found = i;
                }
            }
            return found;
        }

        private int withLiving(int bits, int dead) {
            int found = 0;
            for (int i = 0; i < counts[PERSONS]; i++) {
                if ((bits >> i & 1) == 1 && (underOf(i) & ~dead) != 0) {
                    found |= 1 << i;
                }
            }
            return found;
        }

        /** By some ERRORS (bits): those that are made of a STEP, as bits, and from bit 8 on what it becomes. */
        int slip(int set, int step) {
            int by = step;
            int made = 0;
            for (int e = 0; e < counts[ERRORS]; e++) {
                if ((set >> e & 1) == 1 && from[e] == by) {
                    by = to[e];
                    made |= 1 << e;
                }
            }
            return by << 8 | made;
        }

        int become(int set, int step) {
            return slip(set, step) >> 8;
        }

        int becomeAll(int set, int bits) {
            int all = 0;
            for (int s = 0; s < counts[STEPS]; s++) {
                all |= (bits >> s & 1) == 1 ? 1 << become(set, s) : 0;
            }
            return all;
        }

        boolean cancelOut(int d, int a, int b) {
            boolean wrongByOne = spoils(1 << a, d) || spoils(1 << b, d);
            return wrongByOne && !spoils(1 << a | 1 << b, d);
        }

        private boolean spoils(int set, int d) {
            for (int i = 0; i < lengths[d]; i++) {
                int step = steps[d * MOST_DEED_STEPS + i];
                if (become(set, step) != step) {
                    return true;
                }
            }
            return false;
        }
    }

    /** All that is so in a FAMILY. */
    private static final class Life {
        final int[] bearer = new int[MOST_ERRORS];
        final int[] wear = new int[MOST_ERRORS];
        final int[] made = new int[MOST_ERRORS];
        final int[] madeBy = new int[MOST_PERSONS];
        final int[] came = new int[MOST_DEED_STEPS];
        int cameLength = 0;
        int year = FIRST_YEAR;
        int fortune = FIRST_FORTUNE;
        int dead = 0;
        int done = 0;
        int doneRight = 0;
        int firstWorn = NONE;

        void begin(Family house) {
            System.arraycopy(house.owner, 0, bearer, 0, bearer.length);
            System.arraycopy(house.wear, 0, wear, 0, wear.length);
            Arrays.fill(made, 0);
            Arrays.fill(madeBy, 0);
            cameLength = 0;
            year = FIRST_YEAR;
            fortune = FIRST_FORTUNE;
            dead = 0;
            done = 0;
            doneRight = 0;
            firstWorn = NONE;
        }

        void copyFrom(Life other) {
            System.arraycopy(other.bearer, 0, bearer, 0, bearer.length);
            System.arraycopy(other.wear, 0, wear, 0, wear.length);
            System.arraycopy(other.made, 0, made, 0, made.length);
            System.arraycopy(other.madeBy, 0, madeBy, 0, madeBy.length);
            System.arraycopy(other.came, 0, came, 0, came.length);
            cameLength = other.cameLength;
            year = other.year;
            fortune = other.fortune;
            dead = other.dead;
            done = other.done;
            doneRight = other.doneRight;
            firstWorn = other.firstWorn;
        }

        boolean lives(int p) {
            return (dead >> p & 1) == 0;
        }

        /** The ERRORS that a PERSON, the STATE or nobody (NONE) has, as bits. */
        int errorsOf(Family house, int p) {
            int bits = 0;
            for (int e = 0; e < house.counts[ERRORS]; e++) {
                bits |= bearer[e] == p ? 1 << e : 0;
            }
            return bits;
        }

        int cameAt(int i) {
            return i < 0 || i >= cameLength ? NONE : came[i];
        }

        /** How many STEPS of the latest DEED came out as other ones than it tells. */
        int unlike(Family house, int d) {
            int others = 0;
            for (int i = 0; i < cameLength; i++) {
                others += came[i] != house.stepOf(d, i) ? 1 : 0;
            }
            return others;
        }

        int perform(Family house, int p, int d) {
            if (!lives(p)) {
                return 1;
            }
            cameLength = house.lengths[d];
            for (int i = 0; i < cameLength; i++) {
                int slip = house.slip(errorsOf(house, p), house.stepOf(d, i));
                came[i] = slip >> 8;
                for (int e = 0; e < MOST_ERRORS; e++) {
                    if ((slip >> e & 1) == 1) {
                        makeError(house, p, e);
                    }
                }
            }
            done++;
            doneRight += unlike(house, d) == 0 ? 1 : 0;
            return 0;
        }

        private void makeError(Family house, int p, int e) {
            made[e]++;
            madeBy[p]++;
            fortune += house.good[e] - house.harm[e] * house.care[p];
            wear[e]--;
            if (wear[e] == 0) {
                bearer[e] = NONE;
                firstWorn = firstWorn == NONE ? year : firstWorn;
            }
        }

        int bury(Family house, int p) {
            if (!lives(p)) {
                return 1;
            }
            int heir = house.heirOf(p, dead);
            for (int e = 0; e < house.counts[ERRORS]; e++) {
                if (bearer[e] == p) {
                    bearer[e] = heir;
                }
            }
            dead |= 1 << p;
            return 0;
        }

        int whyNotGiven(Family house, int e, int p) {
            int giver = bearer[e];
            if (giver < 0 || giver >= STATE) {
                return 1;
            }
            if (!lives(giver) || !lives(p)) {
                return 2;
            }
            if (wear[e] > 3) {
                return 3;
            }
            return house.godchild[giver] != p ? 4 : 0;
        }

        int handOver(Family house, int e, int p) {
            int why = whyNotGiven(house, e, p);
            if (why == 0) {
                bearer[e] = p;
            }
            return why;
        }

        void drawYears(Family house, int n, int seed) {
            int x = seed;
            int deeds = house.counts[DEEDS];
            for (int i = 0; i < n; i++) {
                for (int p = 0; p < house.counts[PERSONS]; p++) {
                    if (lives(p)) {
                        x = nextSeed(x);
                        // Where there are no DEEDS, none can be drawn.
                        if ((x >>> 8) % 6 == 0 && deeds > 0) {
                            x = nextSeed(x);
                            perform(house, p, (x >>> 8) % deeds);
                        }
                        x = nextSeed(x);
                        if ((x >>> 8) % 40 == 0) {
                            bury(house, p);
                        }
                    }
                }
                year++;
            }
        }

        private static int nextSeed(int x) {
            return x * 1103515245 + 12345;
        }
    }

    /** A SENTENCE, each part behind those that it joins. */
    private static final class Phrase {
        final int[] kinds = new int[2 * MOST_ONES];
        final int[] signs = new int[2 * MOST_ONES];
        final int[] values = new int[2 * MOST_ONES];
        final int[] stack = new int[2 * MOST_ONES];
        int length = 0;
        int ones = 0;

        void clear() {
            length = 0;
            ones = 0;
        }

        void copyFrom(Phrase other) {
            System.arraycopy(other.kinds, 0, kinds, 0, kinds.length);
            System.arraycopy(other.signs, 0, signs, 0, signs.length);
            System.arraycopy(other.values, 0, values, 0, values.length);
            length = other.length;
            ones = other.ones;
        }

        boolean read(Text text, Family house) {
            clear();
            text.open(MOST_SENTENCE);
            return readCond(text, house, 1) && text.closes();
        }

        private boolean readCond(Text text, Family house, int within) {
            if (!readAll(text, house, within)) {
                return false;
            }
            for (int i = 0; i < MOST_ONES && text.kind() == OR; i++) {
                text.advance();
                if (!readAll(text, house, within)) {
                    return false;
                }
                add(OR, 0, 0);
            }
            return true;
        }

        private boolean readAll(Text text, Family house, int within) {
            if (!readOne(text, house, within)) {
                return false;
            }
            for (int i = 0; i < MOST_ONES && text.kind() == AND; i++) {
                text.advance();
                if (!readOne(text, house, within)) {
                    return false;
                }
                add(AND, 0, 0);
            }
            return true;
        }

        private boolean readOne(Text text, Family house, int within) {
            int kind = text.kind();
            if (kind != '(' && (kind < NOT || kind > OWN_NUMBER)) {
                return text.fails(CANNOT_COME);
            }
            if (ones >= MOST_ONES || within > MOST_WITHIN) {
                return text.fails(TOO_MANY);
            }
            ones++;
            text.advance();
            switch (kind) {
                case '(': return readCond(text, house, within + 1) && text.takes(')');
                case NOT: return readOne(text, house, within + 1) && add(NOT, 0, 0);
                case ALIVE:
                case CLEAN: return add(kind, 0, 0);
                case HAS: return readKnown(text, house, kind, ERRORS);
                case UNDER: return readKnown(text, house, kind, PERSONS);
                default: return readMeasure(text, kind);
            }
        }

        private boolean readKnown(Text text, Family house, int kind, int sort) {
            int i = house.known(text, sort);
            if (i == NONE) {
                return false;
            }
            text.advance();
            return add(kind, 0, i);
        }

        private boolean readMeasure(Text text, int kind) {
            int sign = text.kind();
            if (sign < '<' || sign > '>') {
                return text.fails(CANNOT_COME);
            }
            text.advance();
            return text.takesNumber(0, 999) && add(kind, sign, text.taken);
        }

        private boolean add(int kind, int sign, int value) {
            if (length < kinds.length) {
                kinds[length] = kind;
                signs[length] = sign;
                values[length] = value;
                length++;
            }
            return true;
        }

        /** PERSONS of whom it may be said, as bits. */
        int saidOf(Family house, Life life) {
            int all = (1 << house.counts[PERSONS]) - 1;
            int top = 0;
            for (int i = 0; i < length; i++) {
                int kind = kinds[i];
                if (kind == NOT && top > 0) {
                    stack[top - 1] = all & ~stack[top - 1];
                } else if (kind == AND && top > 1) {
                    top--;
                    stack[top - 1] &= stack[top];
                } else if (kind == OR && top > 1) {
                    top--;
                    stack[top - 1] |= stack[top];
                } else if (top < stack.length) {
                    stack[top] = trueOf(house, life, i);
                    top++;
                }
            }
            return stack[0];
        }

        private int trueOf(Family house, Life life, int i) {
            if (kinds[i] == UNDER) {
                return house.underOf(values[i]);
            }
            int bits = 0;
            for (int p = 0; p < house.counts[PERSONS]; p++) {
                bits |= isTrue(house, life, i, p) ? 1 << p : 0;
            }
            return bits;
        }

        private boolean isTrue(Family house, Life life, int i, int p) {
            switch (kinds[i]) {
                case ALIVE: return life.lives(p);
                case CLEAN: return life.errorsOf(house, p) == 0;
                case HAS: return life.bearer[values[i]] == p;
                case HOW_MANY: return compares(Integer.bitCount(life.errorsOf(house, p)), i);
                case BORN: return compares(house.born[p], i);
                case MADE: return compares(life.madeBy[p], i);
                default: return compares(p, i);
            }
        }

        private boolean compares(int number, int i) {
            switch (signs[i]) {
                case '<': return number < values[i];
                case '=': return number == values[i];
                default: return number > values[i];
            }
        }
    }

    /** A CHRONICLE's LINES. */
    private static final class Script {
        final int[] kinds = new int[MOST_LINES];
        final int[] firsts = new int[MOST_LINES];
        final int[] seconds = new int[MOST_LINES];
        int lines = 0;
        int why = 0;

        boolean read(Text text, Family house) {
            lines = 0;
            text.open(MOST_CHRONICLE);
            for (int i = 0; i <= MOST_LINES && text.kind() != END; i++) {
                if (!readLine(text, house) || !text.takes(';')) {
                    return false;
                }
            }
            return text.closes();
        }

        private boolean readLine(Text text, Family house) {
            int kind = text.kind();
            if (kind != GIVES && kind != YEAR && house.known(text, PERSONS) == NONE) {
                return false;
            }
            if (lines >= MOST_LINES) {
                return text.fails(TOO_MANY);
            }
            switch (kind) {
                case GIVES: return readGift(text, house);
                case YEAR: return readYear(text);
                default: return readAct(text, house);
            }
        }

        private boolean readGift(Text text, Family house) {
            text.advance();
            int e = house.known(text, ERRORS);
            if (e == NONE) {
                return false;
            }
            text.advance();
            int p = house.known(text, PERSONS);
            if (p == NONE) {
                return false;
            }
            text.advance();
            return add(GIVES, e, p);
        }

        private boolean readYear(Text text) {
            text.advance();
            return text.takesNumber(1, 99) && add(YEAR, text.taken, 0);
        }

        private boolean readAct(Text text, Family house) {
            int p = house.known(text, PERSONS);
            text.advance();
            int kind = text.kind();
            if (kind != DOES && kind != DIES) {
                return text.fails(CANNOT_COME);
            }
            text.advance();
            if (kind == DIES) {
                return add(DIES, p, 0);
            }
            int d = house.known(text, DEEDS);
            if (d == NONE) {
                return false;
            }
            text.advance();
            return add(DOES, p, d);
        }

        private boolean add(int kind, int first, int second) {
            if (lines < MOST_LINES) {
                kinds[lines] = kind;
                firsts[lines] = first;
                seconds[lines] = second;
                lines++;
            }
            return true;
        }

        /** Lives LINE by LINE up to the one that is WRONG: that one; NONE, if none is. */
        int liveBy(Family house, Life life) {
            why = 0;
            for (int i = 0; i < lines; i++) {
                why = liveLine(house, life, i);
                if (why != 0) {
                    return i;
                }
            }
            return NONE;
        }

        private int liveLine(Family house, Life life, int i) {
            switch (kinds[i]) {
                case DOES: return life.perform(house, firsts[i], seconds[i]);
                case DIES: return more(10, life.bury(house, firsts[i]));
                case GIVES: return more(20, life.handOver(house, firsts[i], seconds[i]));
                default:
                    if (life.year + firsts[i] > LAST_YEAR) {
                        return 31;
                    }
                    life.year += firsts[i];
                    return 0;
            }
        }

        private static int more(int by, int why) {
            return why == 0 ? 0 : by + why;
        }
    }

    /** Finds the rows of STEPS by which a PERSON's errors make a told row. */
    private static final class Planner {
        final int[] wanted = new int[MOST_PLAN];
        final int[] row = new int[MOST_PLAN];
        final int[] wear = new int[MOST_ERRORS];
        final int[] first = new int[MOST_PLAN];
        int firstLength = 0;
        int length = 0;
        boolean found = false;

        int waysTo(Text text, int told, Family house, Life life, int p) {
            length = Math.min(told, MOST_PLAN);
            for (int i = 0; i < length; i++) {
                wanted[i] = text.byteAt(i);
            }
            for (int e = 0; e < house.counts[ERRORS]; e++) {
                wear[e] = life.bearer[e] == p ? life.wear[e] : 0;
            }
            found = false;
            return waysFrom(house, 0);
        }

        /** Goes at most as deep as a PLAN is long. */
        private int waysFrom(Family house, int i) {
            if (i >= length) {
                keepFirst();
                return 1;
            }
            int ways = 0;
            int able = ableNow(house);
            for (int s = 0; s < house.counts[STEPS]; s++) {
                int slip = house.slip(able, s);
                if (slip >> 8 == wanted[i]) {
                    row[i] = s;
                    wearBy(slip, 1);
                    ways += waysFrom(house, i + 1);
                    wearBy(slip, -1);
                }
            }
            return ways;
        }

        private void keepFirst() {
            if (!found) {
                System.arraycopy(row, 0, first, 0, length);
                firstLength = length;
                found = true;
            }
        }

        private int ableNow(Family house) {
            int bits = 0;
            for (int e = 0; e < house.counts[ERRORS]; e++) {
                bits |= wear[e] > 0 ? 1 << e : 0;
            }
            return bits;
        }

        private void wearBy(int slip, int by) {
            for (int e = 0; e < MOST_ERRORS; e++) {
                wear[e] -= (slip >> e & 1) * by;
            }
        }
    }

    /** What was so ahead of the latest acts, in a ring. */
    private static final class Past {
        final Life[] kept = new Life[MOST_UNDONE];
        int count = 0;
        int next = 0;

        Past() {
            for (int i = 0; i < MOST_UNDONE; i++) {
                kept[i] = new Life();
            }
        }

        void clear() {
            count = 0;
        }

        void keep(Life life) {
            kept[next].copyFrom(life);
            next = (next + 1) % MOST_UNDONE;
            count = Math.min(count + 1, MOST_UNDONE);
        }

        int takeBack(Life life) {
            if (count == 0) {
                return NONE;
            }
            next = (next + MOST_UNDONE - 1) % MOST_UNDONE;
            life.copyFrom(kept[next]);
            count--;
            return count;
        }
    }

    private static final class Image {
        final Family house = new Family();
        final Life life = new Life();
        final Phrase phrase = new Phrase();
        boolean kept = false;
    }
}
