import java.util.ArrayList;
import java.util.Arrays;
import java.util.HashMap;
import java.util.List;
import java.util.Map;
import java.util.Random;
import java.util.Set;
import java.util.TreeMap;
import java.util.function.IntPredicate;
import java.util.regex.Matcher;
import java.util.regex.Pattern;

/** A second, plain model of the whole document against random texts and runs of calls (promises 1 to 42). */
public final class ModelTest {
    private static final int RUNS = 400;

    public static void main(String[] args) {
        for (int run = 0; run < RUNS; run++) {
            new Run(run).go();
        }
        Check.close("ModelTest");
    }

    /** A FAULT, thrown as soon as it is seen. */
    private static final class Fault extends RuntimeException {
        private static final long serialVersionUID = 1;
        final int place;
        final int kind;

        Fault(int place, int kind) {
            this.place = place;
            this.kind = kind;
        }
    }

    /** The texts, read by regular expressions and exceptions. */
    private static final class Reader {
        static final Pattern TOKEN = Pattern.compile("[ \\n]*+(?:([a-z0-9]+)|([;<=>()])|(.))", Pattern.DOTALL);
        static final Set<String> WORDS = Set.of("step", "person", "of", "god", "care", "error", "deed", "does", "dies", "gives", "year",
            "or", "and", "not", "alive", "clean", "has", "under", "errors", "born", "made", "number");
        final String text;
        final int most;
        int at = 0;
        int start;
        String token;

        Reader(String text, int most) {
            this.text = text;
            this.most = most;
            next();
        }

        void next() {
            Matcher m = TOKEN.matcher(text);
            token = "";
            start = Math.min(text.length(), most);
            if (m.find(at) && m.start() == at) {
                int group = m.group(1) != null ? 1 : m.group(2) != null ? 2 : 3;
                if (m.start(group) < most) {
                    start = m.start(group);
                    token = group == 3 ? "?" : m.group(group);
                    at = m.end();
                }
            }
        }

        Fault fault(int kind) {
            return new Fault(start, kind);
        }

        boolean ends() {
            return token.isEmpty();
        }

        boolean isNumber() {
            return token.matches("[0-9]{1,3}");
        }

        boolean isName() {
            return token.matches("[a-z]{1,7}") && !WORDS.contains(token);
        }

        void close() {
            if (!ends() || text.length() > most) {
                throw fault(1);
            }
        }

        void want(String due) {
            if (!token.equals(due)) {
                throw fault(1);
            }
            next();
        }

        int number(int low, int high) {
            if (!isNumber()) {
                throw fault(1);
            }
            int number = Integer.parseInt(token);
            if (number < low || number > high) {
                throw fault(2);
            }
            next();
            return number;
        }

        String newName(Map<String, String> sorts, String sort) {
            if (!isName()) {
                throw fault(1);
            }
            if (sorts.containsKey(token)) {
                throw fault(3);
            }
            sorts.put(token, sort);
            String name = token;
            next();
            return name;
        }

        /** The known NAME at hand, which stays at hand. */
        String known(Map<String, String> sorts, String sort) {
            if (!isName()) {
                throw fault(1);
            }
            if (!sort.equals(sorts.get(token))) {
                throw fault(3);
            }
            return token;
        }
    }

    private static final class Man {
        int born;
        int parent = -1;
        int godchild = -1;
        int care = 1;
        boolean cared = false;
    }

    private static final class Slip {
        int owner;
        int from;
        int to;
        int wear;
        int harm;
        int good;
    }

    private static final class Kin {
        final Map<String, String> sorts = new HashMap<>();
        final List<String> steps = new ArrayList<>();
        final List<String> names = new ArrayList<>();
        final List<Man> men = new ArrayList<>();
        final List<String> slipNames = new ArrayList<>();
        final List<Slip> slips = new ArrayList<>();
        final List<String> deedNames = new ArrayList<>();
        final List<int[]> deeds = new ArrayList<>();
        int lines = 0;

        static Kin read(String text) {
            Kin kin = new Kin();
            Reader r = new Reader(text, 900);
            while (!r.ends()) {
                kin.line(r);
                r.want(";");
                kin.lines++;
            }
            r.close();
            return kin;
        }

        void limit(Reader r, List<?> of, int most) {
            if (of.size() >= most) {
                throw r.fault(4);
            }
            r.next();
        }

        void line(Reader r) {
            switch (r.token) {
                case "step" -> {
                    limit(r, steps, 6);
                    steps.add(r.newName(sorts, "s"));
                }
                case "person" -> {
                    limit(r, men, 10);
                    Man man = new Man();
                    names.add(r.newName(sorts, "p"));
                    men.add(man);
                    man.born = r.number(0, 300);
                    if (r.token.equals("of")) {
                        r.next();
                        int parent = names.indexOf(r.known(sorts, "p"));
                        if (men.get(parent).born >= man.born) {
                            throw r.fault(3);
                        }
                        man.parent = parent;
                        r.next();
                    }
                }
                case "god" -> {
                    r.next();
                    int first = names.indexOf(r.known(sorts, "p"));
                    if (men.get(first).godchild != -1) {
                        throw r.fault(3);
                    }
                    r.next();
                    int second = names.indexOf(r.known(sorts, "p"));
                    if (first == second) {
                        throw r.fault(3);
                    }
                    men.get(first).godchild = second;
                    r.next();
                }
                case "care" -> {
                    r.next();
                    Man man = men.get(names.indexOf(r.known(sorts, "p")));
                    if (man.cared) {
                        throw r.fault(3);
                    }
                    r.next();
                    man.cared = true;
                    man.care = r.number(0, 9);
                }
                case "error" -> {
                    limit(r, slips, 6);
                    Slip slip = new Slip();
                    slipNames.add(r.newName(sorts, "e"));
                    slip.owner = names.indexOf(r.known(sorts, "p"));
                    r.next();
                    slip.from = steps.indexOf(r.known(sorts, "s"));
                    r.next();
                    slip.to = steps.indexOf(r.known(sorts, "s"));
                    if (slip.from == slip.to) {
                        throw r.fault(3);
                    }
                    r.next();
                    slip.wear = r.number(1, 20);
                    slip.harm = r.number(0, 20);
                    slip.good = r.number(0, 20);
                    slips.add(slip);
                }
                case "deed" -> {
                    limit(r, deeds, 4);
                    deedNames.add(r.newName(sorts, "d"));
                    List<Integer> row = new ArrayList<>();
                    do {
                        int step = steps.indexOf(r.known(sorts, "s"));
                        if (row.size() == 12) {
                            throw r.fault(4);
                        }
                        row.add(step);
                        r.next();
                    } while (!r.token.equals(";"));
                    deeds.add(row.stream().mapToInt(i -> i).toArray());
                }
                default -> throw r.fault(1);
            }
        }

        boolean isUnder(int q, int p) {
            for (int at = men.get(q).parent; at != -1; at = men.get(at).parent) {
                if (at == p) {
                    return true;
                }
            }
            return false;
        }

        int bits(int n, IntPredicate test) {
            int bits = 0;
            for (int i = 0; i < n; i++) {
                bits += test.test(i) ? 1 << i : 0;
            }
            return bits;
        }

        int under(int p) {
            return bits(men.size(), q -> isUnder(q, p));
        }

        int by(int set, int step) {
            int now = step;
            for (int e = 0; e < slips.size(); e++) {
                if ((set & 1 << e) != 0 && slips.get(e).from == now) {
                    now = slips.get(e).to;
                }
            }
            return now;
        }

        int rests(int set) {
            int times = 0;
            for (int s = 0; s < steps.size(); s++) {
                int at = s;
                int way = 0;
                while (!goesRound(set, at)) {
                    at = by(set, at);
                    way++;
                }
                times = Math.max(times, way);
            }
            return times;
        }

        private boolean goesRound(int set, int s) {
            int at = s;
            for (int i = 0; i < 6; i++) {
                at = by(set, at);
                if (at == s) {
                    return true;
                }
            }
            return false;
        }

        boolean wrong(int set, int d) {
            return Arrays.stream(deeds.get(d)).anyMatch(s -> by(set, s) != s);
        }

        List<Integer> cancel(int d) {
            List<Integer> pairs = new ArrayList<>();
            for (int pair = 0; pair < 60; pair++) {
                int a = pair / 10;
                int b = pair % 10;
                if (a < b && b < slips.size() && (wrong(1 << a, d) || wrong(1 << b, d)) && !wrong(1 << a | 1 << b, d)) {
                    pairs.add(pair);
                }
            }
            return pairs;
        }
    }

    /** All that is so. */
    private static final class World implements Cloneable {
        final Kin kin;
        int year = 300;
        int fortune = 1000;
        int done = 0;
        int right = 0;
        int firstWorn = -1;
        boolean[] dead = new boolean[11];
        int[] bearer;
        int[] left;
        int[] made;
        int[] by = new int[10];
        int[] came = null;

        World(Kin kin) {
            this.kin = kin;
            bearer = kin.slips.stream().mapToInt(s -> s.owner).toArray();
            left = kin.slips.stream().mapToInt(s -> s.wear).toArray();
            made = new int[left.length];
        }

        World copy() {
            try {
                World w = (World) clone();
                w.dead = dead.clone();
                w.bearer = bearer.clone();
                w.left = left.clone();
                w.made = made.clone();
                w.by = by.clone();
                return w;
            } catch (CloneNotSupportedException e) {
                throw new IllegalStateException(e);
            }
        }

        int step(int p, int told) {
            int now = told;
            for (int e = 0; e < left.length; e++) {
                Slip slip = kin.slips.get(e);
                if (bearer[e] == p && slip.from == now) {
                    now = slip.to;
                    made[e]++;
                    by[p]++;
                    fortune = fortune - slip.harm * kin.men.get(p).care + slip.good;
                    if (--left[e] == 0) {
                        bearer[e] = -1;
                        firstWorn = firstWorn < 0 ? year : firstWorn;
                    }
                }
            }
            return now;
        }

        int act(int p, int d) {
            if (dead[p]) {
                return 1;
            }
            int[] told = kin.deeds.get(d);
            came = Arrays.stream(told).map(s -> step(p, s)).toArray();
            done++;
            right += Arrays.equals(told, came) ? 1 : 0;
            return 0;
        }

        /** The living heir by blood, eldest ahead; -1 without one. */
        int blood(int p) {
            List<Integer> children = new ArrayList<>();
            for (int q = 0; q < kin.men.size(); q++) {
                if (kin.men.get(q).parent == p) {
                    children.add(q);
                }
            }
            children.sort((a, b) -> Integer.compare(kin.men.get(a).born, kin.men.get(b).born));
            for (int child : children) {
                if (!dead[child]) {
                    return child;
                }
            }
            for (int child : children) {
                int found = blood(child);
                if (found != -1) {
                    return found;
                }
            }
            return -1;
        }

        int heir(int p) {
            int heir = blood(p);
            int godchild = kin.men.get(p).godchild;
            return heir != -1 ? heir : godchild != -1 && !dead[godchild] ? godchild : 10;
        }

        int die(int p) {
            if (dead[p]) {
                return 1;
            }
            int heir = heir(p);
            dead[p] = true;
            for (int e = 0; e < bearer.length; e++) {
                bearer[e] = bearer[e] == p ? heir : bearer[e];
            }
            return 0;
        }

        int give(int e, int p) {
            if (left[e] == 0 || bearer[e] == 10) {
                return 1;
            }
            if (dead[bearer[e]] || dead[p]) {
                return 2;
            }
            if (left[e] > 3) {
                return 3;
            }
            if (kin.men.get(bearer[e]).godchild != p) {
                return 4;
            }
            bearer[e] = p;
            return 0;
        }

        int line(int p, int n) {
            World w = copy();
            int at = p;
            for (int i = 0; i < n && at != 10; i++) {
                int next = w.heir(at);
                w.die(at);
                at = next;
            }
            return at;
        }

        void drawn(int n, int seed) {
            int[] x = {seed};
            for (int i = 0; i < n; i++, year++) {
                for (int p = 0; p < kin.men.size(); p++) {
                    if (dead[p]) {
                        continue;
                    }
                    if (draw(x, 6) == 0 && !kin.deeds.isEmpty()) {
                        act(p, draw(x, kin.deeds.size()));
                    }
                    if (draw(x, 40) == 0) {
                        die(p);
                    }
                }
            }
        }

        static int draw(int[] x, int n) {
            x[0] = (int) ((x[0] * 1103515245L + 12345L) & 0xffffffffL);
            return (int) (((x[0] & 0xffffffffL) / 256) % n);
        }

        /** How many ways, then the first. */
        int[] plan(int p, int[] wanted) {
            int n = kin.steps.size();
            int all = 1;
            for (int i = 0; i < wanted.length; i++) {
                all *= n;
            }
            int[] answer = {0};
            for (int code = 0; code < all; code++) {
                int[] row = new int[wanted.length];
                for (int i = wanted.length - 1, rest = code; i >= 0; i--, rest /= n) {
                    row[i] = rest % n;
                }
                World w = copy();
                if (Arrays.equals(Arrays.stream(row).map(s -> w.step(p, s)).toArray(), wanted)) {
                    if (answer[0] == 0) {
                        answer = Arrays.copyOf(answer, 1 + row.length);
                        System.arraycopy(row, 0, answer, 1, row.length);
                    }
                    answer[0]++;
                }
            }
            return answer;
        }

        /** Times, deed, loss; null, if not by 20. */
        int[] worn(int e) {
            if (bearer[e] == 10) {
                return null;
            }
            if (left[e] == 0) {
                return new int[] {0, -1, 0};
            }
            TreeMap<Long, int[]> found = new TreeMap<>();
            for (int d = 0; d < kin.deeds.size(); d++) {
                World w = copy();
                int times = 0;
                while (times < 20 && w.left[e] > 0) {
                    w.act(bearer[e], d);
                    times++;
                }
                if (w.left[e] == 0) {
                    int loss = fortune - w.fortune;
                    found.put((times * 1000000L + loss + 500000) * 10 + d, new int[] {times, d, loss});
                }
            }
            return found.isEmpty() ? null : found.firstEntry().getValue();
        }

        /** The least harm in all, then who has each error. */
        int[] gifts() {
            int[] best = new int[1 + bearer.length];
            best[0] = Integer.MAX_VALUE;
            gifts(0, 0, new int[bearer.length], new ArrayList<>(), best);
            return best;
        }

        private void gifts(int e, int harm, int[] who, List<Integer> taken, int[] best) {
            if (e == bearer.length) {
                if (harm < best[0]) {
                    best[0] = harm;
                    System.arraycopy(who, 0, best, 1, who.length);
                }
                return;
            }
            if (bearer[e] == -1 || bearer[e] == 10) {
                who[e] = -1;
                gifts(e + 1, harm, who, taken, best);
                return;
            }
            who[e] = bearer[e];
            gifts(e + 1, harm + kin.slips.get(e).harm * kin.men.get(bearer[e]).care, who, taken, best);
            int child = kin.men.get(bearer[e]).godchild;
            if (child != -1 && !taken.contains(child) && copy().give(e, child) == 0) {
                taken.add(child);
                who[e] = child;
                gifts(e + 1, harm + kin.slips.get(e).harm * kin.men.get(child).care, who, taken, best);
                taken.remove((Integer) child);
            }
        }
    }

    /** A SENTENCE as a tree of tests. */
    private static final class Saying {
        interface Test {
            boolean of(World w, int p);
        }

        int ones = 0;
        Test test;

        static Saying read(String text, Kin kin) {
            Saying saying = new Saying();
            Reader r = new Reader(text, 200);
            saying.test = saying.cond(r, kin, 1);
            r.close();
            return saying;
        }

        Test cond(Reader r, Kin kin, int within) {
            Test left = all(r, kin, within);
            while (r.token.equals("or")) {
                r.next();
                Test a = left;
                Test b = all(r, kin, within);
                left = (w, p) -> a.of(w, p) || b.of(w, p);
            }
            return left;
        }

        Test all(Reader r, Kin kin, int within) {
            Test left = one(r, kin, within);
            while (r.token.equals("and")) {
                r.next();
                Test a = left;
                Test b = one(r, kin, within);
                left = (w, p) -> a.of(w, p) && b.of(w, p);
            }
            return left;
        }

        Test one(Reader r, Kin kin, int within) {
            String word = r.token;
            if (!List.of("not", "(", "alive", "clean", "has", "under", "errors", "born", "made", "number").contains(word)) {
                throw r.fault(1);
            }
            if (ones == 20 || within == 9) {
                throw r.fault(4);
            }
            ones++;
            r.next();
            switch (word) {
                case "not": {
                    Test a = one(r, kin, within + 1);
                    return (w, p) -> !a.of(w, p);
                }
                case "(": {
                    Test a = cond(r, kin, within + 1);
                    r.want(")");
                    return a;
                }
                case "alive":
                    return (w, p) -> !w.dead[p];
                case "clean":
                    return (w, p) -> Arrays.stream(w.bearer).noneMatch(b -> b == p);
                case "has": {
                    int e = kin.slipNames.indexOf(r.known(kin.sorts, "e"));
                    r.next();
                    return (w, p) -> w.bearer[e] == p;
                }
                case "under": {
                    int q = kin.names.indexOf(r.known(kin.sorts, "p"));
                    r.next();
                    return (w, p) -> kin.isUnder(p, q);
                }
                default:
                    return measure(r, kin, word);
            }
        }

        Test measure(Reader r, Kin kin, String word) {
            String sign = r.token;
            if (!List.of("<", "=", ">").contains(sign)) {
                throw r.fault(1);
            }
            r.next();
            int due = r.number(0, 999);
            return (w, p) -> {
                int got = switch (word) {
                    case "errors" -> (int) Arrays.stream(w.bearer).filter(b -> b == p).count();
                    case "born" -> kin.men.get(p).born;
                    case "made" -> w.by[p];
                    default -> p;
                };
                return sign.equals("<") ? got < due : sign.equals("=") ? got == due : got > due;
            };
        }
    }

    /** A run of calls on one object and on the model. */
    private static final class Run {
        final Random random;
        final int number;
        final SlipHeirs x = new SlipHeirs();
        Kin kin = new Kin();
        World world = new World(kin);
        Saying saying = null;
        String saidText = "";
        final List<World> past = new ArrayList<>();
        final Object[][] images = new Object[2][];
        int fault = 0;
        int[] planned = {};
        int[] worn = {0, -1, -100001};
        int[] gifts = {};
        int[] told = null;
        int calls = 0;

        Run(int number) {
            this.number = number;
            random = new Random(number * 7919L + 17);
        }

        void eq(String what, int got, int due) {
            Check.eq("run " + number + ", call " + calls + ": " + what, got, due);
        }

        int any(int n) {
            return random.nextInt(n);
        }

        /** Mostly a number below n, at times one that is not. */
        int near(int n) {
            if (any(25) == 0) {
                int[] wild = {-1, -2, n, n + 1, 10, 31, 32, 64, Integer.MIN_VALUE, Integer.MAX_VALUE};
                return wild[any(wild.length)];
            }
            return n == 0 ? 0 : any(n);
        }

        void go() {
            newFamily();
            for (calls = 0; calls < 160; calls++) {
                change();
                ask();
                ask();
            }
        }

        String pick(List<String> of) {
            return of.isEmpty() ? "none" : of.get(any(of.size()));
        }

        String familyText() {
            StringBuilder text = new StringBuilder();
            int steps = 1 + any(6);
            int men = 1 + any(10);
            int[] born = new int[men];
            for (int s = 0; s < steps; s++) {
                text.append("step s").append((char) ('a' + s)).append(any(2) == 0 ? ";" : " ;\n");
            }
            for (int p = 0; p < men; p++) {
                born[p] = any(3) == 0 ? any(300) : Math.min(300, p * 30 + any(30));
                text.append("person p").append((char) ('a' + p)).append(' ').append(born[p]);
                int of = p == 0 ? 0 : any(p);
                if (p > 0 && any(5) > 0 && born[of] < born[p]) {
                    text.append(" of p").append((char) ('a' + of));
                }
                text.append(';');
            }
            for (int p = 0; p < men && men > 1; p++) {
                if (any(2) == 0) {
                    text.append("god p").append((char) ('a' + p)).append(" p").append((char) ('a' + (p + 1 + any(men - 1)) % men)).append(';');
                }
                if (any(3) == 0) {
                    text.append("care p").append((char) ('a' + p)).append(' ').append(any(10)).append(';');
                }
            }
            for (int e = any(7); e > 0 && steps > 1; e--) {
                int from = any(steps);
                text.append("error e").append((char) ('a' + e)).append(" p").append((char) ('a' + any(men))).append(" s").append((char) ('a' + from));
                text.append(" s").append((char) ('a' + (from + 1 + any(steps - 1)) % steps));
                text.append(' ').append(1 + (any(3) == 0 ? any(20) : any(5))).append(' ').append(any(21)).append(' ').append(any(21)).append(';');
            }
            for (int d = any(5); d > 0; d--) {
                text.append("deed d").append((char) ('a' + d));
                for (int i = any(4) == 0 ? 12 : 1 + any(6); i > 0; i--) {
                    text.append(" s").append((char) ('a' + any(steps)));
                }
                text.append(";");
            }
            return text.toString();
        }

        String chronicleText() {
            StringBuilder text = new StringBuilder();
            for (int i = any(8); i > 0; i--) {
                switch (any(6)) {
                    case 0 -> text.append("year ").append(1 + any(99));
                    case 1 -> text.append("gives ").append(pick(kin.slipNames)).append(' ').append(pick(kin.names));
                    case 2 -> text.append(pick(kin.names)).append(" dies");
                    default -> text.append(pick(kin.names)).append(" does ").append(pick(kin.deedNames));
                }
                text.append(any(3) == 0 ? " ;\n" : ";");
            }
            return text.toString();
        }

        String sentenceText(int depth) {
            switch (depth > 4 ? 2 + any(5) : any(10)) {
                case 0: return "not " + sentenceText(depth + 1);
                case 1: return "(" + sentenceText(depth + 1) + ")";
                case 2: return any(2) == 0 ? "alive" : "clean";
                case 3: return "has " + pick(kin.slipNames);
                case 4: return "under " + pick(kin.names);
                case 5: return "number " + pick(List.of("<", "=", ">")) + any(10);
                case 6: return pick(List.of("errors", "born", "made")) + pick(List.of("<", "=", ">")) + (any(2) == 0 ? any(4) : any(300));
                case 7: return sentenceText(depth + 1) + " and " + sentenceText(depth + 1);
                case 8: return sentenceText(depth + 1) + " or " + sentenceText(depth + 1);
                default: return sentenceText(depth + 1) + "\nor not " + sentenceText(depth + 1);
            }
        }

        /** At times something of the text is changed, put in or left out. */
        String spoil(String text, int most) {
            StringBuilder b = new StringBuilder(text);
            if (any(3) == 0) {
                String[] bits = {"a", "1", " ", ";", "step ", " of ", "(", ")", "=", "<", "not ", " and ", "999", "\u00e9", "A", "\t", "sa", "pa",
                    " ea ", " da", "year", ".", "person", "deed dz ", "has "};
                for (int i = 1 + any(2); i > 0; i--) {
                    int at = any(b.length() + 1);
                    int to = Math.min(b.length(), at + any(3) * any(4));
                    b.replace(at, to, bits[any(bits.length)]);
                }
            } else if (any(12) == 0) {
                int at = any(b.length() + 1);
                b.insert(at, " ".repeat(Math.max(0, most - b.length() - 4 + any(9))));
            } else if (any(12) == 0 && b.length() > 0) {
                b.append(b.toString().repeat(1 + any(8)));
            }
            b.setLength(Math.min(b.length(), 940));
            return b.toString();
        }

        void newFamily() {
            String text = spoil(familyText(), 900);
            Check.put(x, text);
            eq("bytes", x.count(4), text.length());
            int due;
            try {
                kin = Kin.read(text);
                world = new World(kin);
                saying = null;
                past.clear();
                fault = 0;
                due = kin.lines;
            } catch (Fault f) {
                fault = f.kind;
                due = -1 - f.place;
            }
            eq("family of <" + text + ">", x.family(), due);
            eq("fault of <" + text + ">", x.fault(), fault);
        }

        void newSentence() {
            String text = spoil(sentenceText(0), 200);
            Check.put(x, text);
            int due;
            try {
                saying = Saying.read(text, kin);
                saidText = text;
                fault = 0;
                due = saying.ones;
            } catch (Fault f) {
                fault = f.kind;
                due = -1 - f.place;
            }
            eq("sentence of <" + text + ">", x.sentence(), due);
            eq("fault of <" + text + ">", x.fault(), fault);
        }

        void chronicle() {
            String text = spoil(chronicleText(), 400);
            int lives = any(2);
            Check.put(x, text);
            int due;
            try {
                due = chronicle(text, lives);
                fault = 0;
            } catch (Fault f) {
                fault = f.kind;
                due = -2 - f.place;
            }
            eq("chronicle of <" + text + ">", x.chronicle(lives), due);
            eq("fault of <" + text + ">", x.fault(), fault);
            for (int what = 0; what < 4; what++) {
                eq("told(" + what + ")", x.told(what), told == null ? -1 : told[what]);
            }
        }

        int chronicle(String text, int lives) {
            List<int[]> lines = new ArrayList<>();
            Reader r = new Reader(text, 400);
            while (!r.ends()) {
                String word = r.token;
                int p = word.equals("gives") || word.equals("year") ? -1 : kin.names.indexOf(r.known(kin.sorts, "p"));
                if (lines.size() == 40) {
                    throw r.fault(4);
                }
                r.next();
                if (word.equals("gives")) {
                    int e = kin.slipNames.indexOf(r.known(kin.sorts, "e"));
                    r.next();
                    lines.add(new int[] {20, e, kin.names.indexOf(r.known(kin.sorts, "p"))});
                    r.next();
                } else if (word.equals("year")) {
                    lines.add(new int[] {30, r.number(1, 99)});
                } else if (r.token.equals("dies")) {
                    r.next();
                    lines.add(new int[] {10, p});
                } else {
                    r.want("does");
                    lines.add(new int[] {0, p, kin.deedNames.indexOf(r.known(kin.sorts, "d"))});
                    r.next();
                }
                r.want(";");
            }
            r.close();
            World w = world.copy();
            int why = 0;
            int i = 0;
            for (; i < lines.size() && why == 0; i++) {
                int[] line = lines.get(i);
                why = switch (line[0]) {
                    case 0 -> w.act(line[1], line[2]);
                    case 10 -> w.die(line[1]);
                    case 20 -> w.give(line[1], line[2]);
                    default -> w.year + line[1] > 999 ? 1 : 0;
                };
                w.year += line[0] == 30 && why == 0 ? line[1] : 0;
                why += why == 0 ? 0 : line[0];
            }
            told = new int[] {why, why == 0 ? lines.size() : i - 1, w.year, w.fortune - world.fortune};
            if (lives == 1) {
                keep();
                world = w;
            }
            return why == 0 ? -1 : i - 1;
        }

        void keep() {
            past.add(world);
            if (past.size() > 8) {
                past.remove(0);
            }
            world = world.copy();
        }

        boolean man(int p) {
            return p >= 0 && p < kin.men.size();
        }

        boolean slip(int e) {
            return e >= 0 && e < kin.slips.size();
        }

        boolean deed(int d) {
            return d >= 0 && d < kin.deeds.size();
        }

        void change() {
            int p = near(kin.men.size());
            int d = near(kin.deeds.size());
            int e = near(kin.slips.size());
            switch (any(24)) {
                case 0:
                    if (any(5) == 0) {
                        newFamily();
                    }
                    break;
                case 1:
                case 2:
                    newSentence();
                    break;
                case 3:
                case 4:
                case 5:
                    chronicle();
                    break;
                case 6:
                    dieNow(p);
                    break;
                case 7:
                case 8:
                    giveNow(e, slip(e) && man(world.bearer[e]) && any(2) == 0 ? kin.men.get(world.bearer[e]).godchild : p);
                    break;
                case 9:
                    yearsNow();
                    break;
                case 10:
                    drawNow();
                    break;
                case 11:
                case 12:
                case 13:
                    undoNow();
                    break;
                case 14:
                    imageNow();
                    break;
                case 15:
                    restoreNow();
                    break;
                case 16:
                    planNow(p);
                    break;
                case 17:
                    whoNow(d);
                    break;
                default:
                    actNow(p, d);
                    break;
            }
        }

        void actNow(int p, int d) {
            int due = -1;
            if (man(p) && deed(d)) {
                World w = world.copy();
                due = w.act(p, d);
                if (due == 0) {
                    keep();
                    world = w;
                }
            }
            eq("act(" + p + ", " + d + ")", x.act(p, d), due);
        }

        void dieNow(int p) {
            int due = -1;
            if (man(p)) {
                World w = world.copy();
                due = w.die(p);
                if (due == 0) {
                    keep();
                    world = w;
                }
            }
            eq("die(" + p + ")", x.die(p), due);
        }

        void giveNow(int e, int p) {
            int due = -1;
            if (man(p) && slip(e)) {
                World w = world.copy();
                due = w.give(e, p);
                if (due == 0) {
                    keep();
                    world = w;
                }
            }
            eq("give(" + e + ", " + p + ")", x.give(e, p), due);
        }

        void yearsNow() {
            int n = any(4) == 0 ? any(102) - 1 : 1 + any(20);
            int due = -1;
            if (n >= 1 && n <= 99 && world.year + n <= 999) {
                keep();
                world.year += n;
                due = world.year;
            }
            eq("years(" + n + ")", x.years(n), due);
        }

        void drawNow() {
            int n = any(3) == 0 ? any(63) - 1 : 1 + any(6);
            int seed = random.nextInt();
            int due = -1;
            if (n >= 1 && n <= 60 && world.year + n <= 999) {
                keep();
                world.drawn(n, seed);
                due = world.year;
            }
            eq("drawn(" + n + ", " + seed + ")", x.drawn(n, seed), due);
        }

        void undoNow() {
            int due = -1;
            if (!past.isEmpty()) {
                world = past.remove(past.size() - 1);
                due = past.size();
            }
            eq("undo()", x.undo(), due);
        }

        void imageNow() {
            int k = near(2);
            boolean due = k == 0 || k == 1;
            if (due) {
                images[k] = new Object[] {world.copy(), saying};
            }
            eq("image(" + k + ")", x.image(k) ? 1 : 0, due ? 1 : 0);
        }

        void restoreNow() {
            int k = near(2);
            boolean due = (k == 0 || k == 1) && images[k] != null;
            if (due) {
                world = ((World) images[k][0]).copy();
                kin = world.kin;
                saying = (Saying) images[k][1];
                past.clear();
            }
            eq("restore(" + k + ")", x.restore(k) ? 1 : 0, due ? 1 : 0);
        }

        void planNow(int p) {
            int[] wanted = new int[any(4) == 0 ? any(8) : 1 + any(3)];
            boolean fine = man(p) && wanted.length > 0 && wanted.length < 7;
            for (int i = 0; i < wanted.length; i++) {
                wanted[i] = any(30) == 0 ? any(256) : any(Math.max(1, kin.steps.size()));
                fine &= wanted[i] < kin.steps.size();
            }
            int due = -1;
            if (fine && !world.dead[p]) {
                int[] answer = world.plan(p, wanted);
                due = answer[0];
                planned = due > 0 ? Arrays.copyOfRange(answer, 1, answer.length) : planned;
            }
            Check.steps(x, wanted);
            eq("plan(" + p + ") of " + Arrays.toString(wanted), x.plan(p), due);
            for (int i = -1; i < 8; i++) {
                eq("planned(" + i + ")", x.planned(i), i < 0 || i >= planned.length ? -1 : planned[i]);
            }
        }

        void whoNow(int d) {
            int[] wanted = {};
            boolean fine = deed(d);
            if (fine) {
                World w = world.copy();
                w.act(any(kin.men.size()), d);
                wanted = any(2) == 0 || w.came == null ? kin.deeds.get(d).clone() : w.came.clone();
                fine = wanted.length == kin.deeds.get(d).length;
                if (any(4) == 0 && wanted.length > 0) {
                    wanted[any(wanted.length)] = any(8);
                }
                for (int step : wanted) {
                    fine &= step < kin.steps.size();
                }
            }
            int due = -1;
            if (fine) {
                int[] row = wanted;
                due = kin.bits(kin.men.size(), p -> {
                    World w = world.copy();
                    return w.act(p, d) == 0 && Arrays.equals(w.came, row);
                });
            }
            Check.steps(x, wanted);
            eq("who(" + d + ") of " + Arrays.toString(wanted), x.who(d), due);
        }

        void ask() {
            switch (any(6)) {
                case 0 -> askPersons();
                case 1 -> askErrors();
                case 2 -> askNow();
                case 3 -> askDeeds();
                case 4 -> askSets();
                default -> askSaid();
            }
        }

        void askPersons() {
            int p = near(kin.men.size());
            int q = near(kin.men.size());
            int n = near(12);
            boolean there = man(p) && !world.dead[p];
            if (man(p)) {
                Man man = kin.men.get(p);
                int[] due = {man.born, man.parent, there ? 1 : 0, kin.bits(kin.slips.size(), e -> world.bearer[e] == p), man.care,
                    man.godchild, kin.bits(kin.men.size(), c -> kin.men.get(c).parent == p), world.by[p]};
                for (int what = 0; what < 8; what++) {
                    eq("person(" + p + ", " + what + ")", x.person(p, what), due[what]);
                }
            } else {
                eq("person(" + p + ", 0) throws", Check.noPerson(x, p, 0) ? 1 : 0, 1);
            }
            eq("heir(" + p + ")", x.heir(p), there ? world.heir(p) : -1);
            eq("line(" + p + ", " + n + ")", x.line(p, n), there && n >= 1 && n <= 10 ? world.line(p, n) : -1);
            eq("under(" + p + ")", x.under(p), man(p) ? kin.under(p) : -1);
            int due = -1;
            if (man(p) && man(q)) {
                for (int at = p; at != -1 && due == -1; at = kin.men.get(at).parent) {
                    due = at == q || kin.isUnder(q, at) ? at : -1;
                }
            }
            eq("common(" + p + ", " + q + ")", x.common(p, q), due);
        }

        void askErrors() {
            int e = near(kin.slips.size());
            if (slip(e)) {
                Slip s = kin.slips.get(e);
                int[] due = {world.bearer[e], s.from, s.to, world.left[e], s.harm, s.good, world.made[e], s.owner, -1};
                for (int what = 0; what < due.length; what++) {
                    eq("error(" + e + ", " + what + ")", x.error(e, what), due[what]);
                }
            } else {
                eq("error(" + e + ", 3)", x.error(e, 3), -1);
            }
            int[] answer = slip(e) ? world.worn(e) : null;
            worn = answer == null ? worn : answer;
            eq("worn(" + e + ")", x.worn(e), answer == null ? -1 : answer[0]);
            eq("wornBy()", x.wornBy(), worn[1]);
            eq("wornLoss()", x.wornLoss(), worn[2]);
            askGifts();
            if (any(2) == 0) {
                int[] given = world.gifts();
                gifts = Arrays.copyOfRange(given, 1, given.length);
                eq("gifts()", x.gifts(), given[0]);
                askGifts();
            }
            int n = any(4) == 0 ? near(42) : 1 + any(3);
            int seed = random.nextInt();
            int due = -1;
            if (slip(e) && n >= 1 && n <= 40 && world.year + 30 <= 999) {
                due = 0;
                for (int i = 0; i < n; i++) {
                    World w = world.copy();
                    w.drawn(30, seed + i);
                    due += w.left[e] == 0 ? 1 : 0;
                }
            }
            eq("odds(" + e + ", " + n + ", " + seed + ")", x.odds(e, n, seed), due);
        }

        void askNow() {
            int[] due = {world.year, world.fortune, kin.bits(kin.men.size(), p -> world.dead[p]),
                kin.bits(kin.slips.size(), e -> world.left[e] == 0), kin.bits(kin.slips.size(), e -> world.bearer[e] == 10),
                world.done, world.right, world.firstWorn, -1};
            for (int what = 0; what < due.length; what++) {
                eq("now(" + what + ")", x.now(what), due[what]);
            }
            int n = world.came == null ? 0 : world.came.length;
            eq("came(NONE)", x.came(-1), n == 0 ? -1 : n);
            for (int i = 0; i < 13; i++) {
                eq("came(" + i + ")", x.came(i), i < n ? world.came[i] : -1);
            }
            int[] counts = {kin.steps.size(), kin.men.size(), kin.slips.size(), kin.deeds.size(), 0, -1};
            for (int what = 0; what < counts.length; what++) {
                eq("count(" + what + ")", x.count(what), counts[what]);
            }
            eq("fault()", x.fault(), fault);
        }

        void askDeeds() {
            int d = near(kin.deeds.size());
            int p = near(kin.men.size());
            int[] row = deed(d) ? kin.deeds.get(d) : new int[0];
            eq("deed(" + d + ", NONE)", x.deed(d, -1), deed(d) ? row.length : -1);
            for (int i = 0; i < 13; i++) {
                eq("deed(" + d + ", " + i + ")", x.deed(d, i), i < row.length ? row[i] : -1);
            }
            if (man(p) && deed(d) && !world.dead[p]) {
                World w = world.copy();
                w.act(p, d);
                int others = 0;
                for (int i = 0; i < row.length; i++) {
                    others += w.came[i] == row[i] ? 0 : 1;
                    eq("comes(" + p + ", " + d + ", " + i + ")", x.comes(p, d, i), w.came[i]);
                }
                eq("comes(" + p + ", " + d + ", NONE)", x.comes(p, d, -1), others);
                eq("loss(" + p + ", " + d + ")", x.loss(p, d), world.fortune - w.fortune);
            } else {
                eq("comes(" + p + ", " + d + ", 0)", x.comes(p, d, 0), -1);
                eq("loss(" + p + ", " + d + ") throws", Check.noLoss(x, p, d) ? 1 : 0, 1);
            }
            eq("right(" + d + ")", x.right(d), !deed(d) ? -1 : kin.bits(kin.men.size(), q -> {
                World w = world.copy();
                return w.act(q, d) == 0 && w.right > world.right;
            }));
            List<Integer> pairs = deed(d) ? kin.cancel(d) : new ArrayList<>();
            eq("cancel(" + d + ", NONE)", x.cancel(d, -1), deed(d) ? pairs.size() : -1);
            int k = near(pairs.size() + 1);
            eq("cancel(" + d + ", " + k + ")", x.cancel(d, k), k == -1 ? deed(d) ? pairs.size() : -1 : k >= 0 && k < pairs.size() ? pairs.get(k) : -1);
        }

        void askSets() {
            int set = near(1 << kin.slips.size());
            boolean fine = set >= 0 && set < 1 << kin.slips.size();
            for (int s = -1; s <= kin.steps.size(); s++) {
                boolean there = s >= 0 && s < kin.steps.size();
                eq("together(" + set + ", " + s + ")", x.together(set, s), fine && there ? kin.by(set, s) : -1);
            }
            eq("rests(" + set + ")", x.rests(set), fine ? kin.rests(set) : -1);
        }

        /** By the latest gifts(), whatever FAMILY there is now. */
        void askGifts() {
            for (int i = -1; i < 7; i++) {
                eq("gift(" + i + ")", x.gift(i), i >= 0 && i < gifts.length ? gifts[i] : -1);
            }
        }

        void askSaid() {
            List<Integer> due = new ArrayList<>();
            for (int p = 0; saying != null && p < kin.men.size(); p++) {
                if (saying.test.of(world, p)) {
                    due.add(p);
                }
            }
            eq("said(NONE) of <" + saidText + ">", x.said(-1), saying == null ? -1 : due.size());
            for (int k = 0; k < 11; k++) {
                eq("said(" + k + ") of <" + saidText + ">", x.said(k), k < due.size() ? due.get(k) : -1);
            }
        }
    }
}
