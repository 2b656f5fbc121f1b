import java.nio.charset.StandardCharsets;
import java.util.ArrayDeque;
import java.util.ArrayList;
import java.util.Arrays;
import java.util.Deque;
import java.util.HashSet;
import java.util.List;
import java.util.NoSuchElementException;
import java.util.Set;
import java.util.function.BiPredicate;
import java.util.function.IntPredicate;
import java.util.function.ToIntBiFunction;

/**
 * The document once more, written another way (closures, lists, brute force, a grammar that is run
 * over sets of stacks), so that StairMeter can be held against it call by call.
 */
final class Model {
    static final int NONE = -1;

    // ---------------------------------------------------------------- the state

    static final class Lodger {
        int burns, from, to, bears = 3, waits = 2, coins, chill, cold, fed;
        int[] owes = new int[7];

        Lodger copy() {
            Lodger l = new Lodger();
            l.burns = burns;
            l.from = from;
            l.to = to;
            l.bears = bears;
            l.waits = waits;
            l.coins = coins;
            l.chill = chill;
            l.cold = cold;
            l.fed = fed;
            l.owes = owes.clone();
            return l;
        }
    }

    record Line(String kind, int n, BiPredicate<State, Integer> when) { }

    static final class State {
        List<Lodger> lodgers = new ArrayList<>();
        int texts, tick, night, gas, price = 20, dark, frost, box, last = NONE, seed = 1;
        List<int[]> log = new ArrayList<>();
        List<Line> law = null;

        State copy() {
            State s = new State();
            for (Lodger l : lodgers) {
                s.lodgers.add(l.copy());
            }
            s.texts = texts;
            s.tick = tick;
            s.night = night;
            s.gas = gas;
            s.price = price;
            s.dark = dark;
            s.frost = frost;
            s.box = box;
            s.last = last;
            s.seed = seed;
            s.log = new ArrayList<>(log);
            s.law = law;
            return s;
        }

        int size() {
            return lodgers.size();
        }

        boolean in(int l, int t) {
            Lodger x = lodgers.get(l);
            return (t - x.from + 48) % 48 <= (x.to - x.from + 48) % 48;
        }

        int needs(int t) {
            int sum = 0;
            for (int i = 0; i < size(); i++) {
                if (in(i, t)) {
                    sum += lodgers.get(i).burns;
                }
            }
            return sum;
        }

        int turn(int l) {
            int sum = 0;
            if (law != null) {
                for (Line line : law) {
                    if (!line.kind.equals("refuse") && line.when.test(this, l)) {
                        sum += line.kind.equals("turn") ? line.n : -line.n;
                    }
                }
            }
            return sum;
        }

        boolean refuses(int l) {
            return law != null && law.stream().anyMatch(x -> x.kind.equals("refuse") && x.when.test(this, l));
        }

        void note(int kind, int lodger) {
            log.add(0, new int[] {night, tick, kind, lodger, gas});
            if (log.size() > 60) {
                log.remove(60);
            }
        }

        void feeds(int l) {
            lodgers.get(l).coins--;
            lodgers.get(l).fed++;
            box++;
            gas = Math.min(9999, gas + price);
            last = l;
            note(1, l);
        }

        /** -2 lit, -1 dark, or who fed. */
        int pass(boolean frosty, boolean feeding) {
            int needs = needs(tick);
            if (frosty) {
                seed = seed * 1103515245 + 12345;
                int draw = (int) ((seed & 0xffffffffL) / 65536 % 32768);
                if (draw % 100 < frost) {
                    needs = needs + needs;
                }
            }
            int answer = -2;
            if (gas >= needs) {
                gas -= needs;
                for (Lodger l : lodgers) {
                    l.chill = 0;
                }
                dark = 0;
            } else {
                answer = NONE;
                if (dark == 0) {
                    note(0, NONE);
                }
                dark = Math.min(99, dark + 1);
                for (int i = 0; i < size(); i++) {
                    Lodger l = lodgers.get(i);
                    int before = l.chill;
                    l.chill = in(i, tick) ? Math.min(99, before + 1) : 0;
                    if (in(i, tick) && l.chill > l.bears) {
                        l.cold = Math.min(999, l.cold + 1);
                    }
                    if (before < l.chill && l.chill == l.bears + 1) {
                        note(2, i);
                    }
                }
                List<Integer> could = new ArrayList<>();
                for (int i = 0; i < size(); i++) {
                    Lodger l = lodgers.get(i);
                    if (feeding && in(i, tick) && l.coins > 0 && l.waits < dark && !refuses(i)) {
                        could.add(i);
                    }
                }
                could.sort((a, b) -> turn(a) != turn(b) ? turn(b) - turn(a) : a - b);
                if (!could.isEmpty()) {
                    answer = could.get(0);
                    feeds(answer);
                }
            }
            tick++;
            if (tick == 48) {
                tick = 0;
                night = Math.min(9999, night + 1);
            }
            return answer;
        }
    }

    private State s = new State();
    private final Deque<State> acts = new ArrayDeque<>();
    private State image = null;
    private int[] tape = new int[0];
    private int fault = NONE;

    // ---------------------------------------------------------------- texts

    private record Token(int begin, String text) { }

    private static List<Token> tokens(String text) {
        List<Token> all = new ArrayList<>();
        java.util.regex.Matcher m = java.util.regex.Pattern.compile("[a-z]+|[0-9]+|[^ ]", java.util.regex.Pattern.DOTALL).matcher(text);
        while (m.find()) {
            all.add(new Token(m.start(), m.group()));
        }
        return all;
    }

    /** Where a run over the grammar may stand: what must come yet, and what was told so far. */
    private record Place(List<String> rest, int lodgers, int lines, int first, int depth) { }

    private static List<String> join(List<String> rest, String... ahead) {
        List<String> all = new ArrayList<>(Arrays.asList(ahead));
        all.addAll(rest);
        return all;
    }

    /** All that a rule may become; null of a terminal. */
    private static String[][] rules(String symbol) {
        switch (symbol) {
            case "HOUSE": return new String[][] {{}, {"#14", "HLINE", "HMORE"}};
            case "HMORE": return new String[][] {{}, {";", "#14", "HLINE", "HMORE"}};
            case "HLINE": return new String[][] {
                {"@lodger", "burns", "1..9", "home", "0..47", "to", "0..47", "coins", "0..99", "BEARS", "WAITS"},
                {"owes", "H1", "H2", "0..99"}, {"gas", "0..999"}, {"price", "1..99"}, {"frost", "0..100"},
                {"tick", "0..47"}, {"night", "0..999"}};
            case "BEARS": return new String[][] {{}, {"bears", "0..20"}};
            case "WAITS": return new String[][] {{}, {"waits", "0..20"}};
            case "LAW": return new String[][] {{}, {"#12", "LLINE", "LMORE"}};
            case "LMORE": return new String[][] {{}, {";", "#12", "LLINE", "LMORE"}};
            case "LLINE": return new String[][] {{"turn", "0..60", "IF"}, {"spare", "0..60", "IF"}, {"refuse", "IF"}};
            case "IF": return new String[][] {{}, {"if", "C"}};
            case "C": return new String[][] {{"ALL", "ORS"}};
            case "ORS": return new String[][] {{}, {"or", "ALL", "ORS"}};
            case "ALL": return new String[][] {{"ATOM", "ANDS"}};
            case "ANDS": return new String[][] {{}, {"and", "ATOM", "ANDS"}};
            case "ATOM": return new String[][] {
                {"+not", "ATOM", "-"}, {"+(", "C", ")", "-"}, {"last"}, {"cold"}, {"SUM", "<", "SUM"}, {"SUM", ">", "SUM"}};
            case "SUM": return new String[][] {{"PART", "SUMS"}};
            case "SUMS": return new String[][] {{}, {"+", "PART", "SUMS"}};
            case "PART": return new String[][] {{"0..999"}, {"lodger"}, {"burns"}, {"coins"}, {"fed"}, {"chill"}, {"dark"}, {"tick"}};
            default: return null;
        }
    }

    /** All places at which a terminal, or nothing, comes next. */
    private static Set<Place> opened(Place start) {
        Set<Place> done = new HashSet<>();
        Deque<Place> todo = new ArrayDeque<>();
        todo.add(start);
        while (!todo.isEmpty()) {
            Place p = todo.poll();
            if (p.rest.isEmpty()) {
                done.add(p);
                continue;
            }
            String symbol = p.rest.get(0);
            List<String> rest = p.rest.subList(1, p.rest.size());
            if (symbol.equals("-")) {
                todo.add(new Place(rest, p.lodgers, p.lines, p.first, p.depth - 1));
            } else if (symbol.startsWith("#")) {
                if (p.lines < Integer.parseInt(symbol.substring(1))) {
                    todo.add(new Place(rest, p.lodgers, p.lines + 1, p.first, p.depth));
                } else {
                    // nothing may begin here, but something must
                    done.add(new Place(join(rest, "NOTHING"), p.lodgers, p.lines, p.first, p.depth));
                }
            } else if (rules(symbol) != null) {
                for (String[] rule : rules(symbol)) {
                    todo.add(new Place(join(rest, rule), p.lodgers, p.lines, p.first, p.depth));
                }
            } else {
                done.add(p);
            }
        }
        return done;
    }

    /** The place behind a token; null if it cannot stand there. */
    private static Place behind(Place p, String token) {
        if (p.rest.isEmpty()) {
            return null;
        }
        String symbol = p.rest.get(0);
        List<String> rest = p.rest.subList(1, p.rest.size());
        boolean number = token.matches("[0-9]{1,3}");
        int value = number ? Integer.parseInt(token) : NONE;
        if (symbol.contains("..")) {
            String[] ends = symbol.split("\\.\\.");
            boolean fits = number && value >= Integer.parseInt(ends[0]) && value <= Integer.parseInt(ends[1]);
            return fits ? new Place(rest, p.lodgers, p.lines, p.first, p.depth) : null;
        }
        if (symbol.equals("H1")) {
            return number && value < p.lodgers ? new Place(rest, p.lodgers, p.lines, value, p.depth) : null;
        }
        if (symbol.equals("H2")) {
            boolean fits = number && value < p.lodgers && value != p.first;
            return fits ? new Place(rest, p.lodgers, p.lines, p.first, p.depth) : null;
        }
        if (symbol.equals("@lodger")) {
            boolean fits = token.equals("lodger") && p.lodgers < 7;
            return fits ? new Place(rest, p.lodgers + 1, p.lines, p.first, p.depth) : null;
        }
        if (symbol.equals("+not") || symbol.equals("+(")) {
            boolean fits = token.equals(symbol.substring(1)) && p.depth < 6;
            return fits ? new Place(rest, p.lodgers, p.lines, p.first, p.depth + 1) : null;
        }
        return symbol.equals(token) ? new Place(rest, p.lodgers, p.lines, p.first, p.depth) : null;
    }

    private static int wrongByte(String text, String rule, int lodgers) {
        Set<Place> places = opened(new Place(List.of(rule), lodgers, 0, NONE, 0));
        for (Token token : tokens(text)) {
            Set<Place> next = new HashSet<>();
            for (Place p : places) {
                Place q = behind(p, token.text);
                if (q != null) {
                    next.addAll(opened(q));
                }
            }
            if (next.isEmpty()) {
                return token.begin;
            }
            places = next;
        }
        return places.stream().anyMatch(p -> p.rest.isEmpty()) ? NONE : text.length();
    }

    private String read(String rule) {
        byte[] bytes = new byte[tape.length];
        for (int i = 0; i < tape.length; i++) {
            bytes[i] = (byte) tape[i];
        }
        tape = new int[0];
        String text = new String(bytes, StandardCharsets.ISO_8859_1);
        fault = wrongByte(text, rule, s.size());
        if (fault != NONE) {
            throw new IllegalArgumentException();
        }
        return text;
    }

    private int house() {
        String text = read("HOUSE");
        if (s.texts == 12) {
            throw new UnsupportedOperationException();
        }
        for (String line : text.split(";")) {
            List<String> words = tokens(line).stream().map(Token::text).toList();
            if (words.isEmpty()) {
                continue;
            }
            int[] n = words.stream().filter(w -> w.matches("[0-9]+")).mapToInt(Integer::parseInt).toArray();
            switch (words.get(0)) {
                case "lodger" -> {
                    Lodger l = new Lodger();
                    l.burns = n[0];
                    l.from = n[1];
                    l.to = n[2];
                    l.coins = n[3];
                    int bears = words.indexOf("bears");
                    int waits = words.indexOf("waits");
                    l.bears = bears < 0 ? 3 : Integer.parseInt(words.get(bears + 1));
                    l.waits = waits < 0 ? 2 : Integer.parseInt(words.get(waits + 1));
                    s.lodgers.add(l);
                }
                case "owes" -> s.lodgers.get(n[0]).owes[n[1]] = n[2];
                case "gas" -> s.gas = n[0];
                case "price" -> s.price = n[0];
                case "frost" -> s.frost = n[0];
                case "tick" -> s.tick = n[0];
                default -> s.night = n[0];
            }
        }
        acts.clear();
        return ++s.texts;
    }

    private int law() {
        String text = read("LAW");
        List<Line> lines = new ArrayList<>();
        for (String line : text.split(";")) {
            Deque<String> words = new ArrayDeque<>(tokens(line).stream().map(Token::text).toList());
            if (words.isEmpty()) {
                continue;
            }
            String kind = words.poll();
            int n = kind.equals("refuse") ? 0 : Integer.parseInt(words.poll());
            BiPredicate<State, Integer> when = (h, l) -> true;
            if (!words.isEmpty()) {
                words.poll();
                when = either(words);
            }
            lines.add(new Line(kind, n, when));
        }
        s.law = lines;
        acts.clear();
        return lines.size();
    }

    private static BiPredicate<State, Integer> either(Deque<String> words) {
        BiPredicate<State, Integer> all = both(words);
        while ("or".equals(words.peek())) {
            words.poll();
            all = all.or(both(words));
        }
        return all;
    }

    private static BiPredicate<State, Integer> both(Deque<String> words) {
        BiPredicate<State, Integer> all = atom(words);
        while ("and".equals(words.peek())) {
            words.poll();
            all = all.and(atom(words));
        }
        return all;
    }

    private static BiPredicate<State, Integer> atom(Deque<String> words) {
        String word = words.peek();
        switch (word) {
            case "not":
                words.poll();
                return atom(words).negate();
            case "(":
                words.poll();
                BiPredicate<State, Integer> within = either(words);
                words.poll();
                return within;
            case "last":
                words.poll();
                return (h, l) -> h.last == l;
            case "cold":
                words.poll();
                return (h, l) -> h.lodgers.get(l).chill > h.lodgers.get(l).bears;
            default:
                ToIntBiFunction<State, Integer> left = sum(words);
                boolean less = words.poll().equals("<");
                ToIntBiFunction<State, Integer> right = sum(words);
                return (h, l) -> less ? left.applyAsInt(h, l) < right.applyAsInt(h, l)
                        : left.applyAsInt(h, l) > right.applyAsInt(h, l);
        }
    }

    private static ToIntBiFunction<State, Integer> sum(Deque<String> words) {
        ToIntBiFunction<State, Integer> first = part(words.poll());
        if (!"+".equals(words.peek())) {
            return first;
        }
        words.poll();
        ToIntBiFunction<State, Integer> rest = sum(words);
        return (h, l) -> first.applyAsInt(h, l) + rest.applyAsInt(h, l);
    }

    private static ToIntBiFunction<State, Integer> part(String word) {
        return switch (word) {
            case "lodger" -> (h, l) -> l;
            case "burns" -> (h, l) -> h.lodgers.get(l).burns;
            case "coins" -> (h, l) -> h.lodgers.get(l).coins;
            case "fed" -> (h, l) -> h.lodgers.get(l).fed;
            case "chill" -> (h, l) -> h.lodgers.get(l).chill;
            case "dark" -> (h, l) -> h.dark;
            case "tick" -> (h, l) -> h.tick;
            default -> (h, l) -> Integer.parseInt(word);
        };
    }

    // ---------------------------------------------------------------- checks

    private void lodgerIs(int... all) {
        for (int l : all) {
            if (l < 0 || l >= s.size()) {
                throw new IndexOutOfBoundsException();
            }
        }
    }

    private static void tickIs(int... all) {
        for (int t : all) {
            if (t < 0 || t > 47) {
                throw new IndexOutOfBoundsException();
            }
        }
    }

    private static void within(int n, int least, int most) {
        if (n < least || n > most) {
            throw new IllegalArgumentException();
        }
    }

    private void two(int a, int b) {
        lodgerIs(a, b);
        if (a == b) {
            throw new IllegalArgumentException();
        }
    }

    private static void state(boolean can) {
        if (!can) {
            throw new IllegalStateException();
        }
    }

    private void act() {
        acts.push(s.copy());
        if (acts.size() > 12) {
            acts.removeLast();
        }
    }

    private int bits(IntPredicate who) {
        int bits = 0;
        for (int i = 0; i < s.size(); i++) {
            if (who.test(i)) {
                bits += 1 << i;
            }
        }
        return bits;
    }

    // ---------------------------------------------------------------- what is asked

    private static int[] run(State h, int n, boolean frosty) {
        int fed = 0;
        for (int i = 0; i < n; i++) {
            if (h.pass(frosty, true) >= 0) {
                fed++;
            }
        }
        return new int[] {fed, h.lodgers.stream().mapToInt(l -> l.cold).sum()};
    }

    private int[] griefs(State h) {
        State then = h.copy();
        run(then, 48, false);
        int[] all = new int[s.size()];
        for (int i = 0; i < all.length; i++) {
            Lodger a = h.lodgers.get(i);
            Lodger b = then.lodgers.get(i);
            all[i] = b.cold - a.cold + 3 * (b.fed - a.fed);
        }
        return all;
    }

    private int grief(int l, int w) {
        State h = s.copy();
        h.lodgers.get(l).waits = w;
        return griefs(h)[l];
    }

    private int best(int l) {
        int best = 0;
        for (int w = 20; w >= 0; w--) {
            if (w == 20 || grief(l, w) <= grief(l, best)) {
                best = w;
            }
        }
        return best;
    }

    private int tops(int set) {
        int top = 0;
        for (int t = 0; t < 48; t++) {
            top = Math.max(top, drawnAt(set, t));
        }
        return top;
    }

    private int drawnAt(int set, int t) {
        int sum = 0;
        for (int i = 0; i < s.size(); i++) {
            if ((set & 1 << i) != 0 && s.in(i, t)) {
                sum += s.lodgers.get(i).burns;
            }
        }
        return sum;
    }

    private List<int[]> rows(int most) {
        int[] told = tape;
        tape = new int[0];
        if (told.length > 40 || told.length % 2 == 1) {
            throw new IllegalArgumentException();
        }
        List<int[]> rows = new ArrayList<>();
        for (int i = 0; i < told.length; i += 2) {
            if (told[i] > 47 || told[i + 1] > most) {
                throw new IllegalArgumentException();
            }
            rows.add(new int[] {told[i], told[i + 1]});
        }
        return rows;
    }

    /** Pairs of a LODGER and a TICK. */
    private List<int[]> suspects() {
        List<int[]> rows = rows(1);
        List<int[]> pairs = new ArrayList<>();
        for (int i = 0; i < s.size(); i++) {
            for (int t = 0; t < 48; t++) {
                boolean fits = s.in(i, t);
                for (int[] row : rows) {
                    boolean come = t <= row[0];
                    fits &= come == (row[1] == 1);
                }
                if (fits) {
                    pairs.add(new int[] {i, t});
                }
            }
        }
        return pairs;
    }

    private int ask() {
        List<int[]> pairs = suspects();
        if (pairs.size() < 2) {
            return NONE;
        }
        int best = NONE;
        long least = Long.MAX_VALUE;
        for (int t = 0; t < 48; t++) {
            int at = t;
            long come = pairs.stream().filter(p -> p[1] <= at).count();
            long greater = Math.max(come, pairs.size() - come);
            if (greater < least) {
                least = greater;
                best = t;
            }
        }
        return best;
    }

    private int drawn(int what) {
        List<int[]> rows = rows(63);
        if (what < 0 || what > 2) {
            throw new NoSuchElementException();
        }
        List<Integer> sets = new ArrayList<>();
        for (int set = 0; set < 1 << s.size(); set++) {
            int one = set;
            if (rows.stream().allMatch(r -> drawnAt(one, r[0]) == r[1])) {
                sets.add(set);
            }
        }
        if (what == 0) {
            return sets.size();
        }
        if (what == 1) {
            return sets.isEmpty() ? 0 : sets.stream().reduce((a, b) -> a & b).get();
        }
        return least(sets);
    }

    /** The set of the fewest, of several the least. */
    private static int least(List<Integer> sets) {
        return sets.stream().min((a, b) -> Integer.bitCount(a) != Integer.bitCount(b)
                ? Integer.bitCount(a) - Integer.bitCount(b) : a - b).orElse(NONE);
    }

    private int keepers() {
        List<Integer> sets = new ArrayList<>();
        for (int set = 0; set < 1 << s.size(); set++) {
            boolean keeps = true;
            for (int t = 0; t < 48; t++) {
                int at = t;
                int in = bits(i -> s.in(i, at));
                keeps &= in == 0 || (in & set) != 0;
            }
            if (keeps) {
                sets.add(set);
            }
        }
        return least(sets);
    }

    /** All ways, each with its worth last; the best one, of several the first in order. */
    private int[] pairing() {
        List<int[]> ways = new ArrayList<>();
        int[] none = new int[s.size() + 1];
        Arrays.fill(none, NONE);
        none[s.size()] = 0;
        ways.add(none);
        for (int a = 0; a < s.size(); a++) {
            for (int b = a + 1; b < s.size(); b++) {
                int both = 0;
                for (int t = 0; t < 48; t++) {
                    both += s.in(a, t) && s.in(b, t) ? 1 : 0;
                }
                for (int[] way : new ArrayList<>(ways)) {
                    if (way[a] == NONE && way[b] == NONE) {
                        int[] more = way.clone();
                        more[a] = b;
                        more[b] = a;
                        more[s.size()] += both;
                        ways.add(more);
                    }
                }
            }
        }
        ways.sort((x, y) -> x[s.size()] != y[s.size()] ? y[s.size()] - x[s.size()] : Arrays.compare(x, y));
        return ways.get(0);
    }

    private int fedBy(int set) {
        int sum = 0;
        for (int i = 0; i < s.size(); i++) {
            sum += (set & 1 << i) != 0 ? s.lodgers.get(i).fed : 0;
        }
        return sum;
    }

    private boolean carries(int set) {
        return fedBy(set) > fedBy(~set);
    }

    private int swings(int l) {
        int n = 0;
        for (int set = 0; set < 1 << s.size(); set++) {
            if ((set & 1 << l) == 0 && carries(set | 1 << l) && !carries(set)) {
                n++;
            }
        }
        return n;
    }

    private int minimal() {
        int n = 0;
        for (int set = 0; set < 1 << s.size(); set++) {
            int one = set;
            if (carries(set) && bits(i -> (one & 1 << i) != 0 && carries(one - (1 << i))) == 0) {
                n++;
            }
        }
        return n;
    }

    private int worth(int l) {
        int sum = 0;
        for (int i = 0; i < s.size(); i++) {
            sum += s.lodgers.get(i).owes[l] - s.lodgers.get(l).owes[i];
        }
        return sum;
    }

    private boolean reaches(int from, int to, Set<Integer> seen) {
        for (int i = 0; i < s.size(); i++) {
            if (s.lodgers.get(from).owes[i] > 0 && (i == to || seen.add(i) && reaches(i, to, seen))) {
                return true;
            }
        }
        return false;
    }

    private int rests(int a, int b) {
        int needs = s.needs(s.tick);
        int g = s.price / (needs == 0 ? 1 : needs);
        int ca = -1 - s.lodgers.get(a).chill;
        int cb = -1 - s.lodgers.get(b).chill;
        int[][][] has = {{{g - 2, g - 2}, {g - 4, g}}, {{g, g - 4}, {ca, cb}}};
        int bits = 0;
        for (int x = 0; x < 2; x++) {
            for (int y = 0; y < 2; y++) {
                if (has[1 - x][y][0] <= has[x][y][0] && has[x][1 - y][1] <= has[x][y][1]) {
                    bits |= 1 << 2 * x + y;
                }
            }
        }
        return bits;
    }

    private int odds(int n, int k) {
        java.math.BigInteger sum = java.math.BigInteger.ZERO;
        for (int which = 0; which < 1 << n; which++) {
            if (Integer.bitCount(which) >= k) {
                java.math.BigInteger one = java.math.BigInteger.ONE;
                for (int i = 0; i < n; i++) {
                    one = one.multiply(java.math.BigInteger.valueOf((which & 1 << i) != 0 ? s.frost : 100 - s.frost));
                }
                sum = sum.add(one);
            }
        }
        return sum.multiply(java.math.BigInteger.valueOf(10000)).divide(java.math.BigInteger.valueOf(100).pow(n)).intValue();
    }

    private int metered(int l) {
        int sum = 0;
        for (int t = 0; t < 48; t++) {
            sum += s.in(l, t) ? s.lodgers.get(l).burns : 0;
        }
        return sum;
    }

    private int fair(int l, int n) {
        int all = 0;
        for (int i = 0; i < s.size(); i++) {
            all += metered(i);
        }
        int[] parts = new int[s.size()];
        int left = n;
        for (int i = 0; i < parts.length; i++) {
            parts[i] = (int) Math.floor((double) n * metered(i) / all + 1e-9);
            left -= parts[i];
        }
        for (int i = 0; left > 0; i = (i + 1) % parts.length) {
            parts[i]++;
            left--;
        }
        return parts[l];
    }

    private int dear(boolean mild) {
        int best = NONE;
        int[] had = null;
        for (int p = 1; p <= 99; p++) {
            State h = s.copy();
            h.price = p;
            int[] has = run(h, 48, false);
            if (had == null || (mild ? has[1] < had[1] : has[0] > had[0])) {
                had = has;
                best = p;
            }
        }
        return best;
    }

    private int firstDark(boolean feeding) {
        State h = s.copy();
        for (int n = 1; n <= 96; n++) {
            if (h.pass(false, feeding) != -2) {
                return n;
            }
        }
        return NONE;
    }

    private int feeder() {
        State h = s.copy();
        for (int n = 1; n <= 96; n++) {
            int who = h.pass(false, true);
            if (who >= 0) {
                return who;
            }
        }
        return NONE;
    }

    private int colder(State then) {
        return bits(i -> then.lodgers.get(i).cold > s.lodgers.get(i).cold);
    }

    private int shiver() {
        State h = s.copy();
        for (int n = 1; n <= 96; n++) {
            h.pass(false, true);
            if (colder(h) != 0) {
                return Integer.numberOfTrailingZeros(colder(h));
            }
        }
        return NONE;
    }

    private int coins(int n) {
        for (int c = 0; ; c++) {
            State h = s.copy();
            h.gas = Math.min(9999, s.gas + c * s.price);
            boolean lit = true;
            for (int i = 0; i < n; i++) {
                lit &= h.pass(false, false) == -2;
            }
            if (lit) {
                return c;
            }
        }
    }

    private int ease(int n) {
        for (int c = 0; c <= 99; c++) {
            State h = s.copy();
            h.gas = Math.min(9999, s.gas + c * s.price);
            run(h, n, false);
            if (colder(h) == 0) {
                return c;
            }
        }
        return NONE;
    }

    private int after(int l, int n, int what) {
        lodgerIs(l);
        within(n, 0, 96);
        if (what < 0 || what > 2) {
            throw new NoSuchElementException();
        }
        State h = s.copy();
        run(h, n, false);
        Lodger then = h.lodgers.get(l);
        return new int[] {then.coins, then.cold, then.fed}[what];
    }

    private int saint(int l, boolean victims) {
        State h = s.copy();
        h.lodgers.get(l).waits = 0;
        int[] own = griefs(s);
        int[] then = griefs(h);
        return bits(i -> i != l && (victims ? then[i] > own[i] : then[i] < own[i]));
    }

    private boolean warmer(int a, int b) {
        State h = s.copy();
        swap(h, a, b);
        int[] own = griefs(s);
        int[] then = griefs(h);
        return then[a] < own[a] && then[b] < own[b];
    }

    private static void swap(State h, int a, int b) {
        Lodger x = h.lodgers.get(a);
        Lodger y = h.lodgers.get(b);
        int burns = x.burns;
        int bears = x.bears;
        x.burns = y.burns;
        x.bears = y.bears;
        y.burns = burns;
        y.bears = bears;
    }

    private int busy() {
        int best = 0;
        for (int t = 47; t >= 0; t--) {
            best = s.needs(t) >= s.needs(best) ? t : best;
        }
        return best;
    }

    private int alone() {
        int n = 0;
        for (int t = 0; t < 48; t++) {
            int at = t;
            n += bits(i -> s.in(i, at)) == 0 ? 1 : 0;
        }
        return n;
    }

    private int miser() {
        for (int w = 20; w >= 0; w--) {
            for (int i = 0; i < s.size(); i++) {
                Lodger l = s.lodgers.get(i);
                if (s.in(i, s.tick) && l.coins > 0 && l.waits == w) {
                    return i;
                }
            }
        }
        return NONE;
    }

    private int poorest() {
        int best = NONE;
        for (int i = s.size() - 1; i >= 0; i--) {
            if (best == NONE || s.lodgers.get(i).coins + worth(i) <= s.lodgers.get(best).coins + worth(best)) {
                best = i;
            }
        }
        return best;
    }

    private int alike() {
        int n = 0;
        for (Lodger a : s.lodgers) {
            for (Lodger b : s.lodgers) {
                n += a != b && a.burns == b.burns && a.bears == b.bears && a.waits == b.waits ? 1 : 0;
            }
        }
        return n / 2;
    }

    private int span(int n, boolean most) {
        java.util.stream.IntStream fed = java.util.stream.IntStream.rangeClosed(1, 6).map(seed -> {
            State h = s.copy();
            h.seed = seed;
            return run(h, n, true)[0];
        });
        return most ? fed.max().getAsInt() : fed.min().getAsInt();
    }

    private int lodger(int l, int what) {
        lodgerIs(l);
        Lodger x = s.lodgers.get(l);
        int fed = fedBy(-1);
        return switch (what) {
            case 0 -> x.burns;
            case 1 -> x.from;
            case 2 -> x.to;
            case 3 -> x.bears;
            case 4 -> x.waits;
            case 5 -> x.coins;
            case 6 -> x.chill;
            case 7 -> x.cold;
            case 8 -> x.fed;
            case 9 -> s.turn(l);
            case 10 -> s.refuses(l) ? 1 : 0;
            case 11 -> fed == 0 ? 0 : 100 * x.fed / fed;
            case 12 -> metered(l);
            case 13 -> best(l);
            default -> throw new NoSuchElementException();
        };
    }

    private int count(int what) {
        return switch (what) {
            case 0 -> s.size();
            case 1 -> s.texts;
            case 2 -> s.law == null ? NONE : s.law.size();
            case 3 -> s.tick;
            case 4 -> s.night;
            case 5 -> s.gas;
            case 6 -> s.price;
            case 7 -> s.dark;
            case 8 -> s.frost;
            case 9 -> s.box;
            case 10 -> s.last;
            case 11 -> s.lodgers.stream().mapToInt(l -> l.cold).sum();
            case 12 -> s.lodgers.stream().mapToInt(l -> l.coins).sum();
            case 13 -> s.log.size();
            case 14 -> acts.size();
            default -> NONE;
        };
    }

    // ---------------------------------------------------------------- what is done

    private int feed(int... all) {
        if (tape.length > 380) {
            return NONE;
        }
        int had = tape.length;
        tape = Arrays.copyOf(tape, had + 20);
        java.nio.ByteBuffer bytes = java.nio.ByteBuffer.allocate(20);
        for (int n : all) {
            bytes.putInt(n);
        }
        for (int i = 0; i < 20; i++) {
            tape[had + i] = Byte.toUnsignedInt(bytes.get(i));
        }
        return had + 20;
    }

    private boolean end(int n) {
        if (n < 0 || n > tape.length) {
            return false;
        }
        tape = Arrays.copyOf(tape, n);
        return true;
    }

    private int ticks(int n) {
        within(n, 1, 96);
        act();
        int dark = 0;
        for (int i = 0; i < n; i++) {
            dark += s.pass(true, true) == -2 ? 0 : 1;
        }
        return dark;
    }

    private int put(int l) {
        lodgerIs(l);
        state(s.lodgers.get(l).coins > 0);
        act();
        s.feeds(l);
        return s.gas;
    }

    private int lend(int a, int b) {
        two(a, b);
        Lodger x = s.lodgers.get(a);
        Lodger y = s.lodgers.get(b);
        state(x.coins > 0 && y.coins < 999 && y.owes[a] < 99);
        act();
        x.coins--;
        y.coins++;
        y.owes[a]++;
        return x.coins;
    }

    private int repay(int a, int b) {
        two(a, b);
        Lodger x = s.lodgers.get(a);
        Lodger y = s.lodgers.get(b);
        state(x.coins > 0 && y.coins < 999 && x.owes[b] > 0);
        act();
        int n = 0;
        while (x.coins > 0 && y.coins < 999 && x.owes[b] > 0) {
            x.coins--;
            y.coins++;
            x.owes[b]--;
            n++;
        }
        return n;
    }

    private int waits(int l, int n) {
        lodgerIs(l);
        within(n, 0, 20);
        act();
        int was = s.lodgers.get(l).waits;
        s.lodgers.get(l).waits = n;
        return was;
    }

    private int price(int n) {
        within(n, 1, 99);
        act();
        int was = s.price;
        s.price = n;
        return was;
    }

    private int change(int a, int b) {
        two(a, b);
        act();
        swap(s, a, b);
        return s.lodgers.get(a).burns;
    }

    private int home(int l, int from, int to) {
        lodgerIs(l);
        tickIs(from, to);
        act();
        s.lodgers.get(l).from = from;
        s.lodgers.get(l).to = to;
        int n = 0;
        for (int t = 0; t < 48; t++) {
            n += s.in(l, t) ? 1 : 0;
        }
        return n;
    }

    private int empty() {
        act();
        int was = s.box;
        s.box = 0;
        return was;
    }

    private int seed(int n) {
        int was = s.seed;
        s.seed = n;
        return was;
    }

    private boolean undo() {
        if (acts.isEmpty()) {
            return false;
        }
        s = acts.pop();
        return true;
    }

    private boolean back() {
        if (image == null) {
            return false;
        }
        s = image.copy();
        acts.clear();
        return true;
    }

    private int led(int l, boolean tick) {
        lodgerIs(l);
        List<int[]> mine = s.log.stream().filter(r -> r[3] == l).toList();
        return tick ? (mine.isEmpty() ? NONE : mine.get(0)[1]) : mine.size();
    }

    private int log(int ago, int what) {
        if (what < 0 || what > 4) {
            throw new NoSuchElementException();
        }
        return ago < 0 || ago >= s.log.size() ? -2 : s.log.get(ago)[what];
    }

    private static int yes(boolean is) {
        return is ? 1 : 0;
    }

    /** Any call of the face; a boolean counts 1 or 0. */
    int call(String name, int... a) {
        switch (name) {
            case "feed": return feed(a);
            case "end": return yes(end(a[0]));
            case "house": return house();
            case "law": return law();
            case "fault": return fault;
            case "lodger": return lodger(a[0], a[1]);
            case "owes": two(a[0], a[1]); return s.lodgers.get(a[0]).owes[a[1]];
            case "isHome": lodgerIs(a[0]); tickIs(a[1]); return yes(s.in(a[0], a[1]));
            case "needs": tickIs(a[0]); return s.needs(a[0]);
            case "ticks": return ticks(a[0]);
            case "put": return put(a[0]);
            case "lend": return lend(a[0], a[1]);
            case "repay": return repay(a[0], a[1]);
            case "waits": return waits(a[0], a[1]);
            case "price": return price(a[0]);
            case "change": return change(a[0], a[1]);
            case "home": return home(a[0], a[1], a[2]);
            case "empty": return empty();
            case "inside": return bits(i -> s.in(i, s.tick));
            case "lasts": return firstDark(false);
            case "out": return firstDark(true);
            case "feeder": return feeder();
            case "shiver": return shiver();
            case "after": return after(a[0], a[1], a[2]);
            case "coins": within(a[0], 0, 48); return coins(a[0]);
            case "ease": within(a[0], 0, 48); return ease(a[0]);
            case "grief": lodgerIs(a[0]); within(a[1], 0, 20); return grief(a[0], a[1]);
            case "restless": return bits(i -> grief(i, s.lodgers.get(i).waits) > grief(i, best(i)));
            case "saint": lodgerIs(a[0]); return saint(a[0], a[1] != 0);
            case "fair": lodgerIs(a[0]); within(a[1], 0, 999); return fair(a[0], a[1]);
            case "tops": return tops(a[0]);
            case "stand": lodgerIs(a[0]); return 100 * (tops(-1) - tops(~(1 << a[0]))) / tops(-1);
            case "dear": return dear(a[0] != 0);
            case "earns": within(a[0], 1, 99); return earns(a[0]);
            default: return callMore(name, a);
        }
    }

    private int earns(int p) {
        State h = s.copy();
        h.price = p;
        return run(h, 48, false)[0];
    }

    private int callMore(String name, int... a) {
        switch (name) {
            case "culprit":
                List<int[]> pairs = suspects();
                return a[0] == 0 ? pairs.size() : bits(i -> pairs.stream().anyMatch(p -> p[0] == i));
            case "ask": return ask();
            case "drawn": return drawn(a[0]);
            case "warmer": two(a[0], a[1]); return yes(warmer(a[0], a[1]));
            case "pairs":
                if (a[0] != NONE) {
                    lodgerIs(a[0]);
                }
                return pairing()[a[0] == NONE ? s.size() : a[0]];
            case "keepers": return keepers();
            case "kettle": return yes(carries(a[0]));
            case "swings": lodgerIs(a[0]); return swings(a[0]);
            case "minimal": return minimal();
            case "dummies": return bits(i -> swings(i) == 0);
            case "net":
                two(a[0], a[1]);
                return Math.max(0, s.lodgers.get(a[0]).owes[a[1]] - s.lodgers.get(a[1]).owes[a[0]]);
            case "debt":
                int all = 0;
                for (int i = 0; i < s.size(); i++) {
                    all += Math.max(0, -worth(i));
                }
                return all;
            case "ring": lodgerIs(a[0]); return yes(reaches(a[0], a[0], new HashSet<>()));
            case "poorest": return poorest();
            case "rests": two(a[0], a[1]); return rests(a[0], a[1]);
            case "odds": within(a[0], 0, 6); within(a[1], 0, 6); return odds(a[0], a[1]);
            case "busy": return busy();
            case "alone": return alone();
            case "miser": return miser();
            case "alike": return alike();
            case "trial": within(a[0], 0, 96); return run(s.copy(), a[0], true)[a[1]];
            case "span": within(a[0], 0, 96); return span(a[0], a[1] != 0);
            case "led": return led(a[0], a[1] != 0);
            case "log": return log(a[0], a[1]);
            case "seed": return seed(a[0]);
            case "undo": return yes(undo());
            case "image": image = s.copy(); return 0;
            case "back": return yes(back());
            case "count": return count(a[0]);
            default: throw new Error("no such call: " + name);
        }
    }
}
