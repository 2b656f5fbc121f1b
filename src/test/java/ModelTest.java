import java.util.ArrayList;
import java.util.List;
import java.util.Random;

/** Runs of calls by chance, the same ones each time: every answer is held against the Model's. */
public final class ModelTest {
    private static final String[] ACTS = {"ticks", "ticks", "ticks", "put", "lend", "repay", "waits", "price",
        "change", "home", "empty", "seed", "undo", "image", "back"};
    private static final String[] QUESTIONS = {"fault", "lodger", "lodger", "lodger", "owes", "isHome", "needs", "inside",
        "lasts", "out", "feeder", "shiver", "after", "after", "coins", "ease", "grief", "restless", "saint", "fair",
        "tops", "stand", "dear", "earns", "warmer", "pairs", "keepers", "kettle", "swings", "minimal", "dummies",
        "net", "debt", "ring", "poorest", "rests", "odds", "busy", "alone", "miser", "alike", "trial", "span",
        "led", "log", "log", "count", "count", "count"};
    private static final String[] WORDS = {"lodger", "burns", "home", "to", "coins", "bears", "waits", "owes", "gas",
        "price", "frost", "tick", "night", "turn", "spare", "refuse", "if", "or", "and", "not", "last", "cold", "fed",
        "chill", "dark", "(", ")", "<", ">", "+", ";", "lodgers", "gasp", "i", "A", "\t", "\u00e9", "0000", "1", "60"};

    private final Random random;
    private final Face face = new Face();
    private final Model model = new Model();
    private final List<String> told = new ArrayList<>();
    private boolean isRight = true;
    private int lodgers = 0;
    private int calls = 0;

    private ModelTest(long seed) {
        random = new Random(seed);
    }

    public static void main(String[] args) {
        int runs = args.length > 0 ? Integer.parseInt(args[0]) : 1500;
        int first = args.length > 1 ? Integer.parseInt(args[1]) : 1;
        int wrong = 0;
        int calls = 0;
        for (int seed = first; seed < first + runs && wrong < 5; seed++) {
            ModelTest test = new ModelTest(seed);
            test.run(seed);
            calls += test.calls;
            wrong += test.isRight ? 0 : 1;
        }
        System.out.println(calls + " calls held against the model, " + wrong + " runs went wrong");
        if (wrong != 0) {
            System.exit(1);
        }
    }

    private void run(int seed) {
        int length = 40 + random.nextInt(300);
        if (random.nextInt(12) > 0) {
            tellFullHouse();
        }
        tellHouse();
        if (random.nextInt(4) > 0) {
            tellLaw();
        }
        while (calls < length && isRight) {
            step();
        }
        if (!isRight) {
            System.out.println("run " + seed + " went wrong at the last of these:");
            told.forEach(row -> System.out.println("  " + row));
        }
    }

    private void step() {
        int kind = random.nextInt(100);
        if (kind < 4) {
            tellHouse();
        } else if (kind < 8) {
            tellLaw();
        } else if (kind < 14) {
            tellRows();
        } else if (kind < 40) {
            callAny(ACTS[random.nextInt(ACTS.length)]);
        } else {
            callAny(QUESTIONS[random.nextInt(QUESTIONS.length)]);
        }
    }

    private void call(String name, int... a) {
        if (!isRight) {
            return;
        }
        calls++;
        String got = face.call(name, a);
        String want;
        try {
            want = Integer.toString(model.call(name, a));
        } catch (RuntimeException e) {
            want = "throws." + e.getClass().getSimpleName();
        }
        isRight = got.equals(want);
        lodgers = model.call("count", 0);
        told.add(Face.told(name, a) + " answered " + got + (isRight ? "" : ", due is " + want));
    }

    private void callAny(String name) {
        int[] a = new int[Face.parameters(name)];
        for (int i = 0; i < a.length; i++) {
            a[i] = Face.isBoolean(name, i) ? random.nextInt(2) : number(name, i, a[0]);
        }
        call(name, a);
    }

    private int number(String name, int parameter, int first) {
        if (random.nextInt(60) == 0) {
            return random.nextBoolean() ? random.nextInt() : random.nextInt(6) - 3;
        }
        switch (name) {
            case "needs": return random.nextInt(50) - 1;
            case "tops": case "kettle": return random.nextInt(10) > 0 ? random.nextInt(128) : random.nextInt();
            case "ticks": return random.nextInt(4) > 0 ? 1 + random.nextInt(12) : 1 + random.nextInt(97);
            case "trial": case "span": return random.nextInt(98);
            case "price": case "earns": return random.nextInt(4) > 0 ? 1 + random.nextInt(30) : random.nextInt(102);
            case "coins": case "ease": return random.nextInt(50);
            case "odds": return random.nextInt(8);
            case "count": return random.nextInt(17) - 1;
            case "seed": return random.nextInt();
            case "log": return parameter == 0 ? random.nextInt(64) - 1 : random.nextInt(6);
            case "pairs": return random.nextInt(lodgers + 2) - 1;
            default: return parameter == 0 ? someLodger() : second(name, parameter, first);
        }
    }

    private int second(String name, int parameter, int first) {
        switch (name) {
            case "lodger": return random.nextInt(15);
            case "isHome": case "home": return random.nextInt(49);
            case "waits": case "grief": return random.nextInt(22);
            case "fair": return random.nextInt(1001);
            case "after": return parameter == 1 ? random.nextInt(98) : random.nextInt(4);
            default: return someOther(first);
        }
    }

    /** Two of one number are asked for less often than they would come. */
    private int someOther(int first) {
        int other = someLodger();
        return other == first && random.nextInt(4) > 0 ? someLodger() : other;
    }

    private int someLodger() {
        return lodgers == 0 || random.nextInt(30) == 0 ? random.nextInt(9) - 1 : random.nextInt(lodgers);
    }

    // ---- texts ----

    private void tell(byte[] bytes) {
        call("end", 0);
        for (int[] five : Face.feeds(bytes)) {
            call("feed", five);
        }
        call("end", bytes.length);
    }

    private void tellHouse() {
        StringBuilder text = new StringBuilder(blanks());
        int lines = random.nextInt(8) == 0 ? random.nextInt(17) : random.nextInt(6);
        for (int i = 0; i < lines; i++) {
            text.append(i > 0 ? ";" + blanks() : "").append(houseLine());
        }
        tell(Face.bytes(cut(spoilt(text.toString()))));
        call("house");
        call("fault");
        call("count", 0);
    }

    /** Some LODGERS who are often at HOME, a price and a debt or two, so that there is something to ask for. */
    private void tellFullHouse() {
        int most = 1 + random.nextInt(6);
        StringBuilder text = new StringBuilder();
        for (int i = 0; i < most; i++) {
            text.append(i > 0 ? ";" : "").append(lodgerLine());
        }
        text.append(";").append(words("price", number(1, 40)));
        tell(Face.bytes(cut(text.toString())));
        call("house");
        StringBuilder debts = new StringBuilder(words("frost", number(0, 60)));
        for (int i = random.nextInt(8); i > 0 && lodgers > 1; i--) {
            int first = random.nextInt(lodgers);
            int other = (first + 1 + random.nextInt(lodgers - 1)) % lodgers;
            debts.append(";").append(words("owes", "" + first, "" + other, number(0, 99)));
        }
        tell(Face.bytes(debts.toString()));
        call("house");
    }

    private String houseLine() {
        switch (random.nextInt(lodgers < 7 ? 9 : 13)) {
            case 0: case 1: case 2: case 3: return lodgerLine();
            case 4: return words("owes", number(0, Math.max(0, lodgers)), number(0, Math.max(0, lodgers)), number(0, 99));
            case 5: return words("gas", number(0, random.nextBoolean() ? 30 : 999));
            case 6: return words("price", number(1, random.nextBoolean() ? 20 : 99));
            case 7: return words("frost", number(0, 100));
            case 8: return words(random.nextBoolean() ? "tick" : "gas", number(0, 47));
            default: return words("night", number(0, 999));
        }
    }

    private String lodgerLine() {
        String text = words("lodger", "burns", number(1, 9), "home", number(0, 47), "to", number(0, 47), "coins",
                number(0, random.nextBoolean() ? 9 : 99));
        text += random.nextBoolean() ? words("bears", number(0, random.nextBoolean() ? 4 : 20)) : "";
        return text + (random.nextBoolean() ? words("waits", number(0, random.nextBoolean() ? 4 : 20)) : "");
    }

    private void tellLaw() {
        StringBuilder text = new StringBuilder(blanks());
        int lines = random.nextInt(8) == 0 ? random.nextInt(15) : random.nextInt(5);
        for (int i = 0; i < lines; i++) {
            text.append(i > 0 ? ";" + blanks() : "");
            String kind = new String[] {"turn", "spare", "refuse"}[random.nextInt(3)];
            text.append(kind.equals("refuse") ? words(kind) : words(kind, number(0, 60)));
            text.append(random.nextInt(4) > 0 ? words("if") + any(random.nextInt(20) == 0 ? 8 : random.nextInt(4)) : "");
        }
        tell(Face.bytes(cut(spoilt(text.toString()))));
        call("law");
        call("fault");
        call("count", 2);
    }

    private String any(int depth) {
        String text = all(depth);
        while (random.nextInt(4) == 0) {
            text += words("or") + all(depth);
        }
        return text;
    }

    private String all(int depth) {
        String text = atom(depth);
        while (random.nextInt(4) == 0) {
            text += words("and") + atom(depth);
        }
        return text;
    }

    private String atom(int depth) {
        int kind = random.nextInt(depth > 0 ? 8 : 4);
        if (kind >= 6) {
            return words("not") + atom(depth - 1);
        }
        if (kind >= 4) {
            return words("(") + any(depth - 1) + words(")");
        }
        if (kind == 3) {
            return words(random.nextBoolean() ? "last" : "cold");
        }
        return sum() + words(random.nextBoolean() ? "<" : ">") + sum();
    }

    private String sum() {
        String text = part();
        while (random.nextInt(4) == 0) {
            text += words("+") + part();
        }
        return text;
    }

    private String part() {
        String[] parts = {"lodger", "burns", "coins", "fed", "chill", "dark", "tick"};
        int kind = random.nextInt(10);
        return kind < 7 ? words(parts[kind]) : words(number(0, kind == 9 ? 999 : 9));
    }

    private String number(int least, int most) {
        if (random.nextInt(120) == 0) {
            return Integer.toString(random.nextInt(1200));
        }
        String text = Integer.toString(least + random.nextInt(most - least + 1));
        return random.nextInt(10) == 0 && text.length() < 3 ? "0" + text : text;
    }

    /** Words with blanks between, more of them where there may be. */
    private String words(String... all) {
        StringBuilder text = new StringBuilder();
        for (String word : all) {
            text.append(word).append(random.nextInt(10) == 0 ? blanks() : " ");
        }
        return text.toString();
    }

    private String blanks() {
        return " ".repeat(Math.max(0, random.nextInt(5) - 2));
    }

    private String spoilt(String text) {
        if (random.nextInt(3) > 0) {
            return text;
        }
        int at = random.nextInt(text.length() + 1);
        int behind = Math.min(text.length(), at + random.nextInt(4));
        switch (random.nextInt(4)) {
            case 0: return text.substring(0, at);
            case 1: return text.substring(0, at) + text.substring(behind);
            case 2: return text.substring(0, at) + WORDS[random.nextInt(WORDS.length)] + text.substring(at);
            default: return text.substring(0, at) + (char) random.nextInt(256) + text.substring(behind);
        }
    }

    private static String cut(String text) {
        return text.length() > 400 ? text.substring(0, 400) : text;
    }

    // ---- rows ----

    private void tellRows() {
        String name = new String[] {"culprit", "ask", "drawn"}[random.nextInt(3)];
        int rows = random.nextInt(25) == 0 ? 19 + random.nextInt(3) : random.nextInt(4);
        byte[] bytes = new byte[2 * rows + (random.nextInt(30) == 0 ? 1 : 0)];
        int bad = random.nextInt(48);
        int set = random.nextInt(128);
        for (int i = 0; i + 1 < bytes.length; i += 2) {
            int tick = random.nextInt(48);
            bytes[i] = (byte) tick;
            bytes[i + 1] = (byte) (name.equals("drawn") ? burnt(set, tick) : bad <= tick ? 1 : 0);
            if (random.nextInt(40) == 0) {
                bytes[i + random.nextInt(2)] = (byte) random.nextInt(70);
            }
        }
        tell(bytes);
        callAny(name);
        call("end", 1);
    }

    private int burnt(int set, int tick) {
        int sum = 0;
        for (int i = 0; i < lodgers; i++) {
            sum += (set & 1 << i) != 0 && model.call("isHome", i, tick) == 1 ? model.call("lodger", i, 0) : 0;
        }
        return sum;
    }
}
