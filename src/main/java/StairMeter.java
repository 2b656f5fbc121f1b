import java.util.NoSuchElementException;

/** A lodging house whose gas comes by a meter on the stairs that takes coins, and whoever feeds it warms all. */
public final class StairMeter {
    public static final int NONE = -1;

    private static final int WITHOUT = -2;
    private static final int LIT = -2;

    private static final int MOST_LODGERS = 7;
    private static final int TICKS = 48;
    private static final int FARTHEST = 96;
    private static final int MOST_BYTES = 400;
    private static final int MOST_TEXTS = 12;
    private static final int MOST_HOUSE_LINES = 14;
    private static final int MOST_LAW_LINES = 12;
    private static final int MOST_LOG_ROWS = 60;
    private static final int MOST_ACTS = 12;
    private static final int MOST_CLUES = 20;
    private static final int MOST_GAS = 9999;
    private static final int MOST_NIGHT = 9999;
    private static final int MOST_BOX = 9999;
    private static final int MOST_COINS = 999;
    private static final int MOST_COLD = 999;
    private static final int MOST_DEBT = 99;
    private static final int MOST_DARK = 99;
    private static final int MOST_CHILL = 99;
    private static final int MOST_PRICE = 99;
    private static final int MOST_WAITS = 20;
    private static final int MOST_BEARS = 20;
    private static final int MOST_EASE = 99;
    private static final int MOST_SEEDS = 6;
    private static final int MOST_FROST = 100;
    private static final int MOST_NUMBER = 999;
    private static final int MOST_THROWS = 6;
    private static final int COIN_GRIEF = 3;

    // What is kept of a LODGER, numbered as lodger() asks for it.
    private static final int BURNS = 0;
    private static final int FROM = 1;
    private static final int TO = 2;
    private static final int BEARS = 3;
    private static final int WAITS = 4;
    private static final int COINS = 5;
    private static final int CHILL = 6;
    private static final int COLD = 7;
    private static final int FED = 8;
    private static final int FACTS = 9;

    private static final int WENT_OUT = 0;
    private static final int WAS_FED = 1;
    private static final int WAS_COLD = 2;
    private static final int LOG_CELLS = 5;

    private final Tape tape;
    private final Clues clues;
    private final House now;
    private final House staged;
    private final House ahead;
    private final House kept;
    private final Law rule;
    private final Law stagedRule;
    private final Law keptRule;
    private final HouseLines houseLines;
    private final LawLines lawLines;
    private final Night night;
    private final Pairing pairing;
    private final Acts acts;
    private final long[] chances;
    private final int[] griefs;
    private boolean isKept;
    private int wrong;

    public StairMeter() {
        tape = new Tape();
        clues = new Clues();
        now = new House(MOST_LOG_ROWS);
        staged = new House(MOST_LOG_ROWS);
        ahead = new House(0);
        kept = new House(MOST_LOG_ROWS);
        rule = new Law();
        stagedRule = new Law();
        keptRule = new Law();
        houseLines = new HouseLines(tape, staged);
        lawLines = new LawLines(tape, stagedRule);
        night = new Night();
        pairing = new Pairing();
        acts = new Acts();
        chances = new long[MOST_THROWS + 1];
        griefs = new int[MOST_LODGERS];
        isKept = false;
        wrong = NONE;
    }

    // ---- the TAPE and the texts ----

    public int feed(int a, int b, int c, int d, int e) {
        if (tape.length + 20 > MOST_BYTES) {
            return NONE;
        }
        tape.append(a);
        tape.append(b);
        tape.append(c);
        tape.append(d);
        tape.append(e);
        return tape.length;
    }

    public boolean end(int n) {
        if (n < 0 || n > tape.length) {
            return false;
        }
        tape.length = n;
        return true;
    }

    public int house() throws IllegalArgumentException, UnsupportedOperationException {
        staged.takeOver(now);
        tape.open();
        boolean isRight = houseLines.readLines(MOST_HOUSE_LINES);
        wrong = tape.wrong;
        if (!isRight) {
            throw new IllegalArgumentException();
        }
        if (now.texts >= MOST_TEXTS) {
            throw new UnsupportedOperationException();
        }
        now.takeOver(staged);
        now.texts++;
        acts.forget();
        return now.texts;
    }

    public int law() throws IllegalArgumentException {
        stagedRule.clear();
        tape.open();
        boolean isRight = lawLines.readLines(MOST_LAW_LINES);
        wrong = tape.wrong;
        if (!isRight) {
            throw new IllegalArgumentException();
        }
        rule.takeOver(stagedRule);
        acts.forget();
        return rule.lines;
    }

    public int fault() {
        return wrong;
    }

    // ---- what there is ----

    public int lodger(int lodger, int what) throws IndexOutOfBoundsException, NoSuchElementException {
        checkLodger(lodger);
        if (what >= 0 && what < FACTS) {
            return now.get(lodger, what);
        }
        switch (what) {
            case 9:
                night.tell(now, lodger);
                return rule.turnOf(night.values);
            case 10:
                night.tell(now, lodger);
                return rule.isRefused(night.values) ? 1 : 0;
            case 11:
                return hundredths(now.get(lodger, FED), now.sum(FED));
            case 12:
                return now.metered(lodger);
            case 13:
                night.learn(now);
                return bestWait(lodger);
            default:
                throw new NoSuchElementException();
        }
    }

    public int owes(int lodger, int other) throws IndexOutOfBoundsException, IllegalArgumentException {
        checkTwo(lodger, other);
        return now.owed(lodger, other);
    }

    public boolean isHome(int lodger, int tick) throws IndexOutOfBoundsException {
        checkLodger(lodger);
        checkTick(tick);
        return now.isIn(lodger, tick);
    }

    public int needs(int tick) throws IndexOutOfBoundsException {
        checkTick(tick);
        night.learn(now);
        return night.needsAt(tick);
    }

    public int count(int what) {
        switch (what) {
            case 0: return now.lodgers;
            case 1: return now.texts;
            case 2: return rule.lines;
            case 3: return now.tick;
            case 4: return now.night;
            case 5: return now.gas;
            case 6: return now.price;
            case 7: return now.dark;
            case 8: return now.frost;
            case 9: return now.box;
            case 10: return now.last;
            case 11: return now.sum(COLD);
            case 12: return now.sum(COINS);
            case 13: return now.log.rows;
            case 14: return acts.size;
            default: return NONE;
        }
    }

    public int inside() {
        night.learn(now);
        return night.presentAt(now.tick);
    }

    // ---- the ACTS ----

    public int ticks(int n) throws IllegalArgumentException {
        checkRange(n, 1, FARTHEST);
        acts.remember(now);
        night.learn(now);
        int darkTicks = 0;
        for (int i = 0; i < n; i++) {
            if (night.pass(now, rule, true) != LIT) {
                darkTicks++;
            }
        }
        return darkTicks;
    }

    public int put(int lodger) throws IndexOutOfBoundsException, IllegalStateException {
        checkLodger(lodger);
        if (now.get(lodger, COINS) < 1) {
            throw new IllegalStateException();
        }
        acts.remember(now);
        now.takeCoin(lodger);
        return now.gas;
    }

    public int lend(int lodger, int other)
            throws IndexOutOfBoundsException, IllegalArgumentException, IllegalStateException {
        checkTwo(lodger, other);
        if (now.get(lodger, COINS) < 1 || now.get(other, COINS) >= MOST_COINS
                || now.owed(other, lodger) >= MOST_DEBT) {
            throw new IllegalStateException();
        }
        acts.remember(now);
        now.moveCoins(lodger, other, 1);
        now.setOwed(other, lodger, now.owed(other, lodger) + 1);
        return now.get(lodger, COINS);
    }

    public int repay(int lodger, int other)
            throws IndexOutOfBoundsException, IllegalArgumentException, IllegalStateException {
        checkTwo(lodger, other);
        int paid = Math.min(now.owed(lodger, other), now.get(lodger, COINS));
        paid = Math.min(paid, MOST_COINS - now.get(other, COINS));
        if (paid < 1) {
            throw new IllegalStateException();
        }
        acts.remember(now);
        now.moveCoins(lodger, other, paid);
        now.setOwed(lodger, other, now.owed(lodger, other) - paid);
        return paid;
    }

    public int waits(int lodger, int n) throws IndexOutOfBoundsException, IllegalArgumentException {
        checkLodger(lodger);
        checkRange(n, 0, MOST_WAITS);
        acts.remember(now);
        int before = now.get(lodger, WAITS);
        now.set(lodger, WAITS, n);
        return before;
    }

    public int price(int n) throws IllegalArgumentException {
        checkRange(n, 1, MOST_PRICE);
        acts.remember(now);
        int before = now.price;
        now.price = n;
        return before;
    }

    public int change(int lodger, int other) throws IndexOutOfBoundsException, IllegalArgumentException {
        checkTwo(lodger, other);
        acts.remember(now);
        now.swapRooms(lodger, other);
        return now.get(lodger, BURNS);
    }

    public int home(int lodger, int from, int to) throws IndexOutOfBoundsException {
        checkLodger(lodger);
        checkTick(from);
        checkTick(to);
        acts.remember(now);
        now.set(lodger, FROM, from);
        now.set(lodger, TO, to);
        return now.hours(lodger);
    }

    public int empty() {
        acts.remember(now);
        int before = now.box;
        now.box = 0;
        return before;
    }

    // ---- TICKS AHEAD ----

    public int lasts() {
        return firstDark();
    }

    // Nobody feeds ahead of the first dark TICK, so it comes when it would come without feeding, too.
    public int out() {
        return firstDark();
    }

    private int firstDark() {
        start();
        for (int n = 1; n <= FARTHEST; n++) {
            if (night.pass(ahead, rule, false) != LIT) {
                return n;
            }
        }
        return NONE;
    }

    public int feeder() {
        start();
        for (int n = 1; n <= FARTHEST; n++) {
            int who = night.pass(ahead, rule, false);
            if (who >= 0) {
                return who;
            }
        }
        return NONE;
    }

    public int shiver() {
        start();
        for (int n = 1; n <= FARTHEST; n++) {
            night.pass(ahead, rule, false);
            int who = firstColder();
            if (who != NONE) {
                return who;
            }
        }
        return NONE;
    }

    private int firstColder() {
        for (int i = 0; i < now.lodgers; i++) {
            if (ahead.get(i, COLD) > now.get(i, COLD)) {
                return i;
            }
        }
        return NONE;
    }

    public int after(int lodger, int n, int what)
            throws IndexOutOfBoundsException, IllegalArgumentException, NoSuchElementException {
        checkLodger(lodger);
        checkRange(n, 0, FARTHEST);
        if (what < 0 || what > 2) {
            throw new NoSuchElementException();
        }
        start();
        run(n, false);
        if (what == 0) {
            return ahead.get(lodger, COINS);
        }
        return ahead.get(lodger, what == 1 ? COLD : FED);
    }

    public int coins(int n) throws IllegalArgumentException {
        checkRange(n, 0, TICKS);
        night.learn(now);
        int lack = -now.gas;
        for (int i = 0; i < n; i++) {
            lack += night.needsAt((now.tick + i) % TICKS);
        }
        if (lack <= 0 || now.price < 1) {
            return 0;
        }
        return (lack + now.price - 1) / now.price;
    }

    public int ease(int n) throws IllegalArgumentException {
        checkRange(n, 0, TICKS);
        night.learn(now);
        for (int coins = 0; coins <= MOST_EASE; coins++) {
            ahead.takeOver(now);
            ahead.addGas(coins * now.price);
            run(n, false);
            if (firstColder() == NONE) {
                return coins;
            }
        }
        return NONE;
    }

    private void start() {
        night.learn(now);
        ahead.takeOver(now);
    }

    // How many COINS were fed.
    private int run(int n, boolean isFrosty) {
        int fed = 0;
        for (int i = 0; i < n; i++) {
            if (night.pass(ahead, rule, isFrosty) >= 0) {
                fed++;
            }
        }
        return fed;
    }

    // ---- GRIEF ----

    public int grief(int lodger, int w) throws IndexOutOfBoundsException, IllegalArgumentException {
        checkLodger(lodger);
        checkRange(w, 0, MOST_WAITS);
        night.learn(now);
        return griefBy(lodger, w);
    }

    public int restless() {
        night.learn(now);
        int bits = 0;
        for (int i = 0; i < now.lodgers; i++) {
            if (wouldWait(i)) {
                bits |= 1 << i;
            }
        }
        return bits;
    }

    // Whether one has less GRIEF by some other WAITS than by its own.
    private boolean wouldWait(int lodger) {
        int own = griefBy(lodger, now.get(lodger, WAITS));
        for (int w = 0; w <= MOST_WAITS; w++) {
            if (griefBy(lodger, w) < own) {
                return true;
            }
        }
        return false;
    }

    public int saint(int lodger, boolean victims) throws IndexOutOfBoundsException {
        checkLodger(lodger);
        night.learn(now);
        griefBy(lodger, now.get(lodger, WAITS));
        for (int i = 0; i < MOST_LODGERS; i++) {
            griefs[i] = griefAhead(i);
        }
        griefBy(lodger, 0);
        int bits = 0;
        for (int i = 0; i < now.lodgers && i < MOST_LODGERS; i++) {
            int then = griefAhead(i);
            if (i != lodger && (victims ? then > griefs[i] : then < griefs[i])) {
                bits |= 1 << i;
            }
        }
        return bits;
    }

    public boolean warmer(int lodger, int other) throws IndexOutOfBoundsException, IllegalArgumentException {
        checkTwo(lodger, other);
        night.learn(now);
        int first = griefBy(lodger, now.get(lodger, WAITS));
        int second = griefAhead(other);
        ahead.takeOver(now);
        ahead.swapRooms(lodger, other);
        night.learn(ahead);
        run(TICKS, false);
        return griefAhead(lodger) < first && griefAhead(other) < second;
    }

    private int bestWait(int lodger) {
        int best = 0;
        int least = griefBy(lodger, 0);
        for (int w = 1; w <= MOST_WAITS; w++) {
            int other = griefBy(lodger, w);
            if (other < least) {
                least = other;
                best = w;
            }
        }
        return best;
    }

    // Leaves the house AHEAD behind it, so that the GRIEF of others can be asked for, too.
    private int griefBy(int lodger, int w) {
        ahead.takeOver(now);
        ahead.set(lodger, WAITS, w);
        run(TICKS, false);
        return griefAhead(lodger);
    }

    private int griefAhead(int lodger) {
        int cold = ahead.get(lodger, COLD) - now.get(lodger, COLD);
        int fed = ahead.get(lodger, FED) - now.get(lodger, FED);
        return cold + COIN_GRIEF * fed;
    }

    // ---- shares, prices, odds ----

    public int fair(int lodger, int n) throws IndexOutOfBoundsException, IllegalArgumentException {
        checkLodger(lodger);
        checkRange(n, 0, MOST_COINS);
        int all = 0;
        for (int i = 0; i < now.lodgers; i++) {
            all += now.metered(i);
        }
        int left = n;
        for (int i = 0; i < now.lodgers; i++) {
            left -= share(n, now.metered(i), all);
        }
        return share(n, now.metered(lodger), all) + (lodger < left ? 1 : 0);
    }

    private static int share(int n, int part, int all) {
        return all > 0 ? n * part / all : 0;
    }

    private static int hundredths(int part, int all) {
        return share(100, part, all);
    }

    public int tops(int lodgers) {
        night.learn(now);
        return mostNeeds(lodgers);
    }

    public int stand(int lodger) throws IndexOutOfBoundsException {
        checkLodger(lodger);
        night.learn(now);
        int all = mostNeeds(everybody());
        return hundredths(all - mostNeeds(everybody() & ~(1 << lodger)), all);
    }

    private int mostNeeds(int lodgers) {
        int most = 0;
        for (int tick = 0; tick < TICKS; tick++) {
            most = Math.max(most, now.burnt(lodgers & night.presentAt(tick)));
        }
        return most;
    }

    public int dear(boolean mild) {
        night.learn(now);
        int best = 1;
        int most = 0;
        for (int price = 1; price <= MOST_PRICE; price++) {
            int fed = earned(price);
            int worth = mild ? -ahead.sum(COLD) : fed;
            if (price == 1 || worth > most) {
                most = worth;
                best = price;
            }
        }
        return best;
    }

    public int earns(int price) throws IllegalArgumentException {
        checkRange(price, 1, MOST_PRICE);
        night.learn(now);
        return earned(price);
    }

    private int earned(int price) {
        ahead.takeOver(now);
        ahead.price = price;
        return run(TICKS, false);
    }

    public int odds(int n, int k) throws IllegalArgumentException {
        checkRange(n, 0, MOST_THROWS);
        checkRange(k, 0, MOST_THROWS);
        // chances[j]: that there was frost in j of the TICKS so far, in parts of all.
        long all = 1;
        for (int j = 0; j <= MOST_THROWS; j++) {
            chances[j] = j == 0 ? 1 : 0;
        }
        for (int i = 0; i < n; i++) {
            all *= 100;
            for (int j = MOST_THROWS; j >= 0; j--) {
                long more = j > 0 ? chances[j - 1] * now.frost : 0;
                chances[j] = chances[j] * (100 - now.frost) + more;
            }
        }
        long enough = 0;
        for (int j = k; j <= MOST_THROWS; j++) {
            enough += chances[j];
        }
        return all > 0 ? (int) (enough * 10000 / all) : 0;
    }

    // ---- what was told of TICKS ----

    public int culprit(boolean who) throws IllegalArgumentException {
        readClues(1);
        night.learn(now);
        int pairs = 0;
        int bits = 0;
        for (int tick = 0; tick < TICKS; tick++) {
            if (clues.isPossible(tick)) {
                pairs += Integer.bitCount(night.presentAt(tick));
                bits |= night.presentAt(tick);
            }
        }
        return who ? bits : pairs;
    }

    public int ask() throws IllegalArgumentException {
        readClues(1);
        night.learn(now);
        int all = fitting(TICKS - 1);
        if (all < 2) {
            return NONE;
        }
        int best = 0;
        int least = all + 1;
        for (int tick = 0; tick < TICKS; tick++) {
            int come = fitting(tick);
            int greater = Math.max(come, all - come);
            if (greater < least) {
                least = greater;
                best = tick;
            }
        }
        return best;
    }

    // Pairs that fit whose TICK is not behind the one that is told.
    private int fitting(int tick) {
        int pairs = 0;
        for (int i = 0; i <= tick; i++) {
            if (clues.isPossible(i)) {
                pairs += Integer.bitCount(night.presentAt(i));
            }
        }
        return pairs;
    }

    public int drawn(int what) throws IllegalArgumentException, NoSuchElementException {
        readClues(63);
        if (what < 0 || what > 2) {
            throw new NoSuchElementException();
        }
        night.learn(now);
        int sets = 0;
        int sure = everybody();
        int fewest = NONE;
        for (int set = 0; set <= everybody(); set++) {
            if (isDrawn(set)) {
                sets++;
                sure &= set;
                fewest = fewer(fewest, set);
            }
        }
        if (what == 0) {
            return sets;
        }
        return what == 2 ? fewest : sets > 0 ? sure : 0;
    }

    private boolean isDrawn(int set) {
        for (int i = 0; i < clues.rows && i < MOST_CLUES; i++) {
            if (now.burnt(set & night.presentAt(clues.tick[i])) != clues.told[i]) {
                return false;
            }
        }
        return true;
    }

    private void readClues(int most) {
        if (!clues.readRows(tape, most)) {
            throw new IllegalArgumentException();
        }
    }

    // Of two sets, asked for in their order as numbers, the one of fewer.
    private static int fewer(int first, int second) {
        return first == NONE || Integer.bitCount(second) < Integer.bitCount(first) ? second : first;
    }

    // ---- LODGERS together ----

    public int pairs(int lodger) throws IndexOutOfBoundsException {
        if (lodger != NONE) {
            checkLodger(lodger);
        }
        night.learn(now);
        pairing.solve(night, now.lodgers);
        return lodger == NONE ? pairing.most : pairing.partnerOf(lodger);
    }

    public int keepers() {
        night.learn(now);
        int fewest = NONE;
        for (int set = 0; set <= everybody(); set++) {
            if (isKeeping(set)) {
                fewest = fewer(fewest, set);
            }
        }
        return fewest;
    }

    private boolean isKeeping(int set) {
        for (int tick = 0; tick < TICKS; tick++) {
            int present = night.presentAt(tick);
            if (present != 0 && (present & set) == 0) {
                return false;
            }
        }
        return true;
    }

    public boolean kettle(int lodgers) {
        return carries(lodgers);
    }

    public int swings(int lodger) throws IndexOutOfBoundsException {
        checkLodger(lodger);
        return swung(lodger);
    }

    public int minimal() {
        int sets = 0;
        for (int set = 0; set <= everybody(); set++) {
            if (carries(set) && needsEach(set)) {
                sets++;
            }
        }
        return sets;
    }

    public int dummies() {
        int bits = 0;
        for (int i = 0; i < now.lodgers; i++) {
            if (swung(i) == 0) {
                bits |= 1 << i;
            }
        }
        return bits;
    }

    private int swung(int lodger) {
        int one = 1 << lodger;
        int sets = 0;
        for (int set = 0; set <= everybody(); set++) {
            if ((set & one) != 0 && carries(set) && !carries(set & ~one)) {
                sets++;
            }
        }
        return sets;
    }

    private boolean needsEach(int set) {
        for (int i = 0; i < now.lodgers; i++) {
            if ((set >> i & 1) != 0 && carries(set & ~(1 << i))) {
                return false;
            }
        }
        return true;
    }

    private boolean carries(int set) {
        int more = 0;
        for (int i = 0; i < now.lodgers; i++) {
            int fed = now.get(i, FED);
            more += (set >> i & 1) != 0 ? fed : -fed;
        }
        return more > 0;
    }

    // ---- debts ----

    public int net(int lodger, int other) throws IndexOutOfBoundsException, IllegalArgumentException {
        checkTwo(lodger, other);
        return Math.max(0, now.owed(lodger, other) - now.owed(other, lodger));
    }

    public int debt() {
        int all = 0;
        for (int i = 0; i < now.lodgers; i++) {
            all += Math.max(0, now.owesMore(i));
        }
        return all;
    }

    public boolean ring(int lodger) throws IndexOutOfBoundsException {
        checkLodger(lodger);
        int reached = now.creditors(lodger);
        for (int steps = 0; steps < now.lodgers; steps++) {
            for (int i = 0; i < now.lodgers; i++) {
                if ((reached >> i & 1) != 0) {
                    reached |= now.creditors(i);
                }
            }
        }
        return (reached >> lodger & 1) != 0;
    }

    public int poorest() {
        int who = NONE;
        int least = 0;
        for (int i = 0; i < now.lodgers; i++) {
            int worth = now.get(i, COINS) - now.owesMore(i);
            if (who == NONE || worth < least) {
                least = worth;
                who = i;
            }
        }
        return who;
    }

    // ---- choices on the stairs ----

    public int rests(int lodger, int other) throws IndexOutOfBoundsException, IllegalArgumentException {
        checkTwo(lodger, other);
        night.learn(now);
        int warmth = now.price / Math.max(1, night.needsAt(now.tick));
        int bits = 0;
        for (int choice = 0; choice < 4; choice++) {
            int first = choice >> 1;
            int second = choice & 1;
            if (isContent(lodger, first, second, warmth) && isContent(other, second, first, warmth)) {
                bits |= 1 << choice;
            }
        }
        return bits;
    }

    private boolean isContent(int lodger, int own, int others, int warmth) {
        return gain(lodger, own, others, warmth) >= gain(lodger, 1 - own, others, warmth);
    }

    private int gain(int lodger, int own, int others, int warmth) {
        if (own == 0) {
            return others == 0 ? warmth - 2 : warmth - 4;
        }
        return others == 0 ? warmth : -(now.get(lodger, CHILL) + 1);
    }

    // ---- counts ----

    public int busy() {
        night.learn(now);
        int best = 0;
        for (int tick = 1; tick < TICKS; tick++) {
            if (night.needsAt(tick) > night.needsAt(best)) {
                best = tick;
            }
        }
        return best;
    }

    public int alone() {
        night.learn(now);
        int ticks = 0;
        for (int tick = 0; tick < TICKS; tick++) {
            if (night.presentAt(tick) == 0) {
                ticks++;
            }
        }
        return ticks;
    }

    public int miser() {
        int who = NONE;
        for (int i = 0; i < now.lodgers; i++) {
            if (!now.isIn(i, now.tick) || now.get(i, COINS) < 1) {
                continue;
            }
            if (who == NONE || now.get(i, WAITS) > now.get(who, WAITS)) {
                who = i;
            }
        }
        return who;
    }

    public int alike() {
        int pairs = 0;
        for (int i = 0; i < now.lodgers; i++) {
            for (int j = i + 1; j < now.lodgers; j++) {
                if (now.isLike(i, j)) {
                    pairs++;
                }
            }
        }
        return pairs;
    }

    // ---- trials ----

    public int trial(int n, boolean cold) throws IllegalArgumentException {
        checkRange(n, 0, FARTHEST);
        start();
        int fed = run(n, true);
        return cold ? ahead.sum(COLD) : fed;
    }

    public int span(int n, boolean most) throws IllegalArgumentException {
        checkRange(n, 0, FARTHEST);
        night.learn(now);
        int best = 0;
        for (int seed = 1; seed <= MOST_SEEDS; seed++) {
            ahead.takeOver(now);
            ahead.seed = seed;
            int fed = run(n, true);
            if (seed == 1 || (most ? fed > best : fed < best)) {
                best = fed;
            }
        }
        return best;
    }

    // ---- THE LOG ----

    public int led(int lodger, boolean tick) throws IndexOutOfBoundsException {
        checkLodger(lodger);
        int rows = 0;
        int latest = NONE;
        for (int ago = 0; ago < now.log.rows; ago++) {
            if (now.log.cell(ago, 3) != lodger) {
                continue;
            }
            if (rows == 0) {
                latest = now.log.cell(ago, 1);
            }
            rows++;
        }
        return tick ? latest : rows;
    }

    public int log(int ago, int what) throws NoSuchElementException {
        if (what < 0 || what >= LOG_CELLS) {
            throw new NoSuchElementException();
        }
        return now.log.cell(ago, what);
    }

    // ---- SEED, UNDONE, THE IMAGE ----

    public int seed(int n) {
        int before = now.seed;
        now.seed = n;
        return before;
    }

    public boolean undo() {
        return acts.takeBack(now);
    }

    public void image() {
        kept.takeOver(now);
        keptRule.takeOver(rule);
        isKept = true;
    }

    public boolean back() {
        if (!isKept) {
            return false;
        }
        now.takeOver(kept);
        rule.takeOver(keptRule);
        acts.forget();
        return true;
    }

    // ---- what is refused ----

    private int everybody() {
        return (1 << now.lodgers) - 1;
    }

    private void checkLodger(int lodger) {
        if (lodger < 0 || lodger >= now.lodgers) {
            throw new IndexOutOfBoundsException();
        }
    }

    private void checkTwo(int lodger, int other) {
        checkLodger(lodger);
        checkLodger(other);
        if (lodger == other) {
            throw new IllegalArgumentException();
        }
    }

    private static void checkTick(int tick) {
        if (tick < 0 || tick >= TICKS) {
            throw new IndexOutOfBoundsException();
        }
    }

    private static void checkRange(int n, int least, int most) {
        if (n < least || n > most) {
            throw new IllegalArgumentException();
        }
    }

    /** The bytes that were told; a text of them is read as things: words, numbers and signs. */
    private static final class Tape {
        // A sign is its own byte; all else has a number behind these.
        private static final int END = 256;
        private static final int NUMBER = 257;
        private static final int STRANGE = 258;
        private static final int WORD = 259;

        // In the order of the words below.
        private static final int LODGER = 260;
        private static final int BURNT = 261;
        private static final int HOME = 262;
        private static final int UNTIL = 263;
        private static final int COIN = 264;
        private static final int BEARING = 265;
        private static final int WAITING = 266;
        private static final int OWING = 267;
        private static final int GAS = 268;
        private static final int PRICE = 269;
        private static final int FROST = 270;
        private static final int TICK = 271;
        private static final int NIGHT = 272;
        private static final int TURN = 273;
        private static final int SPARE = 274;
        private static final int REFUSE = 275;
        private static final int IF = 276;
        private static final int OR = 277;
        private static final int AND = 278;
        private static final int NOT = 279;
        private static final int LAST = 280;
        private static final int COLDER = 281;
        private static final int FEEDING = 282;
        private static final int CHILLED = 283;
        private static final int DARK = 284;

        private static final String WORDS =
                "lodger burns home to coins bears waits owes gas price frost tick night turn spare refuse if or and not last cold fed chill dark ";
        private static final int MOST_DIGITS = 3;

        private final int[] bytes;
        private final int[] things;
        private final int[] begins;
        private final int[] numbers;
        private int length;
        private int size;
        private int at;
        private int wrong;

        private Tape() {
            bytes = new int[MOST_BYTES];
            things = new int[MOST_BYTES + 1];
            begins = new int[MOST_BYTES + 1];
            numbers = new int[MOST_BYTES + 1];
            length = 0;
            size = 0;
            at = 0;
            wrong = NONE;
        }

        private void append(int number) {
            for (int shift = 24; shift >= 0; shift -= 8) {
                if (length >= 0 && length < MOST_BYTES) {
                    bytes[length] = number >>> shift & 255;
                    length++;
                }
            }
        }

        private int byteAt(int place) {
            return place >= 0 && place < MOST_BYTES ? bytes[place] : 0;
        }

        // Uses the TAPE up: its things stand ready, the END behind all others.
        private void open() {
            int all = length;
            length = 0;
            size = 0;
            at = 0;
            wrong = NONE;
            int begin = 0;
            for (int i = 0; i < MOST_BYTES && begin < all; i++) {
                int behind = behindThing(begin, all);
                if (byteAt(begin) != ' ') {
                    addThing(begin, behind);
                }
                begin = behind;
            }
            addThing(all, all);
        }

        private int behindThing(int begin, int all) {
            int kind = kindOf(byteAt(begin));
            int behind = begin + 1;
            while (kind != NONE && behind < all && kindOf(byteAt(behind)) == kind) {
                behind++;
            }
            return behind;
        }

        // NONE of a sign, which stands alone.
        private static int kindOf(int sign) {
            if (sign >= 'a' && sign <= 'z') {
                return WORD;
            }
            return sign >= '0' && sign <= '9' ? NUMBER : NONE;
        }

        private void addThing(int begin, int behind) {
            if (size < 0 || size > MOST_BYTES) {
                return;
            }
            begins[size] = begin;
            numbers[size] = numberAt(begin, behind);
            things[size] = thingAt(begin, behind);
            size++;
        }

        private int thingAt(int begin, int behind) {
            if (begin >= behind) {
                return END;
            }
            int kind = kindOf(byteAt(begin));
            if (kind == NUMBER) {
                return behind - begin <= MOST_DIGITS ? NUMBER : STRANGE;
            }
            return kind == NONE ? byteAt(begin) : wordAt(begin, behind);
        }

        private int numberAt(int begin, int behind) {
            int number = 0;
            for (int i = begin; i < behind && i < begin + MOST_DIGITS; i++) {
                number = 10 * number + byteAt(i) - '0';
            }
            return number;
        }

        private int wordAt(int begin, int behind) {
            int word = LODGER;
            int alike = 0;
            for (int i = 0; i < WORDS.length(); i++) {
                if (WORDS.charAt(i) == ' ') {
                    if (alike == behind - begin) {
                        return word;
                    }
                    word++;
                    alike = 0;
                } else {
                    boolean isAlike = alike >= 0 && begin + alike < behind
                            && byteAt(begin + alike) == WORDS.charAt(i);
                    alike = isAlike ? alike + 1 : NONE;
                }
            }
            return STRANGE;
        }

        private int thing() {
            return at >= 0 && at <= MOST_BYTES && at < size ? things[at] : END;
        }

        private boolean takes(int thing) {
            if (at < 0 || at > MOST_BYTES || at >= size || things[at] != thing) {
                return false;
            }
            at++;
            return true;
        }

        // NONE, and wrong at it, if no such number stands here.
        private int takesNumber(int least, int most) {
            if (at < 0 || at > MOST_BYTES) {
                return NONE;
            }
            int number = things[at] == NUMBER ? numbers[at] : NONE;
            if (number < least || number > most) {
                wrong = begins[at];
                return NONE;
            }
            at++;
            return number;
        }

        // Always false, so that a reader can hand it on.
        private boolean fails() {
            wrong = at >= 0 && at <= MOST_BYTES ? begins[at] : 0;
            return false;
        }
    }

    /** Rows of a TICK and a number each. */
    private static final class Clues {
        private final int[] tick;
        private final int[] told;
        private int rows;

        private Clues() {
            tick = new int[MOST_CLUES];
            told = new int[MOST_CLUES];
            rows = 0;
        }

        // Uses the TAPE up, whether it is right or not.
        private boolean readRows(Tape tape, int most) {
            int length = tape.length;
            tape.length = 0;
            rows = 0;
            if (length % 2 != 0 || length > 2 * MOST_CLUES) {
                return false;
            }
            for (int i = 0; i < MOST_CLUES && 2 * i < length; i++) {
                tick[i] = tape.byteAt(2 * i);
                told[i] = tape.byteAt(2 * i + 1);
                if (tick[i] >= TICKS || told[i] > most) {
                    return false;
                }
                rows = i + 1;
            }
            return true;
        }

        // Whether the bad coin may have come in this TICK.
        private boolean isPossible(int when) {
            for (int i = 0; i < rows && i < MOST_CLUES; i++) {
                if ((when <= tick[i]) != (told[i] == 1)) {
                    return false;
                }
            }
            return true;
        }
    }

    /** A text of LINES; what it tells goes where nothing stays if it is wrong. */
    private abstract static class Lines {
        final Tape tape;

        Lines(Tape tape) {
            this.tape = tape;
        }

        abstract boolean readLine();

        final boolean readLines(int most) {
            if (tape.thing() == Tape.END) {
                return true;
            }
            for (int line = 0; line < most; line++) {
                if (!readLine()) {
                    return false;
                }
                if (tape.thing() == Tape.END) {
                    return true;
                }
                if (!tape.takes(';')) {
                    return tape.fails();
                }
            }
            return tape.fails();
        }
    }

    /** Reads a text of THE HOUSE. */
    private static final class HouseLines extends Lines {
        private static final int MOST_BURNS = 9;
        private static final int MOST_TOLD_COINS = 99;
        private static final int FIRST_BEARS = 3;
        private static final int FIRST_WAITS = 2;

        private final House house;

        private HouseLines(Tape tape, House house) {
            super(tape);
            this.house = house;
        }

        boolean readLine() {
            if (tape.thing() == Tape.LODGER) {
                return readLodger();
            }
            if (tape.takes(Tape.OWING)) {
                return readDebt();
            }
            if (tape.takes(Tape.GAS)) {
                house.gas = tape.takesNumber(0, MOST_NUMBER);
            } else if (tape.takes(Tape.PRICE)) {
                house.price = tape.takesNumber(1, MOST_PRICE);
            } else if (tape.takes(Tape.FROST)) {
                house.frost = tape.takesNumber(0, MOST_FROST);
            } else if (tape.takes(Tape.TICK)) {
                house.tick = tape.takesNumber(0, TICKS - 1);
            } else if (tape.takes(Tape.NIGHT)) {
                house.night = tape.takesNumber(0, MOST_NUMBER);
            } else {
                tape.fails();
            }
            return tape.wrong == NONE;
        }

        private boolean readLodger() {
            int lodger = house.lodgers;
            if (lodger >= MOST_LODGERS) {
                return tape.fails();
            }
            house.lodgers = lodger + 1;
            house.set(lodger, BEARS, FIRST_BEARS);
            house.set(lodger, WAITS, FIRST_WAITS);
            return tape.takes(Tape.LODGER)
                    && readFact(Tape.BURNT, BURNS, 1, MOST_BURNS)
                    && readFact(Tape.HOME, FROM, 0, TICKS - 1)
                    && readFact(Tape.UNTIL, TO, 0, TICKS - 1)
                    && readFact(Tape.COIN, COINS, 0, MOST_TOLD_COINS)
                    && (tape.thing() != Tape.BEARING || readFact(Tape.BEARING, BEARS, 0, MOST_BEARS))
                    && (tape.thing() != Tape.WAITING || readFact(Tape.WAITING, WAITS, 0, MOST_WAITS));
        }

        // Of the LODGER that came the last.
        private boolean readFact(int word, int what, int least, int most) {
            if (!tape.takes(word)) {
                return tape.fails();
            }
            int value = tape.takesNumber(least, most);
            house.set(house.lodgers - 1, what, value);
            return value != NONE;
        }

        private boolean readDebt() {
            int lodger = tape.takesNumber(0, house.lodgers - 1);
            if (lodger == NONE) {
                return false;
            }
            int second = tape.at;
            int other = tape.takesNumber(0, house.lodgers - 1);
            if (other == NONE) {
                return false;
            }
            if (other == lodger) {
                tape.at = second;
                return tape.fails();
            }
            int owed = tape.takesNumber(0, MOST_DEBT);
            house.setOwed(lodger, other, owed);
            return owed != NONE;
        }
    }

    /** Reads THE LAW. */
    private static final class LawLines extends Lines {
        private static final int MOST_WEIGHT = 60;
        private static final int DEEPEST = 6;

        private final Law law;

        private LawLines(Tape tape, Law law) {
            super(tape);
            this.law = law;
        }

        boolean readLine() {
            int kind = kindOf(tape.thing());
            if (!tape.takes(Tape.TURN) && !tape.takes(Tape.SPARE) && !tape.takes(Tape.REFUSE)) {
                return tape.fails();
            }
            int weight = kind == Law.REFUSE ? 0 : tape.takesNumber(0, MOST_WEIGHT);
            if (weight == NONE) {
                return false;
            }
            int begin = law.size;
            if (tape.takes(Tape.IF) && !readAny(0)) {
                return false;
            }
            law.addLine(kind, weight, begin);
            return true;
        }

        private static int kindOf(int word) {
            if (word == Tape.TURN) {
                return Law.TURN;
            }
            return word == Tape.SPARE ? Law.SPARE : Law.REFUSE;
        }

        // Some of several: what holds already is not looked at further.
        private boolean readAny(int depth) {
            int jumps = NONE;
            boolean isRight = readAll(depth);
            for (int i = 0; i < MOST_BYTES && isRight && tape.takes(Tape.OR); i++) {
                jumps = law.addJump(Law.IF_SO, jumps);
                isRight = readAll(depth);
            }
            law.land(jumps);
            return isRight;
        }

        // All of several: what fails already is not looked at further.
        private boolean readAll(int depth) {
            int jumps = NONE;
            boolean isRight = readAtom(depth);
            for (int i = 0; i < MOST_BYTES && isRight && tape.takes(Tape.AND); i++) {
                jumps = law.addJump(Law.IF_NOT, jumps);
                isRight = readAtom(depth);
            }
            law.land(jumps);
            return isRight;
        }

        private boolean readAtom(int depth) {
            int thing = tape.thing();
            if ((thing == Tape.NOT || thing == '(') && depth >= DEEPEST) {
                return tape.fails();
            }
            if (tape.takes(Tape.NOT)) {
                boolean isRight = readAtom(depth + 1);
                law.add(Law.NOT, 0);
                return isRight;
            }
            if (tape.takes('(')) {
                return readAny(depth + 1) && (tape.takes(')') || tape.fails());
            }
            if (tape.takes(Tape.LAST)) {
                law.add(Law.FACT, Law.LAST);
                return true;
            }
            if (tape.takes(Tape.COLDER)) {
                law.add(Law.FACT, Law.IS_COLD);
                return true;
            }
            boolean isRight = readSum() && readOrder() && readSum();
            law.add(Law.COMPARE, 0);
            return isRight;
        }

        private boolean readOrder() {
            boolean isLess = tape.takes('<');
            law.add(isLess ? Law.LESS : Law.MORE, 0);
            return isLess || tape.takes('>') || tape.fails();
        }

        private boolean readSum() {
            boolean isMore = true;
            for (int i = 0; i < MOST_BYTES && isMore; i++) {
                int word = tape.thing();
                int part = partOf(word);
                if (part != NONE && tape.takes(word)) {
                    law.add(Law.PART, part);
                } else {
                    law.add(Law.NUMBER, tape.takesNumber(0, MOST_NUMBER));
                }
                isMore = tape.wrong == NONE && tape.takes('+');
            }
            return tape.wrong == NONE;
        }

        private static int partOf(int word) {
            switch (word) {
                case Tape.LODGER: return Law.LODGER;
                case Tape.BURNT: return Law.BURNT;
                case Tape.COIN: return Law.COINS_LEFT;
                case Tape.FEEDING: return Law.COINS_FED;
                case Tape.CHILLED: return Law.CHILLED;
                case Tape.DARK: return Law.DARK;
                case Tape.TICK: return Law.TICK;
                default: return NONE;
            }
        }
    }

    /**
     * THE LAW, as steps that keep one flag and one sum; jumps go forward alone.
     * A step is its kind and, 16 times, its number.
     */
    private static final class Law {
        private static final int TURN = 0;
        private static final int SPARE = 1;
        private static final int REFUSE = 2;

        private static final int NUMBER = 0;
        private static final int PART = 1;
        private static final int LESS = 2;
        private static final int MORE = 3;
        private static final int COMPARE = 4;
        private static final int FACT = 5;
        private static final int NOT = 6;
        private static final int IF_SO = 7;
        private static final int IF_NOT = 8;

        private static final int LODGER = 0;
        private static final int BURNT = 1;
        private static final int COINS_LEFT = 2;
        private static final int COINS_FED = 3;
        private static final int CHILLED = 4;
        private static final int DARK = 5;
        private static final int TICK = 6;
        private static final int LAST = 7;
        private static final int IS_COLD = 8;
        private static final int VALUES = 9;

        // No text makes more steps than it has bytes: the nearest, 1<1or1<1or.., makes as many.
        private static final int MOST_STEPS = 512;

        private final int[] kinds;
        private final int[] weights;
        private final int[] begins;
        private final int[] ends;
        private final int[] steps;
        private int size;
        private int lines;

        private Law() {
            kinds = new int[MOST_LAW_LINES];
            weights = new int[MOST_LAW_LINES];
            begins = new int[MOST_LAW_LINES];
            ends = new int[MOST_LAW_LINES];
            steps = new int[MOST_STEPS];
            size = 0;
            lines = NONE;
        }

        private void clear() {
            size = 0;
            lines = 0;
        }

        private void takeOver(Law other) {
            System.arraycopy(other.kinds, 0, kinds, 0, MOST_LAW_LINES);
            System.arraycopy(other.weights, 0, weights, 0, MOST_LAW_LINES);
            System.arraycopy(other.begins, 0, begins, 0, MOST_LAW_LINES);
            System.arraycopy(other.ends, 0, ends, 0, MOST_LAW_LINES);
            System.arraycopy(other.steps, 0, steps, 0, MOST_STEPS);
            size = other.size;
            lines = other.lines;
        }

        private void addLine(int kind, int weight, int begin) {
            if (lines >= 0 && lines < MOST_LAW_LINES) {
                kinds[lines] = kind;
                weights[lines] = weight;
                begins[lines] = begin;
                ends[lines] = size;
                lines++;
            }
        }

        private void add(int kind, int number) {
            if (size >= 0 && size < MOST_STEPS) {
                steps[size] = kind + 16 * number;
                size++;
            }
        }

        // Until it lands, a jump holds the one before it that lands with it.
        private int addJump(int kind, int before) {
            add(kind, before + 1);
            return size - 1;
        }

        private void land(int jumps) {
            int jump = jumps;
            for (int i = 0; i < MOST_STEPS && jump >= 0 && jump < MOST_STEPS; i++) {
                int before = (steps[jump] >> 4) - 1;
                steps[jump] = (steps[jump] & 15) + 16 * size;
                jump = before;
            }
        }

        private int turnOf(int[] values) {
            int turn = 0;
            for (int i = 0; i < lines && i < MOST_LAW_LINES; i++) {
                if (kinds[i] != REFUSE && holds(i, values)) {
                    turn += kinds[i] == TURN ? weights[i] : -weights[i];
                }
            }
            return turn;
        }

        private boolean isRefused(int[] values) {
            for (int i = 0; i < lines && i < MOST_LAW_LINES; i++) {
                if (kinds[i] == REFUSE && holds(i, values)) {
                    return true;
                }
            }
            return false;
        }

        private boolean holds(int line, int[] values) {
            boolean flag = true;
            boolean isLess = true;
            int left = 0;
            int sum = 0;
            if (line < 0 || line >= MOST_LAW_LINES) {
                return false;
            }
            for (int at = begins[line]; at >= 0 && at < ends[line] && at < MOST_STEPS; at++) {
                int number = steps[at] >> 4;
                int value = number >= 0 && number < VALUES && number < values.length ? values[number] : 0;
                switch (steps[at] & 15) {
                    case NUMBER:
                        sum += number;
                        break;
                    case PART:
                        sum += value;
                        break;
                    case LESS:
                    case MORE:
                        left = sum;
                        isLess = (steps[at] & 15) == LESS;
                        sum = 0;
                        break;
                    case COMPARE:
                        flag = isLess ? left < sum : left > sum;
                        sum = 0;
                        break;
                    case FACT:
                        flag = value != 0;
                        break;
                    case NOT:
                        flag = !flag;
                        break;
                    case IF_SO:
                        at = flag && number > at ? number - 1 : at;
                        break;
                    case IF_NOT:
                        at = !flag && number > at ? number - 1 : at;
                        break;
                    default:
                        break;
                }
            }
            return flag;
        }
    }

    /** All that may be undone or gone back to, but for THE LAW. */
    private static final class House {
        private final int[] facts;
        private final int[] debts;
        private final Log log;
        private int lodgers;
        private int texts;
        private int tick;
        private int night;
        private int gas;
        private int price;
        private int dark;
        private int frost;
        private int box;
        private int last;
        private int seed;

        private House(int logRows) {
            facts = new int[MOST_LODGERS * FACTS];
            debts = new int[MOST_LODGERS * MOST_LODGERS];
            log = new Log(logRows);
            lodgers = 0;
            texts = 0;
            tick = 0;
            night = 0;
            gas = 0;
            price = 20;
            dark = 0;
            frost = 0;
            box = 0;
            last = NONE;
            seed = 1;
        }

        private void takeOver(House other) {
            System.arraycopy(other.facts, 0, facts, 0, MOST_LODGERS * FACTS);
            System.arraycopy(other.debts, 0, debts, 0, MOST_LODGERS * MOST_LODGERS);
            log.takeOver(other.log);
            lodgers = other.lodgers;
            texts = other.texts;
            tick = other.tick;
            night = other.night;
            gas = other.gas;
            price = other.price;
            dark = other.dark;
            frost = other.frost;
            box = other.box;
            last = other.last;
            seed = other.seed;
        }

        private int get(int lodger, int what) {
            boolean is = lodger >= 0 && lodger < MOST_LODGERS && what >= 0 && what < FACTS;
            return is ? facts[lodger * FACTS + what] : 0;
        }

        private void set(int lodger, int what, int value) {
            if (lodger >= 0 && lodger < MOST_LODGERS && what >= 0 && what < FACTS) {
                facts[lodger * FACTS + what] = value;
            }
        }

        private int sum(int what) {
            int all = 0;
            for (int i = 0; i < lodgers; i++) {
                all += get(i, what);
            }
            return all;
        }

        private boolean isIn(int lodger, int when) {
            int from = get(lodger, FROM);
            int to = get(lodger, TO);
            return from <= to ? from <= when && when <= to : from <= when || when <= to;
        }

        private int hours(int lodger) {
            return Math.floorMod(get(lodger, TO) - get(lodger, FROM), TICKS) + 1;
        }

        private int metered(int lodger) {
            return get(lodger, BURNS) * hours(lodger);
        }

        // BURNS of a set of LODGERS together.
        private int burnt(int set) {
            int all = 0;
            for (int i = 0; i < lodgers; i++) {
                all += (set >> i & 1) != 0 ? get(i, BURNS) : 0;
            }
            return all;
        }

        private boolean isLike(int lodger, int other) {
            return get(lodger, BURNS) == get(other, BURNS) && get(lodger, BEARS) == get(other, BEARS)
                    && get(lodger, WAITS) == get(other, WAITS);
        }

        private void swapRooms(int lodger, int other) {
            int burns = get(lodger, BURNS);
            int bears = get(lodger, BEARS);
            set(lodger, BURNS, get(other, BURNS));
            set(lodger, BEARS, get(other, BEARS));
            set(other, BURNS, burns);
            set(other, BEARS, bears);
        }

        private int owed(int lodger, int other) {
            return isDebt(lodger, other) ? debts[lodger * MOST_LODGERS + other] : 0;
        }

        private void setOwed(int lodger, int other, int value) {
            if (isDebt(lodger, other)) {
                debts[lodger * MOST_LODGERS + other] = value;
            }
        }

        private static boolean isDebt(int lodger, int other) {
            return lodger >= 0 && lodger < MOST_LODGERS && other >= 0 && other < MOST_LODGERS;
        }

        // What one OWES all together less what all OWE it.
        private int owesMore(int lodger) {
            int more = 0;
            for (int i = 0; i < lodgers; i++) {
                more += owed(lodger, i) - owed(i, lodger);
            }
            return more;
        }

        private int creditors(int lodger) {
            int bits = 0;
            for (int i = 0; i < lodgers; i++) {
                bits |= owed(lodger, i) > 0 ? 1 << i : 0;
            }
            return bits;
        }

        private void moveCoins(int lodger, int other, int coins) {
            set(lodger, COINS, get(lodger, COINS) - coins);
            set(other, COINS, get(other, COINS) + coins);
        }

        private void addGas(int more) {
            gas = Math.min(MOST_GAS, gas + more);
        }

        private void takeCoin(int lodger) {
            set(lodger, COINS, get(lodger, COINS) - 1);
            set(lodger, FED, Math.min(MOST_COINS, get(lodger, FED) + 1));
            box = Math.min(MOST_BOX, box + 1);
            addGas(price);
            last = lodger;
            log.add(this, WAS_FED, lodger);
        }

        private int draw() {
            seed = 1103515245 * seed + 12345;
            return seed >>> 16 & 32767;
        }

        // Nobody has CHILL unless it was dark.
        private void light(int needed) {
            gas -= needed;
            for (int i = 0; i < lodgers && dark > 0; i++) {
                set(i, CHILL, 0);
            }
            dark = 0;
        }

        private void darken() {
            dark = Math.min(MOST_DARK, dark + 1);
            if (dark == 1) {
                log.add(this, WENT_OUT, NONE);
            }
        }

        private void chill(int present) {
            for (int i = 0; i < lodgers; i++) {
                boolean isIn = (present >> i & 1) != 0;
                int chill = isIn ? Math.min(MOST_CHILL, get(i, CHILL) + 1) : 0;
                int bears = get(i, BEARS);
                set(i, CHILL, chill);
                if (isIn && chill > bears) {
                    set(i, COLD, Math.min(MOST_COLD, get(i, COLD) + 1));
                }
                if (isIn && chill == bears + 1) {
                    log.add(this, WAS_COLD, i);
                }
            }
        }

        private void turnClock() {
            tick++;
            if (tick >= TICKS) {
                tick = 0;
                night = Math.min(MOST_NIGHT, night + 1);
            }
        }
    }

    /** THE LOG, in a circle; one that keeps no rows is for a house that only goes ahead. */
    private static final class Log {
        private final int keeps;
        private final int[] cells;
        private int rows;
        private int next;

        private Log(int keeps) {
            this.keeps = Math.max(0, Math.min(MOST_LOG_ROWS, keeps));
            cells = new int[this.keeps * LOG_CELLS];
            rows = 0;
            next = 0;
        }

        private void takeOver(Log other) {
            if (keeps == 0 || keeps != other.keeps) {
                return;
            }
            System.arraycopy(other.cells, 0, cells, 0, cells.length);
            rows = other.rows;
            next = other.next;
        }

        private void add(House house, int kind, int lodger) {
            int at = next * LOG_CELLS;
            if (at < 0 || at + LOG_CELLS > cells.length) {
                return;
            }
            cells[at] = house.night;
            cells[at + 1] = house.tick;
            cells[at + 2] = kind;
            cells[at + 3] = lodger;
            cells[at + 4] = house.gas;
            next = next + 1 < keeps ? next + 1 : 0;
            rows = Math.min(keeps, rows + 1);
        }

        private int cell(int ago, int what) {
            if (ago < 0 || ago >= rows || what < 0 || what >= LOG_CELLS) {
                return WITHOUT;
            }
            int row = next - 1 - ago;
            int at = (row < 0 ? row + keeps : row) * LOG_CELLS + what;
            return at >= 0 && at < cells.length ? cells[at] : WITHOUT;
        }
    }

    /** How a TICK goes by, with who is at HOME and what they need of each TICK learnt once for many. */
    private static final class Night {
        private final int[] present;
        private final int[] needed;
        private final int[] values;

        private Night() {
            present = new int[TICKS];
            needed = new int[TICKS];
            values = new int[Law.VALUES];
        }

        private void learn(House house) {
            for (int tick = 0; tick < TICKS; tick++) {
                present[tick] = 0;
                for (int i = 0; i < house.lodgers; i++) {
                    present[tick] |= house.isIn(i, tick) ? 1 << i : 0;
                }
                needed[tick] = house.burnt(present[tick]);
            }
        }

        private int presentAt(int tick) {
            return tick >= 0 && tick < TICKS ? present[tick] : 0;
        }

        private int needsAt(int tick) {
            return tick >= 0 && tick < TICKS ? needed[tick] : 0;
        }

        // LIT, or who fed in the dark (NONE).
        private int pass(House house, Law law, boolean isFrosty) {
            int needs = needsAt(house.tick);
            if (isFrosty && house.draw() % 100 < house.frost) {
                needs *= 2;
            }
            int answer = LIT;
            if (house.gas >= needs) {
                house.light(needs);
            } else {
                int inside = presentAt(house.tick);
                house.darken();
                house.chill(inside);
                answer = whoGoes(house, law, inside);
                if (answer != NONE) {
                    house.takeCoin(answer);
                }
            }
            house.turnClock();
            return answer;
        }

        private int whoGoes(House house, Law law, int inside) {
            int who = NONE;
            int most = 0;
            for (int i = 0; i < house.lodgers; i++) {
                boolean isReady = (inside >> i & 1) != 0 && house.get(i, COINS) > 0
                        && house.get(i, WAITS) < house.dark;
                if (!isReady) {
                    continue;
                }
                tell(house, i);
                if (law.isRefused(values)) {
                    continue;
                }
                int turn = law.turnOf(values);
                if (who == NONE || turn > most) {
                    most = turn;
                    who = i;
                }
            }
            return who;
        }

        // What THE LAW may ask of a LODGER.
        private void tell(House house, int lodger) {
            values[Law.LODGER] = lodger;
            values[Law.BURNT] = house.get(lodger, BURNS);
            values[Law.COINS_LEFT] = house.get(lodger, COINS);
            values[Law.COINS_FED] = house.get(lodger, FED);
            values[Law.CHILLED] = house.get(lodger, CHILL);
            values[Law.DARK] = house.dark;
            values[Law.TICK] = house.tick;
            values[Law.LAST] = house.last == lodger ? 1 : 0;
            values[Law.IS_COLD] = house.get(lodger, CHILL) > house.get(lodger, BEARS) ? 1 : 0;
        }
    }

    /** PAIRS: ways are gone through in their order, so that the first of the best ones stays. */
    private static final class Pairing {
        private final int[] shared;
        private final int[] partner;
        private final int[] best;
        private int lodgers;
        private int most;

        private Pairing() {
            shared = new int[MOST_LODGERS * MOST_LODGERS];
            partner = new int[MOST_LODGERS];
            best = new int[MOST_LODGERS];
            lodgers = 0;
            most = NONE;
        }

        private void solve(Night night, int count) {
            lodgers = Math.max(0, Math.min(MOST_LODGERS, count));
            most = NONE;
            for (int i = 0; i < MOST_LODGERS; i++) {
                partner[i] = NONE;
                best[i] = NONE;
                for (int j = 0; j < MOST_LODGERS; j++) {
                    shared[i * MOST_LODGERS + j] = sharedTicks(night, 1 << i | 1 << j);
                }
            }
            choose(0, 0);
        }

        private static int sharedTicks(Night night, int both) {
            int ticks = 0;
            for (int tick = 0; tick < TICKS; tick++) {
                if ((night.presentAt(tick) & both) == both) {
                    ticks++;
                }
            }
            return ticks;
        }

        // A level for each LODGER: at most eight.
        private void choose(int lodger, int together) {
            if (lodger < 0 || lodger >= lodgers || lodger >= MOST_LODGERS) {
                keep(together);
                return;
            }
            choose(lodger + 1, together);
            if (partner[lodger] != NONE) {
                return;
            }
            for (int other = lodger + 1; other < lodgers && other < MOST_LODGERS; other++) {
                if (partner[other] == NONE) {
                    partner[lodger] = other;
                    partner[other] = lodger;
                    choose(lodger + 1, together + shared[lodger * MOST_LODGERS + other]);
                    partner[lodger] = NONE;
                    partner[other] = NONE;
                }
            }
        }

        private void keep(int together) {
            if (together > most) {
                most = together;
                System.arraycopy(partner, 0, best, 0, MOST_LODGERS);
            }
        }

        private int partnerOf(int lodger) {
            return lodger >= 0 && lodger < MOST_LODGERS ? best[lodger] : NONE;
        }
    }

    /** Houses as they were ahead of the latest ACTS, in a circle. */
    private static final class Acts {
        private final House[] before;
        private int size;
        private int next;

        private Acts() {
            before = new House[MOST_ACTS];
            for (int i = 0; i < MOST_ACTS; i++) {
                before[i] = new House(MOST_LOG_ROWS);
            }
            size = 0;
            next = 0;
        }

        private House slot(int at) {
            return at >= 0 && at < MOST_ACTS ? before[at] : null;
        }

        private void remember(House house) {
            House place = slot(next);
            if (place == null) {
                return;
            }
            place.takeOver(house);
            next = next + 1 < MOST_ACTS ? next + 1 : 0;
            size = Math.min(MOST_ACTS, size + 1);
        }

        private boolean takeBack(House house) {
            int at = next > 0 ? next - 1 : MOST_ACTS - 1;
            House place = slot(at);
            if (size < 1 || place == null) {
                return false;
            }
            house.takeOver(place);
            next = at;
            size--;
            return true;
        }

        private void forget() {
            size = 0;
        }
    }
}
