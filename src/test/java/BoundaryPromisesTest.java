import java.io.IOException;
import java.util.regex.Pattern;

/** Each promise in its own sentences, all of them, with runs at the boundaries that they name. */
public final class BoundaryPromisesTest {
    private static Boundaries all;

    private static final int LEAST = Integer.MIN_VALUE;
    private static final int GREATEST = Integer.MAX_VALUE;

    // 34 bytes.
    private static final String ONE = "lodger burns 1 home 0 to 0 coins 0";
    private static final String SEVEN = "lodger burns 9 home 0 to 47 coins 0" + ";lodger burns 9 home 0 to 47 coins 0".repeat(6);
    private static final String TWO = Rows.houses(ONE + ";" + ONE);
    // Two of whom much is known: five TICKS in the dark, and then three COINS; the first one's TURN is 7.
    private static final String KNOWN = Rows.houses("lodger burns 3 home 5 to 20 coins 9 bears 4 waits 3;lodger burns 1 home 0 to 47 coins 2 bears 0 waits 20;tick 6;night 12;frost 33")
        + "law \"turn 7 if lodger<1;refuse if coins>7\" = 2\n lodger 0 10 = 1\n lodger 1 10 = 0\n ticks 5 = 5\n put 0 = 20\n put 1 = 40\n put 0 = 60\n";
    private static final String TWELVE = Rows.houses("", "", "", "", "", "", "", "", "", "", "", "");

    public static void main(String[] args) throws IOException {
        all = new Boundaries();
        tape();
        texts();
        whatThereIs();
        ticks();
        coinsMove();
        habits();
        ahead();
        griefs();
        shares();
        clues();
        together();
        debts();
        counts();
        trialsAndLog();
        undone();
        all.close(Pattern.compile("Promise \\d+"));
    }

    private static void edge(int promise, String sentence, String... runs) {
        all.edge("Promise " + promise, sentence, runs);
    }

    private static String houses(String... texts) {
        return Rows.houses(texts);
    }

    private static String faults(String call, Object... textsAndBytes) {
        return Rows.faults(call, textsAndBytes);
    }

    private static String times(int n, String rows) {
        return Rows.times(n, rows);
    }

    private static String lodger(String rest) {
        return Rows.lodger(rest);
    }

    /** A call of one LODGER: of two there are 0 and 1, and no other. The numbers behind it are told, too. */
    private static String noSuchLodger(String call, String behind) {
        StringBuilder rows = new StringBuilder();
        for (int i : new int[] {-1, 2, 7, 32, LEAST, GREATEST}) {
            rows.append(call).append(" ").append(i).append(behind).append(" = IOOBE\n");
        }
        return rows.toString();
    }

    /** A call of two LODGERS: each of them may be none, also if both are one. */
    private static String noSuchTwo(String call) {
        return noSuchLodger(call, " 0") + noSuchLodger(call + " 1", "") + call + " 2 2 = IOOBE\n" + call + " -1 -1 = IOOBE\n"
            + call + " 0 0 = IAE\n" + call + " 1 1 = IAE\n";
    }

    /** A call of one number: those right outside its bounds and far off throw. */
    private static String noSuchNumber(String call, int least, int most, String behind) {
        StringBuilder rows = new StringBuilder();
        for (int i : new int[] {least - 1, most + 1, LEAST, GREATEST}) {
            rows.append(call).append(" ").append(i).append(behind).append(" = IAE\n");
        }
        return rows.toString();
    }

    // ---------------------------------------------------------------- promises 1 to 6

    private static void tape() {
        StringBuilder counts = new StringBuilder();
        int[] fresh = {0, 0, -1, 0, 0, 0, 20, 0, 0, 0, -1, 0, 0, 0, 0};
        for (int i = 0; i < fresh.length; i++) {
            counts.append("count ").append(i).append(" = ").append(fresh[i]).append("\n");
        }
        edge(1, "A house without LODGERS.", counts + "fault = -1\n end 0 = 1\n end 1 = 0\n lodger 0 0 = IOOBE\n inside = 0\n undo = 0\n back = 0\n seed 1 = 1\n");
        StringBuilder full = new StringBuilder();
        for (int n = 20; n <= 400; n += 20) {
            full.append("feed 0 0 0 0 0 = ").append(n).append("\n");
        }
        edge(2, "Twenty bytes come behind the TAPE, of each number the highest first: how many it has; NONE, and none come, if it would have more than 400.",
            full + "feed 1 2 3 4 5 = -1\n end 401 = 0\n end 400 = 1\n",
            // 381 are one too many, 380 are not
            full + "end 381 = 1\n feed 0 0 0 0 0 = -1\n end 382 = 0\n end 380 = 1\n feed 0 0 0 0 0 = 400\n",
            // "gas 7", and what was behind it does not come back: "gas 7" and then four blanks' worth of it
            "feed 1734439712 922746880 0 0 0 = 20\n end 5 = 1\n house = 1\n count 5 = 7\n end 1 = 0\n feed 1734439712 926429984 538976288 538976288 538976288 = 20\n house = 2\n",
            // bytes above 127 are bytes like others
            "feed -1 -1 -1 -1 -1 = 20\n house = IAE\n fault = 0\n feed 538976383 0 0 0 0 = 20\n law = IAE\n fault = 3\n");
        edge(3, "The TAPE has its first n bytes alone: true; false, and nothing happens, if it has fewer, or n is below 0.",
            "end 0 = 1\n end 1 = 0\n end -1 = 0\n end " + LEAST + " = 0\n end " + GREATEST + " = 0\n",
            "feed 0 0 0 0 0 = 20\n end 21 = 0\n end -1 = 0\n end 20 = 1\n end 19 = 1\n end 20 = 0\n end 0 = 1\n end 1 = 0\n feed 0 0 0 0 0 = 20\n",
            // "gas 123;", cut behind the first digit
            "feed 1734439712 825373499 0 0 0 = 20\n end 5 = 1\n house = 1\n count 5 = 1\n");
    }

    private static void texts() {
        edge(4, "Uses the TAPE up: a text of THE HOUSE: how many there are. IllegalArgumentException: it is wrong; UnsupportedOperationException: there are 12.",
            "house = 1\n house = 2\n feed 0 0 0 0 0 = 20\n house = IAE\n end 1 = 0\n house = 3\n count 1 = 3\n",
            TWELVE + "house = UOE\n house \"gas 1\" = UOE\n end 1 = 0\n house \"gas\" = IAE\n end 1 = 0\n count 1 = 12\n count 5 = 0\n",
            // a text that is refused does not count
            faults("house", "x", 0, "y", 0) + TWELVE + "house = UOE\n",
            // going back, there is room again
            "image = 0\n" + TWELVE + "house = UOE\n back = 1\n house = 1\n",
            // as long as the TAPE is
            "house \"" + " ".repeat(395) + "gas 9\" = 1\n count 5 = 9\n house \"gas 8" + " ".repeat(395) + "\" = 2\n count 5 = 8\n");
        edge(5, "Uses the TAPE up: THE LAW: how many LINES. IllegalArgumentException: the text is wrong.",
            "law = 0\n count 2 = 0\n law \"refuse\" = 1\n law \"x\" = IAE\n end 1 = 0\n count 2 = 1\n law = 0\n count 2 = 0\n",
            // no end of texts, and some nearly as long as the TAPE is: the last of many ATOMS and PARTS counts, too
            times(40, "law \"refuse\" = 1"),
            houses(ONE) + "law \"turn 1 if 1<0" + "or1<0".repeat(76) + "\" = 1\n lodger 0 9 = 0\n law \"turn 1 if 1<0" + "or1<0".repeat(75) + "or0<1\" = 1\n lodger 0 9 = 1\n"
            + "law \"turn 1 if 0" + "+1".repeat(191) + ">190\" = 1\n lodger 0 9 = 1\n law \"turn 1 if 0" + "+1".repeat(191) + ">191\" = 1\n lodger 0 9 = 0\n");
        edge(6, "The first wrong byte of the latest text that was read; NONE without one, and ahead of any.",
            "fault = -1\n house \"\" = 1\n fault = -1\n" + faults("house", "gas 1;x", 6, "x", 0) + "law \"\" = 0\n fault = -1\n" + faults("law", "refuse if", 9)
            + "house \"\" = 2\n fault = -1\n" + faults("law", " ".repeat(399) + "x", 399, " ".repeat(397) + "if", 397, " ".repeat(392) + "turn   1", -1)
            .replace("= IAE\nfault = -1", "= 1\nfault = -1"),
            // 400: the text's length
            faults("house", " ".repeat(396) + "gas ", 400) + "undo = 0\n back = 0\n image = 0\n back = 1\n end 0 = 1\n fault = 400\n");
    }

    // ---------------------------------------------------------------- promises 7 to 10

    private static void whatThereIs() {
        StringBuilder fresh = new StringBuilder();
        int[] due = {1, 0, 0, 3, 2, 0, 0, 0, 0, 0, 0, 0, 1, 0};
        for (int i = 0; i < due.length; i++) {
            fresh.append("lodger 1 ").append(i).append(" = ").append(due[i]).append("\n");
        }
        // By WAITS below 18 the first one would feed, by 18 and more it is COLD twice.
        int[] known = {3, 5, 20, 4, 3, 7, 5, 1, 2, 7, 0, 66, 48, 18};
        StringBuilder rows = new StringBuilder(KNOWN);
        for (int i = 0; i < known.length; i++) {
            rows.append("lodger 0 ").append(i).append(" = ").append(known[i]).append("\n");
        }
        edge(7, "Of a LODGER what 0 BURNS, 1, 2 the first and the last TICK of HOME, 3 BEARS, 4 WAITS, 5 COINS, 6 CHILL, 7 COLD, 8 FED, 9 TURN now, 10 1 if it REFUSES now,"
            + " 11 SHARE, 12 METERED, 13 BEST. NoSuchElementException: another what.",
            rows.toString(), KNOWN + "lodger 1 11 = 33\n lodger 1 9 = 0\n lodger 1 7 = 5\n lodger 1 12 = 48\n law \"refuse\" = 1\n lodger 0 10 = 1\n lodger 0 9 = 0\n",
            TWO + fresh + "lodger 1 14 = NSEE\n lodger 1 -1 = NSEE\n lodger 1 " + LEAST + " = NSEE\n lodger 1 " + GREATEST + " = NSEE\n" + noSuchLodger("lodger", " 0")
            + noSuchLodger("lodger", " 14"));
        edge(8, "What the first one OWES the other one. IllegalArgumentException: both are one.",
            TWO + noSuchTwo("owes") + "owes 0 1 = 0\n house \"owes 0 1 99\" = 2\n owes 0 1 = 99\n owes 1 0 = 0\n");
        edge(9, "Whether one is at HOME in a TICK.",
            TWO + noSuchLodger("isHome", " 0") + "isHome 0 -1 = IOOBE\n isHome 0 0 = 1\n isHome 0 1 = 0\n isHome 0 47 = 0\n isHome 0 48 = IOOBE\n isHome 0 " + GREATEST
            + " = IOOBE\n isHome 0 " + LEAST + " = IOOBE\n isHome 2 48 = IOOBE\n");
        edge(10, "NEEDS of a TICK.",
            TWO + "needs -1 = IOOBE\n needs 0 = 2\n needs 1 = 0\n needs 47 = 0\n needs 48 = IOOBE\n needs " + LEAST + " = IOOBE\n needs " + GREATEST + " = IOOBE\n",
            // frost does not count
            houses(lodger("coins 0;frost 100")) + "needs 0 = 1\n needs 47 = 1\n");
    }

    // ---------------------------------------------------------------- promises 11 to 19

    private static void ticks() {
        edge(11, "So many TICKS more (1 to 96): in how many of these it was dark. IllegalArgumentException: they are none.",
            noSuchNumber("ticks", 1, 96, "") + "count 14 = 0\n count 3 = 0\n ticks 1 = 0\n count 3 = 1\n ticks 96 = 0\n count 3 = 1\n count 4 = 2\n count 14 = 2\n",
            houses(lodger("coins 0")) + "ticks 1 = 1\n ticks 96 = 96\n house \"gas 95\" = 2\n ticks 96 = 1\n");
    }

    private static void coinsMove() {
        edge(12, "One feeds now: GAS then. IllegalStateException: it has no COIN.",
            TWO + noSuchLodger("put", "") + "put 0 = ISE\n put 1 = ISE\n count 14 = 0\n count 13 = 0\n count 10 = -1\n",
            houses("lodger burns 1 home 9 to 9 coins 1;price 99;gas 999") + "put 0 = 1098\n lodger 0 5 = 0\n put 0 = ISE\n count 5 = 1098\n");
        edge(13, "A COIN is lent: COINS of the first one then. IllegalArgumentException: both are one; IllegalStateException: it has none, the other one has 999, or OWES 99.",
            TWO + noSuchTwo("lend") + "lend 0 1 = ISE\n count 14 = 0\n owes 1 0 = 0\n",
            houses(lodger("coins 1;") + lodger("coins 1")) + "lend 0 0 = IAE\n lend 0 1 = 0\n lend 0 1 = ISE\n lodger 1 5 = 2\n owes 1 0 = 1\n owes 0 1 = 0\n",
            // what it OWES the first one counts, not what that one OWES it, nor what it OWES others
            houses(lodger("coins 9;") + lodger("coins 9;") + lodger("coins 9;owes 0 1 99;owes 1 2 99;owes 2 0 99")) + "lend 0 1 = 8\n owes 1 0 = 1\n lend 1 0 = ISE\n"
            + "lend 2 1 = ISE\n lend 0 2 = ISE\n lend 1 2 = 9\n owes 2 1 = 1\n count 14 = 2\n");
        edge(14, "The first one pays the other one back: how many COINS. IllegalArgumentException: both are one; IllegalStateException: there are none that could"
            + " (it OWES none, has none, or the other one has 999).",
            TWO + noSuchTwo("repay") + "repay 0 1 = ISE\n house \"owes 0 1 1\" = 2\n repay 0 1 = ISE\n owes 0 1 = 1\n count 14 = 0\n",
            houses(lodger("coins 1;") + lodger("coins 99")) + "repay 0 1 = ISE\n house \"owes 0 1 99\" = 2\n repay 0 1 = 1\n owes 0 1 = 98\n lodger 1 5 = 100\n repay 0 1 = ISE\n",
            houses(lodger("coins 99;") + lodger("coins 99;owes 0 1 99")) + "repay 0 1 = 99\n lodger 1 5 = 198\n lodger 0 5 = 0\n owes 0 1 = 0\n repay 1 0 = ISE\n");
    }

    private static void habits() {
        edge(15, "WAITS are told: what they were. IllegalArgumentException: they are none (0 to 20).",
            TWO + noSuchLodger("waits", " 5") + noSuchLodger("waits", " 21") + noSuchNumber("waits 1", 0, 20, "") + "count 14 = 0\n waits 1 0 = 2\n waits 1 20 = 0\n lodger 1 4 = 20\n"
            + "lodger 0 4 = 2\n waits 1 20 = 20\n count 14 = 3\n");
        edge(16, "PRICE is told: what it was. IllegalArgumentException: it is none.",
            noSuchNumber("price", 1, 99, "") + "count 6 = 20\n count 14 = 0\n price 1 = 20\n price 99 = 1\n price 99 = 99\n count 14 = 3\n");
        edge(17, "Two change rooms: BURNS of the first one then. IllegalArgumentException: both are one.",
            TWO + noSuchTwo("change") + "count 14 = 0\n change 0 1 = 1\n count 14 = 1\n",
            houses("lodger burns 1 home 0 to 1 coins 5 bears 0 waits 7;lodger burns 9 home 2 to 3 coins 8 bears 20 waits 1") + "change 0 1 = 9\n lodger 0 3 = 20\n lodger 1 0 = 1\n"
            + "lodger 1 3 = 0\n change 1 0 = 9\n change 1 0 = 1\n lodger 0 4 = 7\n lodger 0 5 = 5\n lodger 0 1 = 0\n");
        edge(18, "HOME is told: how many TICKS it has then.",
            TWO + noSuchLodger("home", " 0 0") + "home 0 -1 0 = IOOBE\n home 0 0 -1 = IOOBE\n home 0 48 0 = IOOBE\n home 0 0 48 = IOOBE\n home 0 " + LEAST + " 0 = IOOBE\n home 0 0 "
            + GREATEST + " = IOOBE\n lodger 0 1 = 0\n lodger 0 2 = 0\n count 14 = 0\n home 0 0 0 = 1\n home 0 47 47 = 1\n home 0 0 47 = 48\n home 0 1 0 = 48\n home 0 47 46 = 48\n"
            + "home 0 47 0 = 2\n home 0 1 47 = 47\n home 0 24 23 = 48\n lodger 0 1 = 24\n lodger 0 2 = 23\n lodger 1 1 = 0\n");
        edge(19, "The BOX is emptied: what was in it.",
            "empty = 0\n count 14 = 1\n" + houses(lodger("coins 2")) + "put 0 = 20\n put 0 = 40\n empty = 2\n count 9 = 0\n empty = 0\n undo = 1\n undo = 1\n count 9 = 2\n");
    }

    // ---------------------------------------------------------------- promises 20 to 27

    private static void ahead() {
        edge(20, "AT HOME, as bits.", "inside = 0\n" + houses(SEVEN) + "inside = 127\n home 0 1 47 = 47\n inside = 126\n home 0 47 0 = 2\n inside = 127\n");
        edge(21, "LASTS (1 to 96); NONE.",
            "lasts = -1\n" + houses(SEVEN) + "lasts = 1\n house \"gas 62\" = 2\n lasts = 1\n house \"gas 63\" = 3\n lasts = 2\n",
            // only the last TICK of 96 NEEDS anything
            houses("lodger burns 9 home 47 to 47 coins 0;gas 9") + "lasts = 96\n house \"gas 17\" = 2\n lasts = 96\n house \"gas 18\" = 3\n lasts = -1\n house \"tick 47\" = 4\n lasts = -1\n"
            + "house \"gas 8\" = 5\n lasts = 1\n");
        edge(22, "OUT (1 to 96); NONE.",
            "out = -1\n" + houses("lodger burns 9 home 47 to 47 coins 9 waits 0;gas 9") + "out = 96\n house \"gas 18\" = 2\n out = -1\n house \"gas 0;tick 47\" = 3\n out = 1\n");
        edge(23, "FEEDER; NONE.",
            "feeder = -1\n" + houses("lodger burns 9 home 47 to 47 coins 1 waits 0;gas 9") + "feeder = 0\n house \"gas 18\" = 2\n feeder = -1\n house \"gas 0\" = 3\n waits 0 1 = 0\n feeder = -1\n"
            + "count 14 = 1\n");
        edge(24, "SHIVER; NONE.",
            "shiver = -1\n" + houses("lodger burns 9 home 47 to 47 coins 0 bears 0;gas 9") + "shiver = 0\n house \"gas 18\" = 2\n shiver = -1\n",
            houses("lodger burns 9 home 47 to 47 coins 0 bears 1") + "shiver = -1\n home 0 46 47 = 2\n shiver = 0\n");
        edge(25, "AFTER: what 0 COINS, 1 COLD, 2 FED. IllegalArgumentException: N is none; NoSuchElementException: another what.",
            TWO + noSuchLodger("after", " 0 0") + noSuchLodger("after", " 97 3") + noSuchNumber("after 0", 0, 96, " 0") + noSuchNumber("after 0", 0, 96, " 3")
            + "after 0 0 3 = NSEE\n after 0 96 -1 = NSEE\n after 0 96 " + LEAST + " = NSEE\n after 0 96 " + GREATEST + " = NSEE\n after 0 0 0 = 0\n after 0 96 1 = 0\n after 1 96 2 = 0\n",
            houses(lodger("coins 1 bears 0 waits 0;price 94;frost 100")) + "after 0 95 1 = 1\n after 0 96 1 = 2\n after 0 96 0 = 0\n after 0 96 2 = 1\n");
        edge(26, "COINS. IllegalArgumentException: N is none.",
            noSuchNumber("coins", 0, 48, "") + "coins 0 = 0\n coins 48 = 0\n",
            houses(lodger("coins 0;price 48")) + "coins 0 = 0\n coins 1 = 1\n coins 48 = 1\n price 47 = 48\n coins 47 = 1\n coins 48 = 2\n house \"gas 48\" = 2\n coins 48 = 0\n",
            // round midnight
            houses("lodger burns 9 home 47 to 0 coins 0;tick 47;price 9") + "coins 1 = 1\n coins 2 = 2\n coins 48 = 2\n house \"tick 1\" = 2\n coins 46 = 0\n coins 47 = 1\n coins 48 = 2\n");
        edge(27, "EASE; NONE. IllegalArgumentException: N is none (0 to 48).",
            noSuchNumber("ease", 0, 48, "") + "ease 0 = 0\n ease 48 = 0\n",
            // 99 are enough, 100 would be
            houses("lodger burns 4 home 0 to 47 coins 0 bears 0;gas 1;price 1") + "ease 25 = 99\n house \"gas 0\" = 2\n ease 25 = -1\n ease 24 = 96\n",
            houses("lodger burns 9 home 0 to 47 coins 0 bears 0;price 1") + "ease 0 = 0\n ease 1 = 9\n ease 11 = 99\n ease 12 = -1\n ease 48 = -1\n price 99 = 1\n ease 48 = 5\n ease 11 = 1\n"
            + "ease 12 = 2\n count 5 = 0\n");
    }

    // ---------------------------------------------------------------- promises 28 to 30, 39

    private static void griefs() {
        edge(28, "GRIEF. IllegalArgumentException: W is none.",
            TWO + noSuchLodger("grief", " 0") + noSuchLodger("grief", " 21") + noSuchNumber("grief 0", 0, 20, "") + "grief 0 0 = 0\n grief 0 20 = 0\n lodger 0 4 = 2\n count 14 = 0\n",
            // as long as 48 TICKS: the 49th is dark
            houses(lodger("coins 9 bears 0 waits 0;gas 48")) + "grief 0 0 = 0\n house \"gas 47\" = 2\n grief 0 0 = 4\n grief 0 1 = 1\n");
        edge(29, "RESTLESS, as bits.",
            "restless = 0\n" + houses(SEVEN) + "restless = 0\n",
            // One who bears all that comes would feed for nothing if it WAITED 0: GRIEF of 3, of 0 else.
            houses("lodger burns 1 home 0 to 0 coins 9 bears 20 waits 0") + "restless = 1\n waits 0 1 = 0\n restless = 0\n waits 0 20 = 1\n restless = 0\n");
        edge(30, "SAINT (victims false), or VICTIMS, as bits.",
            TWO + noSuchLodger("saint", " 0") + noSuchLodger("saint", " 1") + "saint 0 0 = 0\n saint 0 1 = 0\n",
            // six who bear nothing are warm if the seventh, the last, goes down at once
            houses((lodger("coins 0 bears 0") + ";").repeat(6) + lodger("coins 9 bears 20 waits 9"), "price 99") + "saint 6 0 = 63\n saint 6 1 = 0\n"
            + "saint 0 0 = 0\n waits 6 0 = 9\n saint 6 0 = 0\n");
        edge(39, "WARMER. IllegalArgumentException: both are one.", TWO + noSuchTwo("warmer") + "warmer 0 1 = 0\n count 14 = 0\n");
    }

    // ---------------------------------------------------------------- promises 31 to 35

    private static void shares() {
        edge(31, "FAIR. IllegalArgumentException: N is none.",
            TWO + noSuchLodger("fair", " 0") + noSuchLodger("fair", " 1000") + noSuchNumber("fair 1", 0, 999, "") + "fair 0 0 = 0\n fair 0 1 = 1\n fair 1 1 = 0\n fair 0 999 = 500\n fair 1 999 = 499\n",
            // 432 of 433: of 999 it is 996.69, the rest is for the first one
            houses("lodger burns 9 home 0 to 47 coins 0;" + ONE) + "fair 0 999 = 997\n fair 1 999 = 2\n fair 0 432 = 432\n fair 1 432 = 0\n fair 0 433 = 432\n fair 1 433 = 1\n");
        edge(32, "TOPS.", "tops 0 = 0\n tops -1 = 0\n" + TWO + "tops 0 = 0\n tops 1 = 1\n tops 2 = 1\n tops 3 = 2\n tops 4 = 0\n tops " + LEAST + " = 0\n tops " + GREATEST + " = 2\n");
        edge(33, "STAND.", TWO + noSuchLodger("stand", "") + "stand 0 = 50\n home 0 1 1 = 1\n stand 0 = 0\n stand 1 = 0\n", houses(SEVEN) + "stand 0 = 14\n stand 6 = 14\n");
        edge(34, "DEAR (mild false), or MILD.",
            "dear 0 = 1\n dear 1 = 1\n" + TWO + "dear 0 = 1\n dear 1 = 1\n count 6 = 20\n count 14 = 0\n",
            // a coin of 98 leaves one TICK more in the dark than one of 99; by each PRICE the only one is fed
            houses("lodger burns 9 home 0 to 11 coins 1 bears 0 waits 0") + "dear 1 = 99\n dear 0 = 1\n earns 99 = 1\n");
        edge(35, "EARNS. IllegalArgumentException: the PRICE is none.",
            noSuchNumber("earns", 1, 99, "") + "earns 1 = 0\n earns 99 = 0\n",
            houses(lodger("coins 99 bears 0 waits 0")) + "earns 1 = 24\n earns 99 = 1\n earns 20 = 3\n count 6 = 20\n count 9 = 0\n");
    }

    // ---------------------------------------------------------------- promises 36 to 38

    private static void clues() {
        String notThat = "CALL [0] = IAE\n end 1 = 0\n CALL [0 1 0] = IAE\n CALL [48 1] = IAE\n CALL [0 MORE] = IAE\n CALL [0 1 48 0] = IAE\n CALL [0 1 0 MORE] = IAE\n CALL [255 1] = IAE\n"
            + "CALL [0 255] = IAE\n CALL [128 0] = IAE\n CALL [" + "0 1 ".repeat(20) + "0] = IAE\n CALL [" + "0 1 ".repeat(21) + "] = IAE\n end 1 = 0\n CALL [" + "0 1 ".repeat(200) + "] = IAE\n fault = -1\n";
        edge(36, "Uses the TAPE up: CULPRIT (of each two bytes: the TICK, 1 or 0; at most 40 bytes): how many pairs (who false), or WHO, as bits. IllegalArgumentException: the TAPE is not that"
            + " (none may be told).",
            TWO + notThat.replace("CALL", "culprit 0").replace("MORE", "2") + notThat.replace("CALL", "culprit 1").replace("MORE", "2"),
            TWO + "culprit 0 [] = 2\n culprit 1 [] = 3\n culprit 0 [0 1] = 2\n culprit 1 [0 0] = 0\n culprit 0 [" + "0 1 ".repeat(20) + "] = 2\n end 1 = 0\n culprit 1 [" + "0 1 ".repeat(19)
            + "0 0] = 0\n culprit 0 [] = 2\n",
            houses(SEVEN) + "culprit 0 [] = 336\n culprit 1 [] = 127\n culprit 0 [47 1] = 336\n culprit 0 [47 0] = 0\n culprit 0 [0 1] = 7\n culprit 0 [46 0] = 7\n");
        edge(37, "Uses the TAPE up: ASK (the TAPE likewise); NONE. IllegalArgumentException: the TAPE is not that.",
            TWO + notThat.replace("CALL", "ask").replace("MORE", "2"),
            "ask [] = -1\n ask [47 1] = -1\n" + TWO + "ask [] = 0\n ask [0 0] = -1\n end 1 = 0\n home 0 47 47 = 1\n ask [] = 0\n ask [0 1] = -1\n ask [47 1] = 0\n ask [" + "46 0 ".repeat(20) + "] = -1\n",
            houses(SEVEN) + "ask [] = 23\n ask [0 0] = 23\n ask [1 0] = 24\n ask [45 0] = 46\n ask [46 0] = 0\n");
        edge(38, "Uses the TAPE up: DRAWN (of each two bytes: the TICK, how much; at most 40 bytes) what 0 how many sets, 1 SURE, as bits, 2 FEWEST, as bits (NONE). IllegalArgumentException: the TAPE is"
            + " not that (none may be told); NoSuchElementException: another what.",
            TWO + notThat.replace("CALL", "drawn 0").replace("MORE", "64") + notThat.replace("CALL", "drawn 3").replace("MORE", "64"),
            TWO + "drawn 3 [] = NSEE\n drawn -1 [0 1] = NSEE\n end 1 = 0\n drawn " + LEAST + " [] = NSEE\n drawn " + GREATEST + " [] = NSEE\n drawn 0 [] = 4\n drawn 1 [] = 0\n drawn 2 [] = 0\n"
            + "drawn 0 [" + "0 1 ".repeat(20) + "] = 2\n drawn 2 [" + "0 1 ".repeat(19) + "0 2] = -1\n drawn 0 [0 63] = 0\n drawn 2 [0 63] = -1\n drawn 1 [0 63] = 0\n drawn 1 [0 2] = 3\n");
    }

    // ---------------------------------------------------------------- promises 40 to 45

    private static void together() {
        edge(40, "PAIRS: how much (lodger NONE), or with whom one is; NONE.",
            "pairs -1 = 0\n pairs 0 = IOOBE\n pairs -2 = IOOBE\n" + TWO + "pairs -1 = 1\n pairs 0 = 1\n pairs 1 = 0\n pairs 2 = IOOBE\n pairs -2 = IOOBE\n pairs " + LEAST + " = IOOBE\n pairs "
            + GREATEST + " = IOOBE\n home 1 1 1 = 1\n pairs -1 = 0\n pairs 0 = -1\n pairs 1 = -1\n");
        edge(41, "KEEPERS, as bits.",
            "keepers = 0\n" + houses(SEVEN) + "keepers = 1\n home 0 0 46 = 47\n keepers = 2\n",
            // each has a TICK of its own
            houses(ONE + ";" + ONE + ";" + ONE + ";" + ONE + ";" + ONE + ";" + ONE + ";" + ONE) + "home 1 1 1 = 1\n home 2 2 2 = 1\n home 3 3 3 = 1\n home 4 4 4 = 1\n home 5 5 5 = 1\n home 6 47 47 = 1\n"
            + "keepers = 127\n home 6 0 0 = 1\n keepers = 63\n");
        String seven = houses(SEVEN.replace("coins 0", "coins 1")) + "put 0 = 20\n put 1 = 40\n put 2 = 60\n put 3 = 80\n put 4 = 100\n put 5 = 120\n put 6 = 140\n";
        // one coin each: four carry it
        edge(42, "KETTLE.", "kettle 0 = 0\n kettle -1 = 0\n" + seven + "kettle 0 = 0\n kettle 7 = 0\n kettle 15 = 1\n kettle 120 = 1\n kettle 112 = 0\n kettle 127 = 1\n kettle -128 = 0\n kettle 128 = 0\n"
            + "kettle -1 = 1\n kettle " + LEAST + " = 0\n kettle " + GREATEST + " = 1\n");
        edge(43, "SWINGS.", TWO + noSuchLodger("swings", "") + "swings 0 = 0\n", seven + "swings 0 = 20\n swings 6 = 20\n");
        edge(44, "MINIMAL.", "minimal = 0\n" + TWO + "minimal = 0\n", seven + "minimal = 35\n");
        edge(45, "DUMMIES, as bits.", "dummies = 0\n" + houses(SEVEN) + "dummies = 127\n", seven + "dummies = 0\n");
    }

    // ---------------------------------------------------------------- promises 46 to 50

    private static void debts() {
        edge(46, "NET. IllegalArgumentException: both are one.",
            TWO + noSuchTwo("net") + "net 0 1 = 0\n house \"owes 0 1 99;owes 1 0 98\" = 2\n net 0 1 = 1\n net 1 0 = 0\n");
        edge(47, "DEBT.", "debt = 0\n" + houses(SEVEN, "owes 0 1 99;owes 0 2 99;owes 0 3 99;owes 0 4 99;owes 0 5 99;owes 0 6 99") + "debt = 594\n house \"owes 6 0 99\" = 3\n debt = 495\n");
        edge(48, "RING.", TWO + noSuchLodger("ring", "") + "ring 0 = 0\n house \"owes 0 1 1\" = 2\n ring 0 = 0\n ring 1 = 0\n house \"owes 1 0 1\" = 3\n ring 0 = 1\n ring 1 = 1\n");
        edge(49, "POOREST; NONE.", "poorest = -1\n" + houses(SEVEN) + "poorest = 0\n house \"owes 6 0 1\" = 2\n poorest = 6\n house \"owes 6 0 0\" = 3\n poorest = 0\n",
            houses(ONE) + "poorest = 0\n");
        edge(50, "RESTS, as bits. IllegalArgumentException: both are one.",
            TWO + noSuchTwo("rests") + "rests 0 1 = 6\n price 99 = 20\n rests 0 1 = 6\n price 1 = 99\n rests 0 1 = 8\n",
            // CHILL of 99
            houses(lodger("coins 0;") + lodger("coins 0;price 1")) + "ticks 96 = 96\n ticks 9 = 9\n rests 0 1 = 6\n");
    }

    // ---------------------------------------------------------------- promises 51 to 55, 64

    private static void counts() {
        edge(51, "ODDS. IllegalArgumentException: N or K are none.",
            noSuchNumber("odds", 0, 6, " 0") + noSuchNumber("odds 0", 0, 6, "") + "odds 0 0 = 10000\n odds 6 6 = 0\n odds 6 0 = 10000\n odds 7 7 = IAE\n odds -1 -1 = IAE\n",
            houses("frost 100") + "odds 6 6 = 10000\n odds 0 0 = 10000\n odds 0 1 = 0\n odds 5 6 = 0\n");
        edge(52, "BUSY.", "busy = 0\n" + houses("lodger burns 1 home 47 to 47 coins 0;lodger burns 9 home 46 to 47 coins 0") + "busy = 47\n home 0 9 9 = 1\n busy = 46\n", houses(SEVEN) + "busy = 0\n");
        edge(53, "EMPTY.", "alone = 48\n" + TWO + "alone = 47\n home 1 47 47 = 1\n alone = 46\n home 1 1 47 = 47\n alone = 0\n");
        edge(54, "MISER; NONE.", "miser = -1\n" + TWO + "miser = -1\n", houses(lodger("coins 1 waits 0;") + lodger("coins 1 waits 0")) + "miser = 0\n waits 1 20 = 0\n miser = 1\n waits 0 20 = 0\n miser = 0\n");
        edge(55, "ALIKE.", "alike = 0\n" + houses(ONE) + "alike = 0\n house \"" + ONE + "\" = 2\n alike = 1\n waits 0 20 = 2\n alike = 0\n", houses(SEVEN) + "alike = 21\n");
        int[] known = {2, 1, 2, 11, 12, 60, 20, 5, 33, 3, 0, 6, 8, 6, 4};
        StringBuilder rows = new StringBuilder(KNOWN);
        for (int i = 0; i < known.length; i++) {
            rows.append("count ").append(i).append(" = ").append(known[i]).append("\n");
        }
        edge(64, "0 LODGERS, 1 texts of THE HOUSE, 2 LINES of THE LAW (NONE without one), 3 TICK, 4 NIGHT, 5 GAS, 6 PRICE, 7 DARK, 8 FROST, 9 BOX, 10 who fed the last (NONE),"
            + " 11 COLD of all together, 12 COINS of all together, 13 rows of THE LOG,",
            rows.toString(),
            "count 2 = -1\n count 10 = -1\n law \"\" = 0\n count 2 = 0\n" + houses(lodger("coins 1;") + lodger("coins 1")) + "put 0 = 20\n count 10 = 0\n put 1 = 40\n count 10 = 1\n undo = 1\n"
            + "count 10 = 0\n undo = 1\n count 10 = -1\n",
            "image = 0\n law \"refuse\" = 1\n count 2 = 1\n back = 1\n count 2 = -1\n");
        edge(64, "14 acts that can be UNDONE. NONE for another what.",
            "count 14 = 0\n count 15 = -1\n count -1 = -1\n count " + LEAST + " = -1\n count " + GREATEST + " = -1\n" + times(13, "empty = 0") + "count 14 = 12\n undo = 1\n count 14 = 11\n");
    }

    // ---------------------------------------------------------------- promises 56 to 60

    private static void trialsAndLog() {
        edge(56, "TRIAL: COINS (cold false), or COLD. IllegalArgumentException: N is none.",
            noSuchNumber("trial", 0, 96, " 0") + noSuchNumber("trial", 0, 96, " 1") + "trial 0 0 = 0\n trial 96 1 = 0\n count 14 = 0\n count 4 = 0\n",
            houses(lodger("coins 99 bears 0 waits 0;price 1")) + "trial 1 0 = 1\n trial 96 0 = 48\n trial 96 1 = 48\n count 13 = 0\n");
        edge(57, "SPAN: the least (most false), or the greatest. IllegalArgumentException: N is none.",
            noSuchNumber("span", 0, 96, " 0") + noSuchNumber("span", 0, 96, " 1") + "span 0 0 = 0\n span 96 1 = 0\n",
            houses(lodger("coins 99 bears 0 waits 0;price 1")) + "span 96 0 = 48\n span 96 1 = 48\n seed 1 = 1\n");
        edge(58, "LED: how many rows (tick false), or the TICK; NONE.",
            TWO + noSuchLodger("led", " 0") + noSuchLodger("led", " 1") + "led 0 0 = 0\n led 0 1 = -1\n",
            // the latest row, be it of a COIN or of the cold
            houses(lodger("coins 1 bears 1 waits 0;") + lodger("coins 0 bears 1;price 1;tick 47")) + "ticks 2 = 2\n led 0 0 = 2\n led 0 1 = 0\n led 1 0 = 1\n led 1 1 = 0\n");
        edge(59, "THE LOG so many ago (0 the latest) what 0 NIGHT, 1 TICK, 2 0 to 2, 3 the LODGER (NONE), 4 GAS; - 2 without. NoSuchElementException: another what.",
            "log 0 0 = -2\n log 0 4 = -2\n log 0 5 = NSEE\n log 0 -1 = NSEE\n log -1 0 = -2\n log -1 5 = NSEE\n log 60 5 = NSEE\n log 0 " + LEAST + " = NSEE\n log 0 " + GREATEST + " = NSEE\n log "
            + LEAST + " 0 = -2\n log " + GREATEST + " 0 = -2\n",
            houses(lodger("coins 1 bears 9 waits 0")) + "ticks 1 = 1\n log 0 3 = 0\n log 1 3 = -1\n log 2 3 = -2\n log 1 0 = 0\n log -1 3 = -2\n log 59 0 = -2\n");
        edge(60, "SEED: what it was.",
            "seed " + GREATEST + " = 1\n seed " + LEAST + " = " + GREATEST + "\n seed 0 = " + LEAST + "\n seed -1 = 0\n seed -1 = -1\n count 14 = 0\n undo = 0\n");
    }

    // ---------------------------------------------------------------- promises 61 to 63

    private static void undone() {
        edge(61, "UNDONE: whether there was one.",
            "undo = 0\n undo = 0\n empty = 0\n undo = 1\n undo = 0\n",
            times(12, "ticks 96 = 0") + "ticks 1 = 0\n" + times(12, "undo = 1") + "undo = 0\n count 4 = 2\n count 3 = 0\n",
            // round the twelve more than once
            times(40, "price 7 = N\n price 9 = 7").replaceFirst("N", "20").replace("N", "9") + times(12, "undo = 1") + "count 6 = 9\n undo = 0\n");
        edge(62, "THE IMAGE is kept.",
            "image = 0\n image = 0\n count 14 = 0\n back = 1\n",
            "price 5 = 20\n image = 0\n count 14 = 1\n undo = 1\n count 6 = 20\n back = 1\n count 6 = 5\n price 6 = 5\n image = 0\n back = 1\n count 6 = 6\n");
        edge(63, "One goes back to THE IMAGE: true; false, and nothing happens, if none was kept.",
            "back = 0\n price 5 = 20\n back = 0\n count 6 = 5\n count 14 = 1\n image = 0\n price 6 = 5\n back = 1\n count 6 = 5\n count 14 = 0\n back = 1\n count 6 = 5\n");
    }
}
