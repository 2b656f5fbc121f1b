import java.io.IOException;
import java.util.regex.Pattern;

/** The sentences under "Terms", in their order, each with runs of its own, at its boundaries first of all. */
public final class BoundaryTermsTest {
    private static Boundaries all;

    // 34 bytes.
    private static final String ONE = "lodger burns 1 home 0 to 0 coins 0";
    private static final String SEVEN = "lodger burns 9 home 0 to 47 coins 0" + ";lodger burns 9 home 0 to 47 coins 0".repeat(6);
    // Seven who burn 63, with all COINS that texts can tell; six of them owe the first one all that they have.
    private static final String RICH = Rows.houses(
        "lodger burns 9 home 0 to 47 coins 99 waits 0" + ";lodger burns 9 home 0 to 47 coins 99 waits 0".repeat(6),
        "owes 1 0 99;owes 2 0 99;owes 3 0 99;owes 4 0 99;owes 5 0 99;owes 6 0 99;price 1")
        + "repay 1 0 = 99\n repay 2 0 = 99\n repay 3 0 = 99\n repay 4 0 = 99\n repay 5 0 = 99\n repay 6 0 = 99\n";
    private static final String TWELVE = Rows.houses("", "", "", "", "", "", "", "", "", "", "", "");
    // 63 are fed, then a TICK is lit: 693 by 704 TICKS.
    private static final String ALL_FED = "ticks 96 = 95\n ticks 96 = 94\n ticks 96 = 95\n ticks 96 = 94\n ticks 96 = 95\n"
        + "ticks 96 = 94\n ticks 96 = 95\n ticks 32 = 31\n";

    public static void main(String[] args) throws IOException {
        all = new Boundaries();
        lodgers();
        meter();
        houseLines();
        lawLines();
        signs();
        wrongBytes();
        ticks();
        feeding();
        draws();
        acts();
        log();
        ahead();
        griefs();
        shares();
        prices();
        culprits();
        drawn();
        pairsAndKeepers();
        kettle();
        debts();
        stairs();
        counts();
        trials();
        undone();
        exceptions();
        all.close(Pattern.compile("Terms"));
    }

    private static void edge(String sentence, String... runs) {
        all.edge("Terms", sentence, runs);
    }

    private static String houses(String... texts) {
        return Rows.houses(texts);
    }

    private static String faults(String call, Object... textsAndBytes) {
        return Rows.faults(call, textsAndBytes);
    }

    private static String times(int n, String rows) {
        return Rows.times(n, rows);
    }

    private static String lodger(String rest) {
        return Rows.lodger(rest);
    }

    /** One feeds by hand so often. */
    private static String puts(int times, int gas, int price) {
        StringBuilder rows = new StringBuilder();
        for (int i = 1; i <= times; i++) {
            rows.append("put 0 = ").append(gas + i * price).append("\n");
        }
        return rows.toString();
    }

    // ---------------------------------------------------------------- LODGERS and the METER

    private static void lodgers() {
        // As late a NIGHT as 512 calls can bring.
        edge("TICKS 0 to 47 of a night, TICK 0 at first, NIGHT 0 to 9999 (0 at first).",
            "count 3 = 0\n count 4 = 0\n needs 0 = 0\n needs 47 = 0\n needs 48 = IOOBE\n needs -1 = IOOBE\n",
            houses("tick 47") + "count 3 = 47\n ticks 1 = 0\n count 3 = 0\n count 4 = 1\n" + faults("house", "tick 48", 5),
            houses("tick 47", "tick 0") + "count 3 = 0\n",
            houses("night 999") + times(506, "ticks 96 = 0") + "count 4 = 2011\n count 3 = 0\n");
        edge("LODGERS (at most 7, numbered from 0 on)",
            "count 0 = 0\n lodger 0 0 = IOOBE\n" + houses(SEVEN) + "count 0 = 7\n lodger 0 0 = 9\n lodger 6 0 = 9\n lodger 7 0 = IOOBE\n"
            + "lodger -1 0 = IOOBE\n" + faults("house", ONE, 0) + "count 0 = 7\n");
        edge("BURNS 1 to 9",
            houses(ONE + ";lodger burns 9 home 1 to 1 coins 0") + "needs 0 = 1\n needs 1 = 9\n"
            + faults("house", "lodger burns 0 home 0 to 0 coins 0", 13, "lodger burns 10 home 0 to 0 coins 0", 13) + "count 0 = 2\n");
        edge("HOME: from a TICK to a TICK (both too; round midnight, if the second one is below the first)",
            houses("lodger burns 1 home 5 to 7 coins 0;lodger burns 1 home 47 to 0 coins 0;lodger burns 1 home 9 to 9 coins 0;"
            + "lodger burns 1 home 9 to 8 coins 0;lodger burns 1 home 0 to 47 coins 0") + """
            isHome 0 4 = 0
            isHome 0 5 = 1
            isHome 0 7 = 1
            isHome 0 8 = 0
            isHome 1 46 = 0
            isHome 1 47 = 1
            isHome 1 0 = 1
            isHome 1 1 = 0
            isHome 2 8 = 0
            isHome 2 9 = 1
            isHome 2 10 = 0
            isHome 3 8 = 1
            isHome 3 9 = 1
            isHome 3 47 = 1
            isHome 3 0 = 1
            isHome 4 0 = 1
            isHome 4 47 = 1
            """ + faults("house", "lodger burns 1 home 48 to 0 coins 0", 20, "lodger burns 1 home 0 to 48 coins 0", 25));
        edge("BEARS 0 to 20 (3 at first)",
            houses(lodger("coins 0;") + lodger("coins 0 bears 0;") + lodger("coins 0 bears 20")) + """
            lodger 0 3 = 3
            lodger 1 3 = 0
            lodger 2 3 = 20
            ticks 3 = 3
            lodger 0 7 = 0
            lodger 1 7 = 3
            ticks 1 = 1
            lodger 0 7 = 1
            ticks 16 = 16
            lodger 2 7 = 0
            ticks 1 = 1
            lodger 2 7 = 1
            lodger 1 7 = 21
            lodger 0 7 = 18
            """ + faults("house", lodger("coins 0 bears 21"), 42));
        edge("WAITS 0 to 20 (2 at first)",
            houses(lodger("coins 1")) + "lodger 0 4 = 2\n ticks 2 = 2\n lodger 0 8 = 0\n ticks 1 = 1\n lodger 0 8 = 1\n",
            houses(lodger("coins 1 waits 0")) + "lodger 0 4 = 0\n ticks 1 = 1\n lodger 0 8 = 1\n",
            houses(lodger("coins 1 waits 20")) + "lodger 0 4 = 20\n ticks 20 = 20\n lodger 0 8 = 0\n ticks 1 = 1\n lodger 0 8 = 1\n",
            faults("house", lodger("coins 0 waits 21"), 42));
        edge("COINS 0 to 999",
            houses(lodger("coins 0")) + "lodger 0 5 = 0\n put 0 = ISE\n lodger 0 5 = 0\n",
            RICH + "lodger 0 5 = 693\n lodger 6 5 = 0\n count 12 = 693\n repay 6 0 = ISE\n put 6 = ISE\n");
        edge("CHILL: TICKS in the dark at HOME, one behind another, 0 to 99 (0 at first)",
            houses(lodger("coins 0")) + "lodger 0 6 = 0\n ticks 96 = 96\n lodger 0 6 = 96\n ticks 3 = 3\n lodger 0 6 = 99\n"
            + "ticks 1 = 1\n lodger 0 6 = 99\n ticks 96 = 96\n lodger 0 6 = 99\n",
            houses("lodger burns 1 home 46 to 1 coins 0;" + lodger("coins 0")) + "ticks 2 = 2\n lodger 0 6 = 2\n ticks 1 = 1\n"
            + "lodger 0 6 = 0\n ticks 44 = 44\n lodger 0 6 = 1\n ticks 3 = 3\n lodger 0 6 = 4\n ticks 1 = 1\n lodger 0 6 = 0\n");
        edge("COLD: how often CHILL was above BEARS, 0 to 999 (0 at first)",
            houses(lodger("coins 0 bears 20")) + "lodger 0 7 = 0\n ticks 20 = 20\n lodger 0 7 = 0\n ticks 1 = 1\n lodger 0 7 = 1\n"
            + times(10, "ticks 96 = 96") + "lodger 0 7 = 961\n ticks 37 = 37\n lodger 0 7 = 998\n ticks 1 = 1\n lodger 0 7 = 999\n"
            + "ticks 1 = 1\n lodger 0 7 = 999\n count 11 = 999\n");
        edge("FED: how many COINS it fed, 0 to 999 (0 at first)",
            RICH + "lodger 0 8 = 0\n" + ALL_FED + "lodger 0 8 = 693\n lodger 0 5 = 0\n lodger 0 11 = 100\n count 5 = 0\n"
            + "ticks 1 = 1\n lodger 0 8 = 693\n");
        edge("OWED: of each other one 0 to 99 (0 at first).",
            houses(lodger("coins 5;") + lodger("coins 5;") + lodger("coins 5")) + """
            owes 0 1 = 0
            owes 1 0 = 0
            owes 1 2 = 0
            house "owes 1 0 98" = 2
            lend 0 1 = 4
            owes 1 0 = 99
            lend 0 1 = ISE
            owes 1 0 = 99
            lend 2 1 = 4
            owes 1 2 = 1
            repay 1 0 = 7
            owes 1 0 = 92
            """ + faults("house", "owes 1 0 100", 9));
    }

    private static void meter() {
        edge("METER: GAS 0 to 9999 (0 at first)",
            "count 5 = 0\n" + houses(lodger("coins 99;price 99;gas 999")) + puts(90, 999, 99)
            + "put 0 = 9999\n put 0 = 9999\n ticks 1 = 0\n count 5 = 9998\n lodger 0 5 = 7\n count 9 = 92\n");
        edge("PRICE 1 to 99 (20 at first): how much GAS a COIN buys",
            "count 6 = 20\n" + houses(ONE.replace("coins 0", "coins 9")) + "put 0 = 20\n price 0 = IAE\n price 1 = 20\n put 0 = 21\n"
            + "price 100 = IAE\n price 99 = 1\n put 0 = 120\n count 6 = 99\n" + faults("house", "price 0", 6, "price 100", 6));
        edge("DARK: for how many TICKS it is, 0 to 99 (0 at first).",
            "count 7 = 0\n" + houses(lodger("coins 0")) + "ticks 96 = 96\n count 7 = 96\n ticks 3 = 3\n count 7 = 99\n ticks 1 = 1\n"
            + "count 7 = 99\n house \"gas 1\" = 2\n count 7 = 99\n ticks 1 = 0\n count 7 = 0\n ticks 1 = 1\n count 7 = 1\n");
        edge("FROST 0 to 100 (0 at first).",
            "count 8 = 0\n" + houses(lodger("coins 0;gas 20")) + "ticks 10 = 0\n count 5 = 10\n house \"frost 100\" = 2\n count 8 = 100\n"
            + "ticks 5 = 0\n count 5 = 0\n house \"frost 0;gas 9\" = 3\n ticks 9 = 0\n" + faults("house", "frost 101", 6) + "count 8 = 0\n");
        edge("BOX: COINS in the METER 0 to 9999 (0 at first).",
            "count 9 = 0\n empty = 0\n" + RICH + ALL_FED + "count 9 = 693\n empty = 693\n count 9 = 0\n empty = 0\n");
    }

    // ---------------------------------------------------------------- texts

    private static void houseLines() {
        StringBuilder twelve = new StringBuilder();
        for (int i = 1; i <= 12; i++) {
            twelve.append("house \"gas ").append(i).append("\" = ").append(i).append("\n");
        }
        edge("THE HOUSE is told in texts (at most 12, one behind another)",
            twelve + "count 1 = 12\n house \"gas 13\" = UOE\n house \"\" = UOE\n count 1 = 12\n count 5 = 12\n");
        edge("LINE { ; LINE }, at most 14:",
            houses("gas 1;".repeat(13) + "gas 2", "gas 3") + "count 5 = 3\n",
            faults("house", "gas 1;".repeat(14) + "gas 2", 84, "gas 1;".repeat(14), 84, "gas 1;".repeat(14) + " x", 85,
                "gas 1;".repeat(14) + "  ", 86, "gas 1;".repeat(14) + ";", 84) + "count 1 = 0\n");
        edge("lodger burns N home N to N coins N [ bears N ] [ waits N ] | owes H H N | gas N | price N | frost N | tick N | night N.",
            houses(ONE + ";" + ONE + " bears 1;" + ONE + " waits 1;" + ONE + " bears 4 waits 5") + "lodger 0 3 = 3\n lodger 0 4 = 2\n"
            + "lodger 1 3 = 1\n lodger 1 4 = 2\n lodger 2 3 = 3\n lodger 2 4 = 1\n lodger 3 3 = 4\n lodger 3 4 = 5\n",
            faults("house", ONE + " waits 1 bears 1", 43, ONE + " bears 1 bears 1", 43, ONE + " waits 1 waits 1", 43, ONE + " bears", 40,
                ONE + " gas 1", 35, "lodger home 0 to 0", 7, "gas 1 price 1", 6, "gas 1;price", 11, "owes", 4),
            houses(ONE + ";" + ONE) + faults("house", "owes 0", 6, "owes 0;gas 1", 6, "owes 0 1", 8, "owes 0 1;gas 1", 8) + "count 1 = 1\n");
        edge("(H: a LODGER that there is by then;",
            faults("house", "owes 0 1 5", 5, ONE + ";owes 0 1 5", 42, ONE + ";owes 0 1 5;" + ONE, 42, ONE + ";owes 1 0 5;" + ONE, 40)
            + houses(ONE + ";" + ONE + ";owes 0 1 5", "owes 1 0 6") + "owes 0 1 = 5\n owes 1 0 = 6\n",
            houses(SEVEN, "owes 6 0 1;owes 0 6 2") + "owes 6 0 = 1\n owes 0 6 = 2\n" + faults("house", "owes 7 0 1", 5, "owes 0 7 1", 7));
        edge("owes: the first one owes the second one, another one, else it is wrong at it, N 0 to 99; gas: 0 to 999; night: 0 to 999;"
            + " coins: 0 to 99.)",
            houses(ONE + ";" + ONE, "owes 0 1 99", "owes 1 0 1;owes 1 0 0") + "owes 0 1 = 99\n owes 1 0 = 0\n"
            + faults("house", "owes 0 1 100", 9, "owes 0 0 1", 7, "owes 1 1 1", 7, "owes 1 01 1", 7, "owes 1 1", 7) + "owes 0 1 = 99\n",
            houses("gas 999;night 999", "lodger burns 1 home 0 to 0 coins 99;" + ONE) + "count 5 = 999\n count 4 = 999\n lodger 0 5 = 99\n"
            + "lodger 1 5 = 0\n house \"gas 0;night 0\" = 3\n count 5 = 0\n count 4 = 0\n"
            + faults("house", "gas 1000", 4, "night 1000", 6, "lodger burns 1 home 0 to 0 coins 100", 33));
        edge("Numbers are of 1 to 3 digits.",
            houses("gas 7", "gas 08", "gas 009") + "count 5 = 9\n" + faults("house", "gas 0009", 4, "gas", 3, "price 0001", 6)
            + "count 5 = 9\n");
    }

    private static void lawLines() {
        edge("THE LAW (a text, in place of the one before): LINE { ; LINE }, at most 12:",
            "count 2 = -1\n" + houses(ONE) + "law \"" + "turn 1;".repeat(11) + "turn 2\" = 12\n lodger 0 9 = 13\n"
            + faults("law", "turn 1;".repeat(12) + "turn 2", 84, "turn 1;".repeat(12), 84, "turn 1;".repeat(12) + " ", 85)
            + "count 2 = 12\n lodger 0 9 = 13\n law \"turn 3\" = 1\n lodger 0 9 = 3\n count 2 = 1\n law \"\" = 0\n lodger 0 9 = 0\n"
            + "count 2 = 0\n");
        edge("turn N [ if C ] | spare N [ if C ] | refuse [ if C ].",
            houses(ONE) + "law \"turn 9;spare 4;refuse\" = 3\n lodger 0 9 = 5\n lodger 0 10 = 1\n"
            + "law \"turn 9 if 1<0;spare 4 if 1<0;refuse if 1<0\" = 3\n lodger 0 9 = 0\n lodger 0 10 = 0\n"
            + faults("law", "turn", 4, "spare", 5, "refuse 1", 7, "turn if 1<2", 5, "turn 1 if", 9, "turn 1 1", 7));
        edge("ALL: ATOM { and ATOM }; ATOM: not ATOM | ( C ) | last | cold | SUM < SUM | SUM > SUM. SUM: PART { + PART };"
            + " PART: NUMBER | lodger | burns | coins | fed | chill | dark | tick.",
            houses(ONE) + "law \"turn 1 if 1<1;turn 2 if 1>1;turn 4 if 1<2;turn 8 if 2>1;turn 16 if lodger+fed+chill+dark+tick<1\" = 5\n"
            + "lodger 0 9 = 28\n law \"turn 1 if burns+coins>0;turn 2 if burns+coins>1;turn 4 if 0<burns and 0<coins or not(last or cold)\" = 3\n"
            + "lodger 0 9 = 5\n",
            // of the second one: lodger 1, burns 9, coins 3, fed 2, chill 4, dark 6, tick 10
            houses("lodger burns 4 home 4 to 5 coins 0;lodger burns 9 home 6 to 47 coins 5 bears 9 waits 20;price 1;tick 4") + "put 1 = 1\n put 1 = 2\n ticks 6 = 6\n"
            + "law \"turn 1 if lodger>0 and lodger<2;turn 2 if burns>8 and burns<10;turn 4 if coins>2 and coins<4;turn 8 if fed>1 and fed<3;"
            + "turn 16 if chill>3 and chill<5;turn 32 if dark>5 and dark<7;spare 60 if tick>9 and tick<11\" = 7\n lodger 1 9 = 3\n lodger 0 9 = -28\n",
            faults("law", "refuse if 1", 11, "refuse if 1<", 12, "refuse if 1<2<3", 13, "refuse if 1+<2", 12, "refuse if last<1", 14,
                "refuse if (1)<2", 12, "refuse if ()", 11, "refuse if (last", 15, "refuse if last)", 14, "refuse if and", 10,
                "refuse if last and", 18, "refuse if last or", 17, "refuse if not", 13, "refuse if bears<1", 10));
        edge("C: ALL { or ALL };", ofFour("or"), ofFour("and"));
        edge("All numbers are of 1 to 3 digits (N 0 to 60).",
            houses(ONE) + "law \"turn 60;turn 0\" = 2\n lodger 0 9 = 60\n law \"spare 060\" = 1\n lodger 0 9 = -60\n"
            + "law \"turn 1 if 999>998;turn 2 if 000<001;turn 4 if 999+999>1\" = 3\n lodger 0 9 = 7\n"
            + faults("law", "turn 61", 5, "spare 61", 6, "turn 0060", 5, "turn 1 if 1000>1", 10, "turn 1 if 1>0001", 12, "turn 1 if 1+0001>1", 12));
        edge("Of a LODGER: last: it fed the last (of all; nobody at first); cold: CHILL is above BEARS.",
            houses("lodger burns 1 home 0 to 47 coins 1 bears 2 waits 9;lodger burns 1 home 9 to 9 coins 1")
            + "law \"turn 1 if last;turn 2 if cold\" = 2\n lodger 0 9 = 0\n lodger 1 9 = 0\n put 1 = 20\n lodger 1 9 = 1\n lodger 0 9 = 0\n"
            + "put 0 = 40\n lodger 1 9 = 0\n lodger 0 9 = 1\n",
            houses("lodger burns 1 home 0 to 47 coins 0 bears 2") + "law \"turn 2 if cold\" = 1\n ticks 2 = 2\n lodger 0 9 = 0\n ticks 1 = 1\n"
            + "lodger 0 9 = 2\n");
        edge("TURN of one: the sum of N of all turn LINES that hold, less that of all spare LINES (below 0, too).",
            houses(ONE) + "lodger 0 9 = 0\n law \"" + "turn 60;".repeat(11) + "turn 60\" = 12\n lodger 0 9 = 720\n"
            + "law \"" + "spare 60;".repeat(11) + "spare 60\" = 12\n lodger 0 9 = -720\n law \"turn 5;spare 6;spare 7 if 2<1\" = 3\n lodger 0 9 = -1\n");
        edge("REFUSES: whether some refuse LINE holds.",
            houses(ONE) + "lodger 0 10 = 0\n law \"refuse if 1<0;refuse if 2<0\" = 2\n lodger 0 10 = 0\n law \"refuse if 1<0;refuse\" = 2\n"
            + "lodger 0 10 = 1\n law \"refuse;refuse if 1<0\" = 2\n lodger 0 10 = 1\n law \"turn 1\" = 1\n lodger 0 10 = 0\n",
            houses(ONE + ";" + ONE) + "law \"turn 1;refuse if lodger<1\" = 2\n lodger 0 10 = 1\n lodger 1 10 = 0\n lodger 0 10 = 1\n law \"turn 1\" = 1\n lodger 0 10 = 0\n");
    }

    /** Four ATOMS, each of which may hold or not: whether all together hold. */
    private static String ofFour(String word) {
        StringBuilder rows = new StringBuilder(houses(ONE));
        for (int bits = 0; bits < 16; bits++) {
            StringBuilder text = new StringBuilder("turn 1 if");
            for (int i = 0; i < 4; i++) {
                text.append(i == 0 ? " " : word).append((bits >> i & 1) != 0 ? " 1<2 " : " 2<1 ");
            }
            boolean holds = word.equals("or") ? bits != 0 : bits == 15;
            rows.append("law \"").append(text).append("\" = 1\nlodger 0 9 = ").append(holds ? 1 : 0).append("\n");
        }
        return rows.toString();
    }

    private static void signs() {
        edge("Words are as long as a to z go on; between all there may be blanks (32), also ahead and behind.",
            houses("gas5", "   gas   6   ", "lodger burns1home2to3coins4bears5waits6;gas7;price8") + "count 5 = 7\n count 6 = 8\n lodger 0 4 = 6\n"
            + faults("house", "gasp 5", 0, "gasz 5", 0, "gasa 5", 0, "zgas 5", 0, "agas 5", 0, "ga s 5", 0, "Gas 5", 0, "gAs 5", 0, "gas{5", 3, "gas`5", 3, "gas 5/", 5, "gas 5:", 5, "gas\t5", 3,
                "gas\n5", 3, "gas\0005", 3, "gas\u00a05", 3, "\u00e7 5", 0, "gas 5\u00ff", 5, "lodgerburns 1", 0, "gas 5 0", 6),
            "law \"  turn1if1<2or3<4and(not last)  \" = 1\n" + faults("law", "turn 1 iflast", 7, "turn 1 if lastor cold", 10, "turn 1 if last orcold", 15,
                "turn 1 if 1 <\t2", 13));
        edge("A text that is empty, or blanks alone, has no LINE.",
            houses("", "   ", " ".repeat(400)) + "count 0 = 0\n fault = -1\n",
            "law \"\" = 0\n count 2 = 0\n law \" \" = 0\n law \"turn 1\" = 1\n law \"" + " ".repeat(400) + "\" = 0\n count 2 = 0\n fault = -1\n");
        edge("( and not within one another at most 6 deep.",
            houses(ONE) + "law \"turn 1 if not not not not not not last\" = 1\n lodger 0 9 = 0\n law \"turn 1 if((((((1<2))))))\" = 1\n lodger 0 9 = 1\n"
            + "law \"turn 1 if not(not(not(1<2)))\" = 1\n lodger 0 9 = 0\n law \"turn 1 if(not(not(not last)))and(not(not(not last)))\" = 1\n"
            + "lodger 0 9 = 1\n",
            faults("law", "turn 1 if not not not not not not not last", 34, "turn 1 if(((((((1<2)))))))", 15,
                "turn 1 if not(not(not(not last)))", 22, "turn 1 if ((((((last and not last))))))", 25, "turn 1 if ((((((last or(last)))))))", 23));
    }

    private static void wrongBytes() {
        edge("The first wrong byte: the begin of the first thing that cannot stand there (a number of more digits, or out of its bounds,"
            + " or that tells none that can be; a word that is none; the ( or not that is a 7th one deep; of a LINE, a LODGER too many,"
            + " the first word), or the text's length, if more must come.",
            // a number of more digits, or out of its bounds, or that tells none
            faults("house", "gas  1000", 5, "tick 0001", 5, "tick 99", 5, "price 0", 6, "owes 0", 5, "owes 9999", 5),
            // a word that is none, or that cannot stand there
            faults("house", "  gasses 1", 2, "gas gas", 4, "turn 1", 0, "gas if", 4) + faults("law", "refuse unless last", 7, "refuse if warm", 10, "gas 1", 0),
            // a 7th one deep
            faults("law", "refuse if ((((((not last))))))", 16, "refuse if ((((((( last", 16),
            // a LINE too many: its first word, even if it is none; and a LODGER too many, before all that is wrong in it
            faults("house", "tick 1 ;".repeat(14) + "  tick 99", 114, "tick 1;".repeat(14) + "lodgers", 98)
            + faults("law", "refuse;".repeat(12) + "  refuse", 86, "refuse;".repeat(12) + "  9", 86),
            houses(SEVEN) + faults("house", "gas 1; lodger burns 0", 7, "lodger", 0, "gas 1;lodger burns 1 home 0 to 0 coins 0;gas 1000", 6),
            // more must come
            faults("house", "gas", 3, "gas   ", 6, "gas 1;", 6, "gas 1;   ", 9, "lodger", 6, "lodger burns 1 home 0 to 0 coins", 32,
                " ".repeat(397) + "gas", 400, ";".repeat(400), 0, "gas" + "0".repeat(397), 3, "gas 1" + " ".repeat(394) + ";", 400)
            + faults("law", "refuse if", 9, "refuse if (last  ", 17, "turn ", 5, "refuse;", 7,
                "refuse if 1" + "+1".repeat(194), 399, "refuse if 1" + "+1".repeat(194) + "<", 400),
            // the first of several
            faults("house", "gas 1000;price 0", 4, "gas 1;price 0;x", 12) + faults("law", "turn 61 if 1000", 5, "turn 1 if 1000<9999", 10));
        edge("Of a wrong text nothing stays.",
            faults("house", "lodger burns 1 home 0 to 1 coins 1;gas 7;tick 3;night 4;price 5;frost 6;owes 0 0 1", 79)
            + "count 0 = 0\n count 1 = 0\n count 3 = 0\n count 4 = 0\n count 5 = 0\n count 6 = 20\n count 8 = 0\n",
            houses(ONE + ";" + ONE) + faults("house", "owes 0 1 9;owes 1 0 9;x", 22) + "owes 0 1 = 0\n owes 1 0 = 0\n"
            + faults("house", ONE + " bears 9 waits 9;owes 2 0 9;x", 62) + "count 0 = 2\n house \"" + ONE + "\" = 2\n lodger 2 3 = 3\n"
            + "lodger 2 4 = 2\n owes 2 0 = 0\n",
            houses(ONE) + "law \"turn 7;refuse\" = 2\n" + faults("law", "spare 9;spare 9;spare 9;x", 24) + "count 2 = 2\n lodger 0 9 = 7\n lodger 0 10 = 1\n",
            faults("law", "turn 1;x", 7) + "count 2 = -1\n");
    }

    // ---------------------------------------------------------------- TICKS

    private static void ticks() {
        edge("NEEDS of a TICK: BURNS of all who are at HOME in it, together.",
            "needs 0 = 0\n" + houses(SEVEN) + "needs 0 = 63\n needs 47 = 63\n home 0 9 9 = 1\n needs 8 = 54\n needs 9 = 63\n");
        // The first DRAW is 16838. Seed by seed: see draws().
        edge("A TICK more: (a) with FROST: if DRAW modulo 100 is below FROST, NEEDS are twice as many (the DRAW always);",
            houses(lodger("coins 0;gas 9;frost 38")) + "ticks 1 = 0\n count 5 = 8\n",
            houses(lodger("coins 0;gas 9;frost 39")) + "ticks 1 = 0\n count 5 = 7\n",
            houses(lodger("coins 0;gas 2;frost 100")) + "ticks 1 = 0\n count 5 = 0\n",
            houses(lodger("coins 0;gas 1;frost 100")) + "ticks 1 = 1\n count 5 = 1\n",
            "ticks 1 = 0\n seed 1 = 1103527590\n" + houses(lodger("coins 0")) + "ticks 1 = 1\n seed 1 = 1103527590\n",
            houses("frost 100") + "ticks 96 = 0\n count 5 = 0\n");
        edge("(b) if GAS is at least what it NEEDS (0, too): it is LIT: GAS is so much less, CHILL of all is 0, DARK is 0;",
            houses("lodger burns 5 home 0 to 0 coins 0;gas 5") + "ticks 1 = 0\n count 5 = 0\n count 7 = 0\n",
            houses("lodger burns 5 home 0 to 0 coins 0;gas 4") + "ticks 1 = 1\n count 5 = 4\n count 7 = 1\n lodger 0 6 = 1\n ticks 1 = 0\n"
            + "count 5 = 4\n count 7 = 0\n lodger 0 6 = 0\n",
            houses("lodger burns 5 home 1 to 1 coins 0") + "ticks 1 = 0\n count 7 = 0\n ticks 1 = 1\n count 7 = 1\n");
        edge("else GAS stays, DARK is 1 more, CHILL of each who is at HOME is 1 more, of others 0; each at HOME whose CHILL is above BEARS"
            + " then: COLD is 1 more;",
            houses(lodger("coins 0 bears 1;") + "lodger burns 1 home 1 to 1 coins 0 bears 0;gas 0") + """
            ticks 1 = 1
            lodger 0 6 = 1
            lodger 0 7 = 0
            lodger 1 6 = 0
            ticks 1 = 1
            lodger 0 6 = 2
            lodger 0 7 = 1
            lodger 1 6 = 1
            lodger 1 7 = 1
            ticks 1 = 1
            lodger 0 7 = 2
            lodger 1 6 = 0
            lodger 1 7 = 1
            count 7 = 3
            """);
        edge("TICK is 1 more; behind 47 it is 0, and NIGHT is 1 more (9999 at most).",
            "ticks 47 = 0\n count 3 = 47\n count 4 = 0\n ticks 1 = 0\n count 3 = 0\n count 4 = 1\n ticks 48 = 0\n count 3 = 0\n count 4 = 2\n"
            + "ticks 96 = 0\n count 4 = 4\n",
            houses("tick 47;night 999") + "ticks 1 = 0\n count 3 = 0\n count 4 = 1000\n ticks 96 = 0\n count 4 = 1002\n");
        edge("AHEAD by N TICKS (0 to 96): as so many TICKS without frost (no DRAWS).",
            houses(lodger("coins 1 bears 0 waits 0;gas 95;frost 100")) + "after 0 0 1 = 0\n after 0 95 1 = 0\n after 0 96 1 = 1\n after 0 97 1 = IAE\n"
            + "after 0 -1 1 = IAE\n lasts = 96\n seed 1 = 1\n",
            // all that goes AHEAD goes without frost
            houses(lodger("coins 9 bears 0 waits 0;gas 96;frost 100")) + "lasts = -1\n out = -1\n feeder = -1\n shiver = -1\n house \"gas 48\" = 2\n coins 48 = 0\n ease 48 = 0\n"
            + "grief 0 0 = 0\n lodger 0 13 = 0\n restless = 0\n dear 0 = 1\n dear 1 = 1\n earns 1 = 0\n trial 48 0 = 3\n",
            houses("lodger burns 9 home 0 to 19 coins 0 bears 9;lodger burns 1 home 20 to 31 coins 0 bears 0;gas 20;frost 100") + "warmer 0 1 = 1\n");
    }

    private static void feeding() {
        String two = lodger("coins 5 waits 0;") + lodger("coins 5 waits 0");
        edge("(c) in the dark: of those at HOME who have a COIN, whose WAITS are below DARK, and who do not REFUSE, the one of the greatest"
            + " TURN (of several the least) feeds: COINS 1 less, FED 1 more, BOX 1 more,",
            // not at HOME, without a COIN, WAITS not below DARK
            houses("lodger burns 1 home 1 to 1 coins 5 waits 0;" + lodger("coins 0 waits 0;") + lodger("coins 5 waits 1;")
                + lodger("coins 1 waits 2")) + "ticks 1 = 1\n count 9 = 0\n ticks 1 = 1\n count 10 = 0\n lodger 0 5 = 4\n lodger 0 8 = 1\n count 9 = 1\n",
            houses(lodger("coins 5 waits 1")) + "ticks 1 = 1\n count 9 = 0\n ticks 1 = 1\n count 9 = 1\n",
            houses(lodger("coins 1 waits 0;price 1")) + "ticks 1 = 1\n lodger 0 5 = 0\n ticks 1 = 0\n ticks 3 = 3\n count 9 = 1\n lodger 0 5 = 0\n",
            // of several the least; the greatest of some below 0; who REFUSES, though it has the greatest
            houses(two) + "ticks 1 = 1\n count 10 = 0\n",
            houses(two) + "law \"spare 5 if lodger<1;spare 3 if lodger>0\" = 2\n ticks 1 = 1\n count 10 = 1\n",
            houses(two) + "law \"turn 9 if lodger>0;refuse if lodger>0\" = 2\n ticks 1 = 1\n count 10 = 0\n",
            houses(two) + "law \"refuse\" = 1\n ticks 9 = 9\n count 10 = -1\n",
            // lit: nobody feeds
            houses(two, "gas 2") + "ticks 1 = 0\n count 9 = 0\n count 5 = 0\n");
        edge("GAS PRICE more (9999 at most), that one is the last.",
            houses(lodger("coins 2 waits 0;price 99")) + "count 10 = -1\n ticks 1 = 1\n count 5 = 99\n count 10 = 0\n",
            houses(lodger("coins 99;price 99;gas 999")) + puts(90, 999, 99) + "put 0 = 9999\n");
    }

    private static void draws() {
        // By -1 it is 15929 (48697 with bit 31, too), by -2147483648 it is 0 (32768 with that bit).
        edge("DRAW: SEED is 1103515245 times SEED and 12345, as an int that goes round; bits 16 to 30 (SEED 1 at first).",
            "seed 0 = 1\n ticks 1 = 0\n seed 2147483647 = 12345\n ticks 1 = 0\n seed -2147483648 = 1043980748\n ticks 1 = 0\n"
            + "seed -1 = -2147471303\n ticks 1 = 0\n seed 1 = -1103502900\n",
            houses(lodger("coins 0;gas 99;frost 29")) + "seed -1 = 1\n ticks 1 = 0\n count 5 = 98\n",
            houses(lodger("coins 0;gas 99;frost 30")) + "seed -1 = 1\n ticks 1 = 0\n count 5 = 97\n",
            houses(lodger("coins 0;gas 99;frost 1")) + "seed -2147483648 = 1\n ticks 1 = 0\n count 5 = 97\n",
            houses(lodger("coins 0;gas 99;frost 0")) + "seed -2147483648 = 1\n ticks 1 = 0\n count 5 = 98\n");
    }

    private static void acts() {
        edge("ACTS: TICKS; one feeds now (at HOME or not);",
            "ticks 2 = 0\n count 3 = 2\n count 14 = 1\n ticks 96 = 0\n count 14 = 2\n",
            houses("lodger burns 1 home 5 to 6 coins 2") + "inside = 0\n put 0 = 20\n house \"tick 5\" = 2\n inside = 1\n put 0 = 40\n put 0 = ISE\n"
            + "lodger 0 8 = 2\n");
        edge("a COIN is lent to another one (COINS move, that one OWES 1 more, 99 at most);",
            houses(lodger("coins 2;") + lodger("coins 0"), "owes 1 0 98") + "lend 0 1 = 1\n owes 1 0 = 99\n lodger 1 5 = 1\n lend 0 1 = ISE\n"
            + "owes 1 0 = 99\n lodger 0 5 = 1\n lodger 1 5 = 1\n");
        edge("one pays back (all that it can of what it OWES another one);",
            houses(lodger("coins 3;") + lodger("coins 0;owes 0 1 3")) + "repay 0 1 = 3\n owes 0 1 = 0\n lodger 0 5 = 0\n lodger 1 5 = 3\n",
            houses(lodger("coins 3;") + lodger("coins 0;owes 0 1 2")) + "repay 0 1 = 2\n owes 0 1 = 0\n lodger 0 5 = 1\n repay 0 1 = ISE\n",
            houses(lodger("coins 3;") + lodger("coins 0;owes 0 1 4")) + "repay 0 1 = 3\n owes 0 1 = 1\n lodger 0 5 = 0\n repay 0 1 = ISE\n");
        edge("WAITS are told; PRICE is told; two change rooms (BURNS and BEARS); HOME is told; the BOX is emptied.",
            houses("lodger burns 2 home 0 to 9 coins 3 bears 4 waits 5;lodger burns 7 home 10 to 20 coins 6 bears 8 waits 9") + """
            waits 0 1 = 5
            lodger 0 4 = 1
            lodger 1 4 = 9
            price 33 = 20
            count 6 = 33
            change 0 1 = 7
            lodger 0 0 = 7
            lodger 0 1 = 0
            lodger 0 2 = 9
            lodger 0 3 = 8
            lodger 0 4 = 1
            lodger 0 5 = 3
            lodger 1 0 = 2
            lodger 1 3 = 4
            lodger 1 5 = 6
            home 1 40 3 = 12
            lodger 1 1 = 40
            lodger 1 2 = 3
            lodger 0 1 = 0
            lodger 0 2 = 9
            put 0 = 33
            put 1 = 66
            empty = 2
            count 9 = 0
            count 5 = 66
            lodger 0 8 = 1
            count 14 = 7
            """,
            // CHILL and COLD go with the LODGER, not with the room
            houses(lodger("coins 0 bears 0;") + "lodger burns 3 home 1 to 1 coins 0 bears 9") + "ticks 1 = 1\n change 0 1 = 3\n lodger 0 3 = 9\n lodger 0 6 = 1\n"
            + "lodger 0 7 = 1\n lodger 1 3 = 0\n lodger 1 6 = 0\n lodger 1 7 = 0\n");
    }

    private static void log() {
        edge("THE LOG: the latest 60 times that it went out (0: DARK came to 1), that somebody fed (1; by hand, too), that somebody was COLD"
            + " for the first time in a row (2: CHILL came to BEARS and 1):",
            "count 13 = 0\n" + houses(lodger("coins 99;price 1")) + puts(59, 0, 1) + "count 13 = 59\n put 0 = 60\n count 13 = 60\n log 59 4 = 1\n"
            + "put 0 = 61\n count 13 = 60\n log 59 4 = 2\n log 60 4 = -2\n log 0 4 = 61\n",
            // went out: DARK of 1 alone; lit between
            houses(lodger("coins 0 bears 20")) + "ticks 1 = 1\n count 13 = 1\n log 0 2 = 0\n ticks 1 = 1\n count 13 = 1\n house \"gas 1\" = 2\n ticks 1 = 0\n"
            + "count 13 = 1\n ticks 1 = 1\n count 13 = 2\n",
            // COLD: CHILL of BEARS and 1 alone, and again behind a row of none
            houses(lodger("coins 0 bears 2")) + "ticks 2 = 2\n count 13 = 1\n ticks 1 = 1\n count 13 = 2\n log 0 2 = 2\n ticks 9 = 9\n count 13 = 2\n"
            + "house \"gas 1\" = 2\n ticks 3 = 2\n count 13 = 3\n ticks 1 = 1\n count 13 = 4\n log 0 2 = 2\n",
            // rows that were undone are told no more, and those that come then stand in their place
            houses(lodger("coins 9;price 1")) + puts(3, 0, 1) + "undo = 1\n undo = 1\n count 13 = 1\n log 0 4 = 1\n price 5 = 1\n put 0 = 6\n count 13 = 2\n log 0 4 = 6\n log 1 4 = 1\n"
            + "log 2 4 = -2\n",
            // of one TICK: it went out, somebody was COLD, somebody fed
            houses(lodger("coins 1 bears 0 waits 0")) + "ticks 1 = 1\n count 13 = 3\n log 2 2 = 0\n log 1 2 = 2\n log 0 2 = 1\n");
        edge("NIGHT, TICK (ahead of its being 1 more), 0 to 2, the LODGER (none of 0), GAS then.",
            houses(lodger("coins 1 bears 0 waits 0;") + "lodger burns 9 home 0 to 47 coins 0 bears 0;tick 47;night 7;gas 9") + """
            ticks 1 = 1
            count 3 = 0
            count 4 = 8
            log 3 0 = 7
            log 3 1 = 47
            log 3 2 = 0
            log 3 3 = -1
            log 3 4 = 9
            log 2 2 = 2
            log 2 3 = 0
            log 2 4 = 9
            log 1 2 = 2
            log 1 3 = 1
            log 0 0 = 7
            log 0 1 = 47
            log 0 2 = 1
            log 0 3 = 0
            log 0 4 = 29
            """);
    }

    // ---------------------------------------------------------------- AHEAD

    private static void ahead() {
        edge("AT HOME: LODGERS in TICK, as bits.", "inside = 0\n" + houses(SEVEN) + "inside = 127\n home 6 1 1 = 1\n inside = 63\n");
        String one = houses(lodger("coins 9 bears 0 waits 0"));
        edge("LASTS: the first N (1 to 96) by which the N-th TICK AHEAD is dark, nobody feeding; none.",
            "lasts = -1\n" + one + "lasts = 1\n house \"gas 1\" = 2\n lasts = 2\n house \"gas 95\" = 3\n lasts = 96\n house \"gas 96\" = 4\n lasts = -1\n");
        edge("OUT: likewise, all feeding as they do.",
            "out = -1\n" + one + "out = 1\n house \"gas 1\" = 2\n out = 2\n house \"gas 95\" = 3\n out = 96\n house \"gas 96\" = 4\n out = -1\n");
        edge("FEEDER: who feeds the first AHEAD by 96; none.",
            "feeder = -1\n" + one + "feeder = 0\n house \"gas 95\" = 2\n feeder = 0\n house \"gas 96\" = 3\n feeder = -1\n",
            houses(lodger("coins 1;gas 93")) + "feeder = 0\n house \"gas 94\" = 2\n feeder = -1\n",
            houses(lodger("coins 0;") + lodger("coins 1 waits 3;") + lodger("coins 1 waits 3")) + "feeder = 1\n law \"refuse if lodger<2\" = 1\n feeder = 2\n"
            + "law \"refuse\" = 1\n feeder = -1\n");
        edge("SHIVER: who is COLD the first AHEAD by 96 (more COLD than now; of several the least); none.",
            "shiver = -1\n" + houses(lodger("coins 0;gas 92")) + "shiver = 0\n house \"gas 93\" = 2\n shiver = -1\n",
            houses(lodger("coins 0 bears 9;") + lodger("coins 0 bears 2;") + lodger("coins 0 bears 2")) + "shiver = 1\n ticks 96 = 96\n shiver = 0\n",
            // One whose COLD is at its end cannot be more so: then it is the other one, who comes home later.
            houses(lodger("coins 0 bears 0;") + "lodger burns 1 home 9 to 9 coins 0 bears 0") + times(10, "ticks 96 = 96") + "ticks 38 = 38\n"
            + "lodger 0 7 = 998\n shiver = 0\n ticks 1 = 1\n lodger 0 7 = 999\n shiver = 1\n");
        edge("AFTER N TICKS AHEAD of a LODGER: COINS, COLD, FED then.",
            one + "after 0 0 0 = 9\n after 0 0 1 = 0\n after 0 0 2 = 0\n after 0 1 0 = 8\n after 0 1 1 = 1\n after 0 1 2 = 1\n after 0 96 0 = 4\n"
            + "after 0 96 1 = 5\n after 0 96 2 = 5\n count 9 = 0\n");
        edge("COINS for N TICKS (0 to 48): the fewest COINS put in at once now by which it is LIT in all of these (nobody else feeding).",
            "coins 48 = 0\n" + houses(lodger("coins 9 waits 0;price 3;gas 2")) + "coins 0 = 0\n coins 2 = 0\n coins 3 = 1\n coins 5 = 1\n coins 6 = 2\n"
            + "coins 48 = 16\n coins 49 = IAE\n coins -1 = IAE\n",
            houses(lodger("coins 0;price 3;gas 999")) + "coins 48 = 0\n coins 0 = 0\n",
            houses(SEVEN, "price 1") + "coins 1 = 63\n coins 48 = 3024\n price 99 = 1\n coins 48 = 31\n");
        edge("EASE of N TICKS: the fewest COINS (0 to 99) put in at once now by which nobody is more COLD behind N TICKS AHEAD than now"
            + " (others feeding as they do); none.",
            "ease 0 = 0\n ease 48 = 0\n" + houses("lodger burns 9 home 0 to 47 coins 0 bears 0;price 4") + "ease 0 = 0\n ease 1 = 3\n ease 4 = 9\n"
            + "ease 44 = 99\n ease 45 = -1\n ease 48 = -1\n ease 49 = IAE\n ease -1 = IAE\n",
            houses(lodger("coins 9 bears 1 waits 0;price 10")) + "ease 48 = 0\n",
            houses(lodger("coins 0 bears 0")) + times(10, "ticks 96 = 96") + "ticks 38 = 38\n ease 1 = 1\n ticks 1 = 1\n ease 48 = 0\n");
    }

    private static void griefs() {
        edge("GRIEF of a LODGER and W (0 to 20), if it WAITS so: how much more COLD it is behind 48 TICKS AHEAD than now, and 3 times how many"
            + " COINS it fed in these, together.",
            houses(lodger("coins 2 bears 0 waits 5;price 3;gas 2")) + "grief 0 0 = 46\n grief 0 19 = 46\n grief 0 20 = 48\n grief 0 21 = IAE\n grief 0 -1 = IAE\n"
            + "lodger 0 4 = 5\n",
            // what was fed ahead of these does not count
            houses("lodger burns 1 home 0 to 0 coins 9 bears 20 waits 0;price 1") + "grief 0 0 = 3\n put 0 = 1\n grief 0 0 = 0\n",
            // COLD ends at 999.
            houses(lodger("coins 0 bears 0")) + "grief 0 0 = 48\n" + times(9, "ticks 96 = 96") + "ticks 87 = 87\n grief 0 0 = 48\n ticks 1 = 1\n"
            + "grief 0 0 = 47\n ticks 46 = 46\n grief 0 0 = 1\n ticks 1 = 1\n grief 0 0 = 0\n");
        edge("BEST of a LODGER: the W of the least GRIEF (of several the least).",
            houses(lodger("coins 0 bears 0 waits 9")) + "lodger 0 13 = 0\n",
            houses("lodger burns 1 home 0 to 0 coins 9 bears 20 waits 0") + "lodger 0 13 = 1\n grief 0 0 = 3\n grief 0 1 = 0\n grief 0 2 = 0\n",
            houses("lodger burns 1 home 0 to 19 coins 9 bears 20 waits 0;price 1") + "lodger 0 13 = 20\n grief 0 19 = 3\n grief 0 20 = 0\n",
            houses(lodger("coins 9 bears 20 waits 0;price 1")) + "lodger 0 13 = 15\n grief 0 14 = 9\n grief 0 15 = 6\n grief 0 16 = 6\n");
        edge("RESTLESS: LODGERS whose GRIEF by their own WAITS is more than by their BEST, as bits.",
            "restless = 0\n" + houses(lodger("coins 2 bears 0 waits 20;price 3;gas 2")) + "restless = 1\n waits 0 19 = 20\n restless = 0\n waits 0 0 = 19\n"
            + "restless = 0\n",
            // by 0 alone one has less
            houses(lodger("coins 1 bears 0 waits 1;price 99")) + "restless = 1\n waits 0 0 = 1\n restless = 0\n",
            houses("lodger burns 9 home 0 to 0 coins 9 bears 20 waits 0;lodger burns 9 home 1 to 1 coins 9 bears 20 waits 0;price 1") + "restless = 3\n waits 0 1 = 0\n restless = 2\n",
            houses("lodger burns 1 home 0 to 19 coins 9 bears 20 waits 19;price 1") + "restless = 1\n waits 0 20 = 19\n restless = 0\n");
        String two = houses(lodger("coins 5 bears 0 waits 0;") + lodger("coins 5 bears 0 waits 2;price 10"));
        String late = houses("lodger burns 1 home 0 to 47 coins 1 waits 9;lodger burns 1 home 10 to 14 coins 0 bears 0;price 10");
        edge("SAINT of a LODGER: others who would have less GRIEF (each by its own WAITS), if this one WAITED 0, as bits; VICTIMS: those who would"
            + " have more, as bits (both without itself).",
            two + "saint 0 0 = 0\n saint 0 1 = 0\n saint 1 0 = 1\n saint 1 1 = 0\n grief 1 2 = 19\n grief 1 0 = 17\n",
            late + "saint 0 0 = 0\n saint 0 1 = 2\n saint 1 0 = 0\n saint 1 1 = 0\n waits 0 0 = 9\n saint 0 1 = 0\n",
            houses(lodger("coins 5 bears 0 waits 5")) + "saint 0 0 = 0\n saint 0 1 = 0\n");
        edge("WARMER of two: whether by changing rooms (BURNS and BEARS) both would have less GRIEF, each by its own WAITS.",
            houses("lodger burns 9 home 0 to 19 coins 0 bears 9;lodger burns 1 home 20 to 31 coins 0 bears 0;gas 20") + "warmer 0 1 = 1\n warmer 1 0 = 1\n",
            // one of them alone, and two who are alike
            houses("lodger burns 9 home 0 to 19 coins 0 bears 9;lodger burns 1 home 40 to 41 coins 0 bears 0;gas 20") + "warmer 0 1 = 0\n warmer 1 0 = 0\n",
            houses(lodger("coins 0;") + lodger("coins 0")) + "warmer 0 1 = 0\n");
    }

    private static void shares() {
        edge("METERED of a LODGER: how much it burns in all TICKS of a night at HOME.",
            houses(ONE + ";lodger burns 9 home 0 to 47 coins 0;lodger burns 9 home 1 to 0 coins 0;lodger burns 2 home 47 to 0 coins 0")
            + "lodger 0 12 = 1\n lodger 1 12 = 432\n lodger 2 12 = 432\n lodger 3 12 = 4\n");
        edge("FAIR of a LODGER and N COINS (0 to 999): N shared out by METERED, rounded down; what is left goes to those of the least numbers, 1 each.",
            houses(ONE) + "fair 0 0 = 0\n fair 0 1 = 1\n fair 0 999 = 999\n fair 0 1000 = IAE\n fair 0 -1 = IAE\n",
            houses(ONE + ";" + ONE + ";" + ONE) + "fair 0 2 = 1\n fair 1 2 = 1\n fair 2 2 = 0\n fair 0 3 = 1\n fair 2 3 = 1\n fair 0 4 = 2\n fair 1 4 = 1\n"
            + "fair 0 0 = 0\n fair 2 0 = 0\n",
            // 999 of seven alike: 142 each, 5 are left
            houses(SEVEN) + "fair 0 999 = 143\n fair 4 999 = 143\n fair 5 999 = 142\n fair 6 999 = 142\n fair 5 6 = 1\n fair 6 6 = 0\n");
        edge("TOPS of a set of LODGERS: the greatest NEEDS of any TICK by these alone.",
            "tops 127 = 0\n" + houses(SEVEN) + "tops 0 = 0\n tops 1 = 9\n tops 127 = 63\n home 0 47 47 = 1\n tops 1 = 9\n tops 127 = 63\n home 0 0 0 = 1\n tops 1 = 9\n");
        edge("STAND of a LODGER: in hundredths of all LODGERS' TOPS together (0 without): what TOPS of all are more than TOPS of all others"
            + " (rounded down).",
            "stand 0 = IOOBE\n" + houses(ONE) + "stand 0 = 100\n",
            houses(ONE + ";lodger burns 1 home 1 to 1 coins 0") + "stand 0 = 0\n stand 1 = 0\n home 1 0 0 = 1\n stand 0 = 50\n stand 1 = 50\n",
            houses(ONE + ";" + ONE + ";" + ONE) + "stand 0 = 33\n stand 2 = 33\n");
    }

    private static void prices() {
        // Fed in the first TICK and again in the thirteenth, if eleven are lit between; never else.
        String late = houses("lodger burns 9 home 0 to 47 coins 2 waits 0") + "law \"refuse if dark>1 or tick>0 and tick<12\" = 1\n";
        edge("DEAR: the PRICE (1 to 99) by which the most COINS are fed in 48 TICKS AHEAD (of several the least); MILD: that by which COLD of all"
            + " together is the least behind them (of several the least); EARNS of a PRICE: how many COINS.",
            "dear 0 = 1\n dear 1 = 1\n earns 1 = 0\n earns 99 = 0\n earns 0 = IAE\n earns 100 = IAE\n",
            houses(lodger("coins 30 bears 0 waits 0")) + "dear 0 = 1\n dear 1 = 47\n earns 1 = 24\n earns 47 = 1\n earns 46 = 2\n",
            houses("lodger burns 3 home 0 to 47 coins 1 bears 0 waits 0") + "dear 0 = 1\n dear 1 = 99\n",
            late + "dear 0 = 99\n earns 99 = 2\n earns 98 = 1\n price 98 = 20\n dear 0 = 99\n count 6 = 98\n");
    }

    private static void culprits() {
        String two = houses("lodger burns 1 home 0 to 1 coins 0;lodger burns 1 home 46 to 47 coins 0");
        edge("CULPRIT: told are rows: a TICK (0 to 47) and whether the bad coin had come by then (1) or not (0): one LODGER put it in, in one"
            + " TICK at which it was at HOME: pairs that fit: how many; WHO: those who are in some of these, as bits;",
            "culprit 0 [] = 0\n culprit 1 [] = 0\n",
            two + "culprit 0 [] = 4\n culprit 1 [] = 3\n culprit 0 [0 1] = 1\n culprit 1 [0 1] = 1\n culprit 0 [0 0] = 3\n culprit 0 [47 1] = 4\n"
            + "culprit 0 [47 0] = 0\n culprit 1 [47 0] = 0\n culprit 0 [46 0] = 1\n culprit 1 [46 0] = 2\n culprit 0 [1 1 0 0] = 1\n"
            + "culprit 0 [1 0 1 1] = 0\n culprit 0 [48 1] = IAE\n culprit 0 [0 2] = IAE\n culprit 0 [255 0] = IAE\n culprit 0 [0 255] = IAE\n");
        edge("ASK: the TICK for which those that fit are parted (come by then, or not) so that the greater part is the least (of several the least;"
            + " none with fewer than two).",
            "ask [] = -1\n" + two + "ask [] = 1\n ask [0 0] = 1\n ask [1 0] = 46\n ask [1 1] = 0\n ask [46 0] = -1\n ask [47 0] = -1\n",
            // two of one TICK cannot be parted: the least of all
            houses("lodger burns 1 home 9 to 9 coins 0;lodger burns 1 home 9 to 9 coins 0") + "ask [] = 0\n home 0 47 47 = 1\n ask [] = 9\n",
            houses("lodger burns 1 home 9 to 9 coins 0") + "ask [] = -1\n");
    }

    private static void drawn() {
        String three = houses("lodger burns 1 home 0 to 9 coins 0;lodger burns 1 home 0 to 9 coins 0;lodger burns 2 home 0 to 9 coins 0");
        edge("DRAWN: told are rows: a TICK and how much was drawn (0 to 63): sets of LODGERS whose burners were lit at all of these TICKS (of those"
            + " at HOME then): how many sets fit; SURE: who is in all of these, as bits (0 without); FEWEST: of these the one of the fewest LODGERS"
            + " (of several the least) as bits; none.",
            "drawn 0 [] = 1\n drawn 1 [] = 0\n drawn 2 [] = 0\n drawn 2 [0 1] = -1\n drawn 2 [0 0] = 0\n",
            three + "drawn 0 [] = 8\n drawn 1 [] = 0\n drawn 2 [] = 0\n drawn 0 [0 0] = 1\n drawn 2 [0 0] = 0\n drawn 0 [0 4] = 1\n drawn 1 [0 4] = 7\n"
            + "drawn 2 [0 4] = 7\n drawn 0 [0 5] = 0\n drawn 1 [0 5] = 0\n drawn 2 [0 5] = -1\n drawn 2 [0 2] = 4\n drawn 2 [0 1] = 1\n drawn 2 [0 3] = 5\n"
            + "drawn 1 [0 3] = 4\n drawn 0 [47 0] = 8\n drawn 0 [47 1] = 0\n drawn 0 [48 0] = IAE\n drawn 0 [0 64] = IAE\n drawn 0 [0 255] = IAE\n",
            houses(SEVEN) + "drawn 0 [0 63] = 1\n drawn 1 [47 63] = 127\n drawn 2 [47 54] = 63\n drawn 0 [47 54] = 7\n");
    }

    private static void pairsAndKeepers() {
        edge("PAIRS: LODGERS put two by two, each in one such pair at most, so that TICKS at which both of a pair are at HOME are together the most:"
            + " how much; with whom one is in the first such way (LODGER by LODGER, none being the least, then the others); none.",
            "pairs -1 = 0\n" + houses(ONE) + "pairs -1 = 0\n pairs 0 = -1\n house \"" + ONE + "\" = 2\n pairs -1 = 1\n pairs 0 = 1\n pairs 1 = 0\n"
            + "house \"" + ONE + "\" = 3\n pairs -1 = 1\n pairs 0 = -1\n pairs 1 = 2\n pairs 2 = 1\n house \"" + ONE + "\" = 4\n pairs -1 = 2\n pairs 0 = 1\n"
            + "pairs 2 = 3\n home 3 47 47 = 1\n pairs -1 = 1\n pairs 0 = -1\n pairs 3 = -1\n",
            // 9 and 1 are more than 5; two who are never there together are no pair
            houses("lodger burns 1 home 0 to 9 coins 0;lodger burns 1 home 5 to 14 coins 0;lodger burns 1 home 14 to 14 coins 0;lodger burns 1 home 0 to 8 coins 0")
            + "pairs -1 = 10\n pairs 0 = 3\n pairs 1 = 2\n home 2 20 20 = 1\n pairs -1 = 9\n pairs 0 = 3\n pairs 1 = -1\n pairs 2 = -1\n",
            houses(SEVEN) + "pairs -1 = 144\n pairs 0 = -1\n pairs 1 = 2\n pairs 6 = 5\n pairs 7 = IOOBE\n");
        edge("KEEPERS: the fewest LODGERS so that at each TICK at which somebody is at HOME one of these is: of several the least as bits.",
            "keepers = 0\n" + houses(SEVEN) + "keepers = 1\n",
            houses(ONE + ";lodger burns 1 home 47 to 47 coins 0") + "keepers = 3\n home 1 47 0 = 2\n keepers = 2\n",
            houses("lodger burns 1 home 0 to 9 coins 0;lodger burns 1 home 10 to 19 coins 0;lodger burns 1 home 0 to 9 coins 0;"
            + "lodger burns 1 home 10 to 19 coins 0") + "keepers = 3\n");
    }

    private static void kettle() {
        String two = houses(lodger("coins 5;") + lodger("coins 5;price 1"));
        edge("KETTLE: a set of LODGERS carries it, if FED of these together is more than that of all others.",
            "kettle 0 = 0\n kettle 127 = 0\n" + two + "kettle 3 = 0\n put 0 = 1\n kettle 0 = 0\n kettle 1 = 1\n kettle 2 = 0\n kettle 3 = 1\n put 1 = 2\n"
            + "kettle 1 = 0\n kettle 2 = 0\n kettle 3 = 1\n");
        edge("SWINGS of one: in how many sets that carry it without which they would not.",
            two + "swings 0 = 0\n put 0 = 1\n swings 0 = 2\n swings 1 = 0\n put 1 = 2\n swings 0 = 1\n swings 1 = 1\n",
            houses(SEVEN.replace("coins 0", "coins 1")) + "put 6 = 20\n swings 6 = 64\n swings 0 = 0\n");
        edge("MINIMAL: how many sets carry it of which none would without any one of it.",
            "minimal = 0\n" + two + "minimal = 0\n put 0 = 1\n minimal = 1\n put 1 = 2\n minimal = 1\n",
            two + "put 1 = 1\n minimal = 1\n",
            houses(lodger("coins 5;") + lodger("coins 5;") + lodger("coins 5")) + "put 0 = 20\n put 1 = 40\n put 2 = 60\n minimal = 3\n");
        edge("DUMMIES: who SWINGS in none, as bits.",
            "dummies = 0\n" + two + "dummies = 3\n put 0 = 1\n dummies = 2\n put 1 = 2\n dummies = 0\n", two + "put 1 = 1\n dummies = 1\n");
    }

    private static void debts() {
        String two = houses(lodger("coins 3;") + lodger("coins 3;owes 0 1 4;owes 1 0 4"));
        edge("NET of two: what the first one OWES the second one less what that one OWES it (0 at least).",
            two + "net 0 1 = 0\n net 1 0 = 0\n house \"owes 0 1 5\" = 2\n net 0 1 = 1\n net 1 0 = 0\n house \"owes 0 1 99;owes 1 0 0\" = 3\n net 0 1 = 99\n net 1 0 = 0\n");
        edge("DEBT: of each LODGER what it OWES all together less what all OWE it, 0 at least, all these together.",
            "debt = 0\n" + two + "debt = 0\n house \"owes 0 1 5\" = 2\n debt = 1\n",
            houses(ONE + ";" + ONE + ";" + ONE + ";owes 0 1 9;owes 1 2 9;owes 2 0 9") + "debt = 0\n house \"owes 0 1 10\" = 2\n debt = 1\n");
        edge("RING of one: whether from one to somebody whom it OWES anything, on and on, one can come back to it.",
            houses(ONE) + "ring 0 = 0\n",
            two + "ring 0 = 1\n house \"owes 1 0 1\" = 2\n ring 0 = 1\n house \"owes 1 0 0\" = 3\n ring 0 = 0\n ring 1 = 0\n",
            // round all seven, and as far as a ring that it is not in
            houses(SEVEN, "owes 0 1 1;owes 1 2 1;owes 2 3 1;owes 3 4 1;owes 4 5 1;owes 5 6 1;owes 6 0 1") + "ring 0 = 1\n ring 6 = 1\n"
            + "house \"owes 6 0 0;owes 6 5 1\" = 3\n ring 0 = 0\n ring 4 = 0\n ring 5 = 1\n ring 6 = 1\n",
            houses(SEVEN, "owes 0 6 1;owes 6 5 1;owes 5 4 1;owes 4 3 1;owes 3 2 1;owes 2 1 1;owes 1 0 1") + "ring 0 = 1\n ring 3 = 1\n");
        edge("POOREST: the LODGER by whom COINS, what all others OWE it more, what it OWES them less, are the least (below 0, too; of several the"
            + " least; none).",
            "poorest = -1\n" + two + "poorest = 0\n house \"owes 0 1 3\" = 2\n poorest = 1\n house \"owes 0 1 99\" = 3\n poorest = 0\n",
            houses(ONE + ";" + ONE + ";" + ONE + ";owes 1 0 5;owes 2 0 5") + "poorest = 1\n house \"owes 2 0 6\" = 2\n poorest = 2\n");
    }

    private static void stairs() {
        edge("RESTS of two on the stairs: each of them goes down (0) or stays (1), unseen: who goes down alone has PRICE by NEEDS of TICK (by 1, if"
            + " that is 0), rounded down, less 4; if both do, each has so much less 2; who stays while the other one goes has so much; if both stay,"
            + " each has 0 less CHILL of its own and 1: choices (2 times the first one's and the other one's) from which neither would have more by"
            + " its other one: as bits.",
            // by no NEEDS: 2, 3 and 4
            houses("lodger burns 1 home 9 to 9 coins 0;lodger burns 1 home 9 to 9 coins 0;price 2") + "rests 0 1 = 8\n price 3 = 2\n rests 0 1 = 14\n"
            + "price 4 = 3\n rests 0 1 = 6\n",
            // by NEEDS of 2, rounded down: 2, 3, 3 and 4
            houses(lodger("coins 0;") + lodger("coins 0;price 5")) + "rests 0 1 = 8\n price 6 = 5\n rests 0 1 = 14\n price 7 = 6\n rests 0 1 = 14\n"
            + "price 8 = 7\n rests 0 1 = 6\n",
            // by NEEDS above PRICE: 0; and CHILL of 2 and of 3 and 4 of one
            houses(lodger("coins 0;") + "lodger burns 1 home 4 to 4 coins 0;price 1") + "rests 0 1 = 8\n house \"tick 5\" = 2\n ticks 1 = 1\n price 1 = 1\n"
            + "rests 0 1 = 8\n ticks 1 = 1\n rests 0 1 = 10\n rests 1 0 = 12\n ticks 1 = 1\n rests 0 1 = 2\n rests 1 0 = 4\n");
        edge("ODDS of N TICKS (0 to 6) and K (0 to 6): that there is frost in K of them at least, each alike, in ten thousandths, rounded down.",
            "odds 0 0 = 10000\n odds 6 0 = 10000\n odds 0 6 = 0\n odds 6 6 = 0\n odds 7 0 = IAE\n odds 0 7 = IAE\n odds -1 0 = IAE\n odds 0 -1 = IAE\n"
            + "odds 7 7 = IAE\n",
            // 0.9843 and 0.0156 in ten thousandths, with a rest each
            houses("frost 50") + "odds 6 1 = 9843\n odds 6 6 = 156\n odds 1 1 = 5000\n odds 5 6 = 0\n odds 6 5 = 1093\n",
            houses("frost 100") + "odds 6 6 = 10000\n odds 1 1 = 10000\n odds 1 2 = 0\n odds 0 0 = 10000\n",
            houses("frost 1") + "odds 1 1 = 100\n odds 2 2 = 1\n odds 3 3 = 0\n odds 6 1 = 585\n",
            houses("frost 99") + "odds 6 6 = 9414\n odds 6 1 = 9999\n odds 2 1 = 9999\n odds 1 1 = 9900\n");
    }

    private static void counts() {
        edge("BUSY: the TICK of the greatest NEEDS (of several the least).",
            "busy = 0\n" + houses("lodger burns 1 home 47 to 47 coins 0") + "home 0 1 1 = 1\n busy = 1\n home 0 47 47 = 1\n busy = 47\n home 0 46 47 = 2\n busy = 46\n home 0 47 0 = 2\n busy = 0\n");
        edge("EMPTY: TICKS 0 to 47 at which nobody is at HOME: how many.",
            "alone = 48\n" + houses(ONE) + "alone = 47\n home 0 47 47 = 1\n alone = 47\n home 0 0 46 = 47\n alone = 1\n home 0 1 0 = 48\n alone = 0\n");
        edge("MISER: of those at HOME who have a COIN the one who WAITS the longest (of several the least; none).",
            "miser = -1\n" + houses(lodger("coins 1 waits 0")) + "miser = 0\n put 0 = 20\n miser = -1\n house \"" + lodger("coins 2 waits 0;")
            + lodger("coins 2 waits 0") + "\" = 2\n miser = 1\n waits 2 1 = 0\n miser = 2\n home 2 1 47 = 47\n miser = 1\n");
        edge("SHARE of a LODGER of FED of all, in hundredths, rounded down (0 without).",
            houses(lodger("coins 5;") + lodger("coins 5;price 1")) + "lodger 0 11 = 0\n put 0 = 1\n lodger 0 11 = 100\n lodger 1 11 = 0\n put 1 = 2\n put 1 = 3\n"
            + "lodger 0 11 = 33\n lodger 1 11 = 66\n");
        edge("ALIKE: pairs of LODGERS of like BURNS, BEARS and WAITS.",
            "alike = 0\n" + houses(SEVEN) + "alike = 21\n waits 6 3 = 2\n alike = 15\n",
            houses(ONE + ";" + ONE) + "alike = 1\n home 0 9 9 = 1\n alike = 1\n house \"lodger burns 2 home 0 to 0 coins 0;" + ONE + " bears 4\" = 2\n alike = 1\n");
    }

    private static void trials() {
        edge("TRIAL of N TICKS (0 to 96) from now (draws, too; nothing stays): how many COINS were fed in these; COLD of all together then.",
            "trial 0 0 = 0\n trial 96 0 = 0\n trial 97 0 = IAE\n trial -1 1 = IAE\n seed 1 = 1\n",
            houses(lodger("coins 9 bears 0 waits 0;price 2;frost 39")) + "trial 0 0 = 0\n trial 0 1 = 0\n trial 1 0 = 1\n trial 1 1 = 1\n trial 6 0 = 3\n"
            + "trial 6 1 = 3\n seed 1 = 1\n count 3 = 0\n count 13 = 0\n count 14 = 0\n lodger 0 5 = 9\n",
            houses(lodger("coins 0 bears 0")) + "ticks 96 = 96\n trial 0 1 = 96\n trial 96 1 = 192\n");
        // A script told these: 0 or 7 would have less or more than 1 to 6; 1 or 6 alone has the least or the greatest.
        edge("SPAN: the least and the greatest number of COINS fed so from SEED 1, 2, .. 6.",
            "span 0 0 = 0\n span 96 1 = 0\n span 97 1 = IAE\n span -1 0 = IAE\n",
            span(6, 39, 2, 2, 3) + "seed 77 = 1\n span 6 0 = 2\n span 6 1 = 3\n span 0 0 = 0\n span 0 1 = 0\n seed 1 = 77\n",
            span(2, 67, 1, 2, 2), span(13, 69, 2, 6, 6), span(2, 7, 1, 1, 1), span(4, 58, 1, 3, 3),
            span(13, 8, 12, 1, 2), span(6, 59, 9, 1, 2), span(7, 39, 3, 2, 3), span(15, 80, 5, 4, 5));
        edge("LED: how many rows of THE LOG are of a LODGER; the TICK of the latest (none).",
            houses(lodger("coins 99;price 1;tick 47")) + "led 0 0 = 0\n led 0 1 = -1\n put 0 = 1\n led 0 0 = 1\n led 0 1 = 47\n" + puts(60, 1, 1) + "led 0 0 = 60\n",
            // the row of one's going out is of nobody
            houses(lodger("coins 0 bears 9")) + "ticks 1 = 1\n count 13 = 1\n led 0 0 = 0\n led 0 1 = -1\n");
    }

    private static String span(int n, int frost, int price, int least, int greatest) {
        return houses(lodger("coins 99 waits 0;frost " + frost + ";price " + price)) + "span " + n + " 0 = " + least + "\n span " + n + " 1 = " + greatest + "\n";
    }

    private static void undone() {
        StringBuilder prices = new StringBuilder();
        for (int i = 1; i <= 13; i++) {
            prices.append("price ").append(i).append(" = ").append(i == 1 ? 20 : i - 1).append("\n").append("count 14 = ").append(Math.min(12, i)).append("\n");
        }
        edge("UNDONE: the latest ACT not undone yet (12 are remembered; TICKS of one call are one): all is as ahead of it (but for the TAPE, fault(),"
            + " THE IMAGE).",
            "undo = 0\n" + prices + times(12, "undo = 1") + "count 6 = 1\n count 14 = 0\n undo = 0\n count 6 = 1\n",
            // an ACT that changes nothing is one; so is one behind another that was undone
            "empty = 0\n price 20 = 20\n count 14 = 2\n undo = 1\n price 5 = 20\n undo = 1\n count 6 = 20\n undo = 1\n undo = 0\n",
            "ticks 96 = 0\n count 14 = 1\n undo = 1\n count 4 = 0\n seed 1 = 1\n undo = 0\n",
            // each of the nine
            houses(lodger("coins 9;") + "lodger burns 4 home 0 to 47 coins 9;owes 0 1 5") + """
            ticks 1 = 1
            put 0 = 20
            lend 0 1 = 7
            repay 0 1 = 5
            waits 0 5 = 2
            price 7 = 20
            change 0 1 = 4
            home 0 1 2 = 2
            empty = 1
            count 14 = 9
            undo = 1
            count 9 = 1
            lodger 0 2 = 2
            undo = 1
            lodger 0 2 = 47
            lodger 0 0 = 4
            undo = 1
            lodger 0 0 = 1
            count 6 = 7
            undo = 1
            count 6 = 20
            lodger 0 4 = 5
            undo = 1
            lodger 0 4 = 2
            owes 0 1 = 0
            undo = 1
            owes 0 1 = 5
            owes 1 0 = 1
            undo = 1
            owes 1 0 = 0
            lodger 0 8 = 1
            undo = 1
            lodger 0 8 = 0
            count 3 = 1
            undo = 1
            count 3 = 0
            undo = 0
            """,
            houses(lodger("coins 9 bears 0 waits 0;price 1")) + "ticks 9 = 5\n undo = 1\n count 3 = 0\n count 5 = 0\n count 7 = 0\n count 9 = 0\n count 10 = -1\n"
            + "count 11 = 0\n count 12 = 9\n count 13 = 0\n lodger 0 6 = 0\n lodger 0 8 = 0\n",
            // the TAPE, fault() and THE IMAGE stay
            "price 5 = 20\n image = 0\n" + faults("house", "x", 0, " x", 1) + "feed 0 0 0 0 0 = 20\n end 7 = 1\n undo = 1\n count 6 = 20\n fault = 1\n end 8 = 0\n end 7 = 1\n"
            + "back = 1\n count 6 = 5\n");
        edge("A text, going back: none are remembered.",
            "price 5 = 20\n house \"\" = 1\n count 14 = 0\n undo = 0\n count 6 = 5\n",
            "price 5 = 20\n law \"\" = 0\n count 14 = 0\n undo = 0\n count 6 = 5\n",
            "image = 0\n price 5 = 20\n back = 1\n count 14 = 0\n undo = 0\n count 6 = 20\n",
            // not by a text that is refused, by rows, or by not going back
            "price 5 = 20\n" + faults("house", "x", 0) + faults("law", "x", 0) + "culprit 0 [] = 0\n back = 0\n image = 0\n count 14 = 1\n undo = 1\n count 6 = 20\n",
            TWELVE + "price 5 = 20\n house \"\" = UOE\n count 14 = 1\n undo = 1\n count 6 = 20\n");
        edge("THE IMAGE (one) of all may be kept, and gone back to (but for the TAPE, fault() and THE IMAGE itself).",
            "back = 0\n image = 0\n price 5 = 20\n image = 0\n price 6 = 5\n back = 1\n count 6 = 5\n price 7 = 5\n back = 1\n count 6 = 5\n",
            houses(lodger("coins 9 waits 0")) + "law \"turn 1\" = 1\n seed 5 = 1\n put 0 = 20\n image = 0\n house \"" + ONE + "\" = 2\n law \"\" = 0\n seed 6 = 5\n"
            + "ticks 96 = 4\n feed 0 0 0 0 0 = 20\n end 3 = 1\n back = 1\n end 4 = 0\n end 3 = 1\n count 0 = 1\n count 1 = 1\n count 2 = 1\n count 3 = 0\n"
            + "count 4 = 0\n count 5 = 20\n count 9 = 1\n count 10 = 0\n count 13 = 1\n count 14 = 0\n seed 1 = 5\n lodger 0 5 = 8\n",
            "image = 0\n" + faults("law", "refuse x", 7) + "law \"turn 1\" = 1\n fault = -1\n" + faults("law", " x", 1) + "back = 1\n fault = 1\n count 2 = -1\n");
    }

    // ---------------------------------------------------------------- exceptions

    private static void exceptions() {
        String two = houses(ONE + ";" + ONE);
        edge("Of several exceptions the one told first is thrown;",
            "lodger 0 14 = IOOBE\n owes 0 0 = IOOBE\n lend 0 0 = IOOBE\n repay 0 0 = IOOBE\n waits 0 21 = IOOBE\n change 0 0 = IOOBE\n after 0 97 3 = IOOBE\n"
            + "grief 0 21 = IOOBE\n fair 0 1000 = IOOBE\n warmer 0 0 = IOOBE\n net 0 0 = IOOBE\n rests 0 0 = IOOBE\n drawn 3 [1] = IAE\n",
            two + "lend 0 0 = IAE\n repay 0 0 = IAE\n after 0 97 3 = IAE\n after 0 96 3 = NSEE\n lend 2 2 = IOOBE\n lend 0 2 = IOOBE\n lend 2 0 = IOOBE\n"
            + "lend 0 1 = ISE\n drawn 3 [] = NSEE\n",
            TWELVE + "house \"x\" = IAE\n fault = 0\n house \"gas 1\" = UOE\n fault = -1\n");
        edge("a call that throws changes nothing but the TAPE, where it is used up, and fault(), where a text is read (also by one that is refused).",
            // used up where it is told; the others leave it
            two + "house \"x\" = IAE\n end 1 = 0\n law \"x\" = IAE\n end 1 = 0\n culprit 0 [1] = IAE\n end 1 = 0\n ask [1] = IAE\n end 1 = 0\n"
            + "drawn 0 [1] = IAE\n end 1 = 0\n drawn 3 [1 1] = NSEE\n end 1 = 0\n feed 0 0 0 0 0 = 20\n ticks 0 = IAE\n put 0 = ISE\n lodger 9 9 = IOOBE\n"
            + "log 0 9 = NSEE\n end 21 = 0\n end 20 = 1\n",
            // fault(): by texts alone, and by one that is refused, too
            faults("house", "gas x", 4) + "ask [1] = IAE\n culprit 0 [1] = IAE\n drawn 0 [1] = IAE\n ticks 0 = IAE\n fault = 4\n law \"\" = 0\n fault = -1\n",
            TWELVE + faults("house", "gas x", 4) + "house \"gas 1\" = UOE\n fault = -1\n end 1 = 0\n count 5 = 0\n"
            + "count 1 = 12\n",
            // no ACT is remembered, nothing else is changed
            two + "ticks 97 = IAE\n put 0 = ISE\n lend 0 1 = ISE\n repay 0 1 = ISE\n waits 0 21 = IAE\n price 0 = IAE\n change 0 0 = IAE\n home 0 0 48 = IOOBE\n"
            + "home 0 48 0 = IOOBE\n count 14 = 0\n undo = 0\n count 3 = 0\n count 6 = 20\n lodger 0 1 = 0\n lodger 0 2 = 0\n lodger 0 4 = 2\n seed 1 = 1\n");
        edge("IndexOutOfBoundsException: there is no such LODGER, TICK.",
            two + "isHome 2 0 = IOOBE\n isHome 1 0 = 1\n isHome -1 0 = IOOBE\n isHome 0 48 = IOOBE\n isHome 0 47 = 0\n isHome 0 -1 = IOOBE\n"
            + "isHome 2147483647 0 = IOOBE\n isHome -2147483648 0 = IOOBE\n isHome 0 2147483647 = IOOBE\n isHome 0 -2147483648 = IOOBE\n");
        edge("IllegalArgumentException: a number is none, or two are one.",
            two + "waits 0 -1 = IAE\n waits 0 0 = 2\n waits 0 20 = 0\n waits 0 21 = IAE\n waits 0 2147483647 = IAE\n waits 0 -2147483648 = IAE\n"
            + "owes 0 0 = IAE\n owes 1 1 = IAE\n owes 0 1 = 0\n");
        edge("IllegalStateException: it cannot be.",
            two + "put 0 = ISE\n lend 0 1 = ISE\n repay 0 1 = ISE\n");
        edge("Sets are bits; of none they count for nothing.",
            two + "tops 3 = 2\n tops 4 = 0\n tops -4 = 0\n tops -1 = 2\n tops 7 = 2\n tops -2147483648 = 0\n tops 2147483647 = 2\n kettle -1 = 0\n",
            houses(lodger("coins 1;") + lodger("coins 0")) + "put 0 = 20\n kettle 1 = 1\n kettle -1 = 1\n kettle -2 = 0\n kettle 5 = 1\n kettle 4 = 0\n kettle -2147483648 = 0\n"
            + "kettle -2147483647 = 1\n");
    }
}
