import java.util.Set;
import java.util.TreeSet;

/**
 * Each promise by runs of calls on a new object, with answers that were worked out from the document: by hand, but
 * for those of span, which a script of a few lines told. Where the program first answered otherwise, the row was
 * worked out anew before it was changed. What a row is stands in Rows.
 */
public final class PromiseTest {
    private static final Set<Integer> SEEN = new TreeSet<>();
    private static final Rows ROWS = new Rows();

    public static void main(String[] args) {
        tapeAndTexts();
        houseTexts();
        lawTexts();
        whatThereIs();
        ticks();
        acts();
        ahead();
        griefs();
        shares();
        clues();
        together();
        debts();
        counts();
        trialsAndLog();
        undoneAndImage();
        edgesOfTexts();
        edgesOfTicks();
        edgesOfSets();
        for (int promise = 1; promise <= 64; promise++) {
            ROWS.must(SEEN.contains(promise), "promise " + promise + " has no test");
        }
        ROWS.close();
    }

    private static void run(int promise, String text) {
        SEEN.add(promise);
        ROWS.run("promise " + promise, text);
    }

    private static String times(int n, String row) {
        return Rows.times(n, row);
    }

    private static String lodger(String rest) {
        return Rows.lodger(rest);
    }

    // ---------------------------------------------------------------- promises 1 to 6

    private static void tapeAndTexts() {
        StringBuilder fresh = new StringBuilder("fault = -1\n");
        int[] counts = {0, 0, -1, 0, 0, 0, 20, 0, 0, 0, -1, 0, 0, 0, 0};
        for (int i = 0; i < counts.length; i++) {
            fresh.append("count ").append(i).append(" = ").append(counts[i]).append("\n");
        }
        run(1, fresh + "lodger 0 0 = IOOBE\n inside = 0\n undo = 0\n back = 0\n seed 3 = 1\n end 1 = 0\n end 0 = 1");

        StringBuilder full = new StringBuilder();
        for (int n = 20; n <= 400; n += 20) {
            full.append("feed 0 0 0 0 0 = ").append(n).append("\n");
        }
        run(2, full + """
            feed 0 0 0 0 0 = -1
            end 400 = 1
            end 381 = 1
            feed 0 0 0 0 0 = -1
            end 381 = 1
            end 380 = 1
            feed 0 0 0 0 0 = 400
            """);
        // "gas 7;tick 40;price 9": five numbers, the highest byte first
        run(2, """
            feed 1734439712 926643305 1667964980 809201778 1768121632 = 20
            feed 956301312 0 0 0 0 = 40
            end 21 = 1
            house = 1
            count 5 = 7
            count 3 = 40
            count 6 = 9
            feed -1 -1 -1 -1 -1 = 20
            house = IAE
            fault = 0
            """);
        run(3, """
            end 0 = 1
            end 1 = 0
            end -1 = 0
            end -2147483648 = 0
            feed 0 0 0 0 0 = 20
            end 21 = 0
            end 20 = 1
            end 7 = 1
            end 8 = 0
            end 7 = 1
            feed 0 0 0 0 0 = 27
            end 0 = 1
            end 1 = 0
            """);
    }

    private static void houseTexts() {
        run(4, """
            house "" = 1
            house "   " = 2
            house "gas 999;price 99;frost 100;tick 47;night 999" = 3
            count 5 = 999
            count 6 = 99
            count 8 = 100
            count 3 = 47
            count 4 = 999
            house "  gas0  ;price 001;frost 0;tick 0;night 0   " = 4
            count 5 = 0
            count 6 = 1
            count 8 = 0
            count 4 = 0
            house "lodger burns9home47to0coins99bears20waits20;lodger burns 1 home 3 to 3 coins 0" = 5
            lodger 0 0 = 9
            lodger 0 1 = 47
            lodger 0 2 = 0
            lodger 0 3 = 20
            lodger 0 4 = 20
            lodger 0 5 = 99
            lodger 1 3 = 3
            lodger 1 4 = 2
            house "lodger burns 2 home 1 to 2 coins 5 bears 0;lodger burns 2 home 1 to 2 coins 5 waits 0" = 6
            lodger 2 3 = 0
            lodger 2 4 = 2
            lodger 3 3 = 3
            lodger 3 4 = 0
            house "owes 0 3 99;owes 3 0 0;owes 1 2 7;owes 1 2 8" = 7
            owes 0 3 = 99
            owes 3 0 = 0
            owes 1 2 = 8
            count 0 = 4
            count 1 = 7
            """);
        // The texts come to twelve; what is wrong is told ahead of that; a refused one is read all the same.
        run(4, """
            house "" = 1
            house "" = 2
            house "" = 3
            house "" = 4
            house "" = 5
            house "" = 6
            house "" = 7
            house "" = 8
            house "" = 9
            house "" = 10
            house "" = 11
            house "gas 5" = 12
            house "gas 6;" = IAE
            fault = 6
            end 1 = 0
            house "gas 6" = UOE
            fault = -1
            end 1 = 0
            count 5 = 5
            count 1 = 12
            """);
        // Of a wrong text nothing stays, not even of the LINES ahead.
        run(4, """
            house "lodger burns 1 home 0 to 1 coins 1;gas 7;tick 3;owes 0 0 1" = IAE
            fault = 55
            count 0 = 0
            count 1 = 0
            count 5 = 0
            count 3 = 0
            house "lodger burns 4 home 2 to 3 coins 2" = 1
            house "lodger burns 1 home 0 to 1 coins 1;owes 0 1 5;x" = IAE
            count 0 = 1
            house "lodger burns 1 home 0 to 1 coins 1" = 2
            owes 0 1 = 0
            """);
        // At most 14 LINES and 7 LODGERS.
        String seven = "lodger burns 1 home 0 to 0 coins 0" + ";lodger burns 1 home 0 to 0 coins 0".repeat(6);
        run(4, "house \"" + "gas 1;".repeat(13) + "gas 2\" = 1\n count 5 = 2\n"
            + "house \"" + "gas 1;".repeat(14) + "gas 2\" = IAE\n fault = 84\n"
            + "house \"" + "gas 1;".repeat(14) + "  \" = IAE\n fault = 86\n"
            + "house \"" + seven + "\" = 2\n count 0 = 7\n"
            + "house \" gas 3; lodger burns 1 home 0 to 0 coins 0\" = IAE\n fault = 8\n count 0 = 7\n");
        run(6, wrongHouses());
    }

    /** fault() behind each wrong text of THE HOUSE, with where it is wrong. */
    private static String wrongHouses() {
        Object[][] all = {
            {"g", 0}, {"gasp 1", 0}, {"Gas 1", 0}, {"gas", 3}, {"gas ", 4}, {"gas x", 4}, {"gas -1", 4}, {"gas 1000", 4},
            {"gas 0001", 4}, {"gas 1 2", 6}, {"gas 1 x", 6}, {"gas 1,", 5}, {";", 0}, {" ;", 1}, {"gas 1;", 6}, {"gas 1; ", 7},
            {"gas 1;;gas 2", 6}, {"1", 0}, {"if", 0}, {"turn 1", 0}, {"price 0", 6}, {"price 100", 6}, {"frost 101", 6},
            {"tick 48", 5}, {"night 1000", 6}, {"\tgas 1", 0}, {"gas\n1", 3}, {"gas 1\u00e9", 5}, {"gas 1\0", 5},
            {"lodger", 6}, {"lodger 1", 7}, {"lodgers burns 1", 0}, {"lodger burns", 12}, {"lodger burns 0", 13},
            {"lodger burns 10", 13}, {"lodger burns 1 home", 19}, {"lodger burns 1 home 48", 20}, {"lodger burns 1 home 1 2", 22},
            {"lodger burns 1 home 1 to 48", 25}, {"lodger burns 1 home 1 to 2", 26}, {"lodger burns 1 home 1 to 2 coins 100", 33},
            {"lodger burns 1 home 1 to 2 coins 1 bears 21", 41}, {"lodger burns 1 home 1 to 2 coins 1 waits 21", 41},
            {"lodger burns 1 home 1 to 2 coins 1 waits 1 bears 1", 43}, {"lodger burns 1 home 1 to 2 coins 1 bears", 40},
            {"lodger burns 1 home 1 to 2 coins 1 bears 1 bears 1", 43}, {"lodger burns 1 to 1 home 2 coins 1", 15},
            {"owes 0 1 1", 5}, {"owes", 4}, {"lodger burns 1 home 1 to 2 coins 1;owes 0", 41},
            {"lodger burns 1 home 1 to 2 coins 1;owes 0 1 1", 42}, {"lodger burns 1 home 1 to 2 coins 1;owes 0 0 1", 42},
            {"lodger burns 1 home 1 to 2 coins 1;owes 1 0 1", 40}, {"lodger burns 1 home 1 to 2 coins 1;owes 01 1", 40},
        };
        StringBuilder rows = new StringBuilder("fault = -1\n");
        for (Object[] one : all) {
            String text = (String) one[0];
            StringBuilder bytes = new StringBuilder();
            for (byte b : Face.bytes(text)) {
                bytes.append(Byte.toUnsignedInt(b)).append(" ");
            }
            rows.append("house [").append(bytes).append("] = IAE\nfault = ").append(one[1]).append("\nend 1 = 0\n");
        }
        return rows + """
            house "lodger burns 1 home 1 to 2 coins 1;lodger burns 1 home 1 to 2 coins 1" = 1
            fault = -1
            house "owes 0 1 100" = IAE
            fault = 9
            culprit 0 [1] = IAE
            fault = 9
            image = 0
            back = 1
            undo = 0
            fault = 9
            house "owes 0 1 99" = 2
            fault = -1
            """;
    }

    private static void lawTexts() {
        run(5, """
            count 2 = -1
            law "" = 0
            count 2 = 0
            law "turn 60;spare 0;refuse" = 3
            count 2 = 3
            law "refuse" = 1
            law "  " = 0
            law "turn 1;turn 2;turn 3;turn 4;turn 5;turn 6;turn 7;turn 8;turn 9;turn 10;turn 11;turn 12" = 12
            law "turn 1;turn 2;turn 3;turn 4;turn 5;turn 6;turn 7;turn 8;turn 9;turn 10;turn 11;turn 12;turn 13" = IAE
            fault = 87
            count 2 = 12
            end 1 = 0
            law "turn 61" = IAE
            count 2 = 12
            """);
        run(6, wrongLaws());
        // Each atom and each part, of two LODGERS: TURN is 1 where it holds.
        run(5, holds("lodger burns 4 home 0 to 47 coins 6 bears 0;lodger burns 7 home 0 to 47 coins 2 bears 9;tick 10", new Object[][] {
            {"1<2", 1, 1}, {"2<1", 0, 0}, {"1<1", 0, 0}, {"2>1", 1, 1}, {"1>2", 0, 0}, {"1>1", 0, 0}, {"999>998", 1, 1},
            {"lodger<1", 1, 0}, {"lodger>0", 0, 1}, {"burns>4", 0, 1}, {"burns<5", 1, 0}, {"coins>5", 1, 0}, {"coins<6", 0, 1},
            {"fed<1", 1, 1}, {"chill<1", 1, 1}, {"dark<1", 1, 1}, {"tick<11", 1, 1}, {"tick>9", 1, 1}, {"tick>10", 0, 0},
            {"last", 0, 0}, {"cold", 0, 0}, {"not last", 1, 1}, {"not not cold", 0, 0}, {"not lodger<1", 0, 1},
            {"burns+coins<10", 0, 1}, {"burns+coins<11", 1, 1}, {"1+2+3>coins+3", 0, 1}, {"10>burns+coins", 0, 1},
            {"2>1 or 2<1 and 2<1", 1, 1}, {"(2>1 or 2<1) and 2<1", 0, 0}, {"2<1 and 2<1 or 2>1", 1, 1},
            {"not 2>1 or 2>1", 1, 1}, {"not (2>1 or 2>1)", 0, 0}, {"not 2<1 and not 2<1", 1, 1}, {"((((((2>1))))))", 1, 1},
            {"not(not(not(2>1)))", 0, 0}, {"2<1 or 2<1 or lodger>0", 0, 1}, {"2>1 and 2>1 and lodger<1", 1, 0},
            {"lodger<1 and coins>5 or lodger>0 and coins<1", 1, 0}, {"not(lodger<1 and coins>9)and burns<9", 1, 1},
        }));
        // last, cold, fed, chill and dark as a night goes on: LODGER 0 feeds at once.
        run(5, """
            house "lodger burns 1 home 0 to 47 coins 1 bears 0 waits 0;lodger burns 1 home 0 to 47 coins 0 bears 1" = 1
            ticks 1 = 1
            law "turn 1 if last;turn 2 if cold;turn 4 if fed>0;turn 8 if chill>0;turn 16 if dark>0" = 5
            lodger 0 9 = 31
            lodger 1 9 = 24
            law "spare 7 if last;turn 3;spare 1" = 3
            lodger 0 9 = -5
            lodger 1 9 = 2
            law "turn 3 if last;refuse if not last;refuse if 1<0" = 3
            lodger 0 10 = 0
            lodger 1 10 = 1
            lodger 1 9 = 0
            """);
    }

    private static String holds(String house, Object[][] all) {
        StringBuilder rows = new StringBuilder("house \"" + house + "\" = 1\n");
        for (Object[] one : all) {
            rows.append("law \"turn 1 if ").append(one[0]).append("\" = 1\n");
            rows.append("lodger 0 9 = ").append(one[1]).append("\nlodger 1 9 = ").append(one[2]).append("\n");
            rows.append("law \"refuse if ").append(one[0]).append("\" = 1\n");
            rows.append("lodger 0 10 = ").append(one[1]).append("\nlodger 1 10 = ").append(one[2]).append("\n");
        }
        return rows.toString();
    }

    private static String wrongLaws() {
        Object[][] all = {
            {"turn", 4}, {"turn 61", 5}, {"turn 1000", 5}, {"spare", 5}, {"spare x", 6}, {"refuse 1", 7}, {"refuses", 0},
            {"gas 1", 0}, {"turn 1 or", 7}, {"turn 1;", 7}, {";turn 1", 0}, {"turn 1 if", 9}, {"turn 1 if if", 10},
            {"turn 1 if last last", 15}, {"turn 1 if last cold", 15}, {"turn 1 if last or", 17}, {"turn 1 if last and", 18},
            {"turn 1 if or last", 10}, {"turn 1 if last or and", 18}, {"turn 1 if last<2", 14}, {"turn 1 if 2", 11},
            {"turn 1 if 2<", 12}, {"turn 1 if 2<3<4", 13}, {"turn 1 if 2=3", 11}, {"turn 1 if 1000<2", 10}, {"turn 1 if 2<last", 12},
            {"turn 1 if bears<2", 10}, {"turn 1 if gas<2", 10}, {"turn 1 if 1+", 12}, {"turn 1 if 1++2<3", 12},
            {"turn 1 if 1+2", 13}, {"turn 1 if (1+2)<3", 14}, {"turn 1 if (last", 15}, {"turn 1 if (last;", 15},
            {"turn 1 if last)", 14}, {"turn 1 if ()", 11}, {"turn 1 if not", 13}, {"turn 1 if not or", 14},
            {"turn 1 if not not not not not not cold", -1}, {"turn 1 if not not not not not not not cold", 34},
            {"turn 1 if ((((((cold))))))", -1}, {"turn 1 if (((((((cold)))))))", 16}, {"turn 1 if not(not(not(not cold)))", 22},
            {"turn 1 if not(not(not(cold)))and not(not(not(cold)))", -1}, {"turn 1 if ((((((cold)))))) or (((((not(cold", 38},
            {"turn 1 if not(not(not(cold or not cold)))", 30}, {"turn 1 iflast", 7}, {"turn 1 if lastor cold", 10},
            {"turn1if1<2or3<4", -1}, {"turn 1 if A", 10},
        };
        StringBuilder rows = new StringBuilder();
        for (Object[] one : all) {
            boolean isRight = one[1].equals(-1);
            rows.append("law \"").append(one[0]).append("\" = ").append(isRight ? "1" : "IAE").append("\n");
            rows.append("fault = ").append(one[1]).append("\n");
        }
        return rows.toString();
    }

    // ---------------------------------------------------------------- promises 7 to 10, 20

    private static void whatThereIs() {
        run(7, """
            lodger 0 99 = IOOBE
            house "lodger burns 2 home 46 to 1 coins 3 bears 4 waits 5;lodger burns 1 home 3 to 3 coins 9;price 7" = 1
            lodger 0 0 = 2
            lodger 0 1 = 46
            lodger 0 2 = 1
            lodger 0 3 = 4
            lodger 0 4 = 5
            lodger 0 5 = 3
            lodger 0 6 = 0
            lodger 0 7 = 0
            lodger 0 8 = 0
            lodger 0 9 = 0
            lodger 0 10 = 0
            lodger 0 11 = 0
            lodger 0 12 = 8
            lodger 1 12 = 1
            lodger 0 14 = NSEE
            lodger 0 -1 = NSEE
            lodger 2 14 = IOOBE
            lodger -1 0 = IOOBE
            put 0 = 7
            put 1 = 14
            put 1 = 21
            lodger 0 8 = 1
            lodger 0 11 = 33
            lodger 1 11 = 66
            """);
        // BEST: see griefs(); of several the least.
        run(7, "house \"" + lodger("coins 2 bears 0 waits 5;price 3;gas 2") + "\" = 1\n lodger 0 13 = 0\n");
        // A coin buys one TICK: by WAITS of 15 two are fed (9 of GRIEF by 14, three of them), and nobody is COLD yet.
        run(7, "house \"" + lodger("coins 9 bears 20 waits 0;price 1") + "\" = 1\n lodger 0 13 = 15\n"
            + "grief 0 14 = 9\n grief 0 15 = 6\n grief 0 19 = 6\n grief 0 20 = 8\n");
        run(8, """
            owes 0 1 = IOOBE
            house "lodger burns 2 home 0 to 1 coins 3;lodger burns 1 home 3 to 3 coins 9;owes 0 1 12" = 1
            owes 0 1 = 12
            owes 1 0 = 0
            owes 1 1 = IAE
            owes 0 2 = IOOBE
            owes 2 2 = IOOBE
            owes -1 0 = IOOBE
            """);
        run(9, """
            isHome 0 0 = IOOBE
            house "lodger burns 2 home 5 to 7 coins 3;lodger burns 1 home 47 to 1 coins 9;lodger burns 1 home 9 to 9 coins 0" = 1
            isHome 0 4 = 0
            isHome 0 5 = 1
            isHome 0 7 = 1
            isHome 0 8 = 0
            isHome 1 46 = 0
            isHome 1 47 = 1
            isHome 1 0 = 1
            isHome 1 1 = 1
            isHome 1 2 = 0
            isHome 2 8 = 0
            isHome 2 9 = 1
            isHome 2 10 = 0
            isHome 0 48 = IOOBE
            isHome 0 -1 = IOOBE
            isHome 3 0 = IOOBE
            """);
        run(10, """
            needs 0 = 0
            house "lodger burns 2 home 5 to 7 coins 3;lodger burns 9 home 7 to 5 coins 9;frost 100" = 1
            needs 4 = 9
            needs 5 = 11
            needs 6 = 2
            needs 7 = 11
            needs 47 = 9
            needs 48 = IOOBE
            needs -1 = IOOBE
            """);
        run(20, """
            inside = 0
            house "lodger burns 2 home 5 to 7 coins 3;lodger burns 9 home 7 to 4 coins 9;lodger burns 1 home 0 to 47 coins 0" = 1
            inside = 6
            house "tick 5" = 2
            inside = 5
            house "tick 7" = 3
            inside = 7
            """);
    }

    // ---------------------------------------------------------------- promise 11

    private static void ticks() {
        run(11, "ticks 0 = IAE\n ticks 97 = IAE\n ticks -1 = IAE\n count 14 = 0\n ticks 96 = 0\n count 3 = 0\n count 4 = 2\n"
            + "house \"tick 47;night 999\" = 1\n ticks 1 = 0\n count 3 = 0\n count 4 = 1000\n");
        // Lit, lit, dark and fed, lit, lit, lit, dark and fed, lit, lit, lit, dark for good.
        run(11, "house \"" + lodger("coins 2 bears 0 waits 0;price 3;gas 2") + "\" = 1\n" + """
            ticks 2 = 0
            count 5 = 0
            count 3 = 2
            ticks 1 = 1
            count 5 = 3
            count 7 = 1
            count 9 = 1
            count 10 = 0
            lodger 0 5 = 1
            lodger 0 6 = 1
            lodger 0 7 = 1
            lodger 0 8 = 1
            ticks 1 = 0
            count 5 = 2
            count 7 = 0
            lodger 0 6 = 0
            lodger 0 7 = 1
            ticks 44 = 39
            count 3 = 0
            count 4 = 1
            count 5 = 0
            count 7 = 38
            lodger 0 5 = 0
            lodger 0 6 = 38
            lodger 0 7 = 40
            lodger 0 8 = 2
            count 9 = 2
            """);
        // GAS that is not enough stays; who is out has no CHILL, and BEARS are borne.
        run(11, """
            house "lodger burns 3 home 0 to 1 coins 9 bears 1 waits 9;lodger burns 2 home 1 to 9 coins 0 bears 0;gas 2" = 1
            ticks 1 = 1
            count 5 = 2
            lodger 0 6 = 1
            lodger 0 7 = 0
            lodger 1 6 = 0
            ticks 1 = 1
            lodger 0 6 = 2
            lodger 0 7 = 1
            lodger 1 6 = 1
            lodger 1 7 = 1
            ticks 1 = 0
            count 5 = 0
            lodger 0 6 = 0
            lodger 1 6 = 0
            count 7 = 0
            ticks 1 = 1
            lodger 0 6 = 0
            lodger 1 6 = 1
            count 11 = 3
            count 12 = 9
            """);
        // WAITS must be below DARK; DARK, CHILL and COLD have ends; the one who is not in does not feed.
        run(11, "house \"" + lodger("coins 1 bears 0 waits 3") + ";lodger burns 1 home 40 to 41 coins 1 waits 0\" = 1\n" + """
            ticks 3 = 3
            lodger 0 5 = 1
            ticks 1 = 1
            lodger 0 5 = 0
            lodger 1 5 = 1
            count 5 = 20
            """);
        run(11, "house \"" + lodger("coins 0 bears 20") + "\" = 1\n ticks 96 = 96\n count 7 = 96\n ticks 3 = 3\n count 7 = 99\n"
            + "lodger 0 6 = 99\n ticks 1 = 1\n count 7 = 99\n lodger 0 6 = 99\n lodger 0 7 = 80\n" + times(9, "ticks 96 = 96")
            + "lodger 0 7 = 944\n ticks 55 = 55\n lodger 0 7 = 999\n ticks 9 = 9\n lodger 0 7 = 999\n count 11 = 999\n");
        // The greatest TURN feeds, of several the least; who REFUSES does not; THE LAW is asked in the dark that is.
        String three = lodger("coins 5 waits 0;") + lodger("coins 5 waits 0;") + lodger("coins 5 waits 0;price 2");
        run(11, "house \"" + three + "\" = 1\n" + """
            ticks 1 = 1
            count 10 = 0
            law "turn 3 if lodger>0" = 1
            ticks 1 = 1
            count 10 = 1
            law "turn 3 if not last;turn 1 if lodger>1" = 2
            ticks 2 = 1
            count 10 = 2
            law "spare 1 if lodger<2;refuse if lodger>1" = 2
            ticks 2 = 1
            count 10 = 0
            law "refuse if dark<2" = 1
            ticks 1 = 1
            lodger 0 8 = 3
            ticks 2 = 1
            lodger 0 8 = 3
            ticks 1 = 1
            lodger 0 8 = 4
            count 5 = 3
            law "refuse" = 1
            ticks 9 = 8
            count 9 = 6
            """);
        // DRAWS of SEED 1: 16838 (38 of hundred), 5758 (58), 10113 (13), 17515 (15), 31051 (51), 5627 (27).
        run(11, "house \"" + lodger("coins 0;gas 100;frost 39") + "\" = 1\n" + """
            ticks 1 = 0
            count 5 = 98
            ticks 1 = 0
            count 5 = 97
            ticks 1 = 0
            count 5 = 95
            ticks 3 = 0
            count 5 = 90
            """);
        run(11, "house \"" + lodger("coins 0;gas 100;frost 38") + "\" = 1\n ticks 1 = 0\n count 5 = 99\n");
        run(11, "house \"" + lodger("coins 0;gas 1;frost 100") + "\" = 1\n ticks 1 = 1\n count 5 = 1\n");
        run(11, "house \"frost 100\" = 1\n ticks 5 = 0\n");
    }

    // ---------------------------------------------------------------- promises 12 to 19

    private static void acts() {
        run(12, """
            put 0 = IOOBE
            house "lodger burns 1 home 5 to 6 coins 2;lodger burns 1 home 5 to 6 coins 0;price 30;gas 3" = 1
            put 0 = 33
            lodger 0 5 = 1
            lodger 0 8 = 1
            count 9 = 1
            count 10 = 0
            put 1 = ISE
            put 2 = IOOBE
            put -1 = IOOBE
            put 0 = 63
            put 0 = ISE
            count 9 = 2
            count 14 = 2
            """);
        run(12, "house \"" + lodger("coins 99;price 99;gas 999") + "\" = 1\n" + times(1, "put 0 = 1098") + """
            house "price 99" = 2
            """ + putsTo(1098, 9999) + "put 0 = 9999\n put 0 = 9999\n count 5 = 9999\n");
        run(13, """
            lend 0 0 = IOOBE
            house "lodger burns 1 home 0 to 1 coins 2;lodger burns 1 home 0 to 1 coins 0;owes 0 1 5" = 1
            lend 0 0 = IAE
            lend 2 2 = IOOBE
            lend 0 2 = IOOBE
            lend 0 1 = 1
            lodger 1 5 = 1
            owes 1 0 = 1
            owes 0 1 = 5
            lend 0 1 = 0
            owes 1 0 = 2
            lend 0 1 = ISE
            lend 1 0 = 1
            owes 0 1 = 6
            house "owes 0 1 98" = 2
            lend 1 0 = 0
            owes 0 1 = 99
            lend 0 1 = 1
            lend 1 0 = ISE
            count 12 = 2
            """);
        run(14, """
            repay 0 0 = IOOBE
            house "lodger burns 1 home 0 to 1 coins 5;lodger burns 1 home 0 to 1 coins 0;owes 0 1 3;owes 1 0 2" = 1
            repay 0 0 = IAE
            repay 2 2 = IOOBE
            repay 1 0 = ISE
            repay 0 1 = 3
            lodger 0 5 = 2
            lodger 1 5 = 3
            owes 0 1 = 0
            owes 1 0 = 2
            repay 0 1 = ISE
            house "owes 1 0 50" = 2
            repay 1 0 = 3
            owes 1 0 = 47
            repay 1 0 = ISE
            count 14 = 1
            """);
        run(15, """
            waits 0 0 = IOOBE
            house "lodger burns 1 home 0 to 1 coins 5" = 1
            waits 0 21 = IAE
            waits 0 -1 = IAE
            waits 1 21 = IOOBE
            waits 0 20 = 2
            waits 0 0 = 20
            lodger 0 4 = 0
            count 14 = 2
            """);
        run(16, """
            price 0 = IAE
            price 100 = IAE
            price -5 = IAE
            price 99 = 20
            price 1 = 99
            count 6 = 1
            count 14 = 2
            """);
        run(17, """
            change 0 0 = IOOBE
            house "lodger burns 4 home 0 to 1 coins 5 bears 6 waits 7;lodger burns 5 home 2 to 3 coins 8 bears 9 waits 1" = 1
            change 0 0 = IAE
            change 0 2 = IOOBE
            change 1 0 = 4
            lodger 0 0 = 5
            lodger 0 1 = 0
            lodger 0 3 = 9
            lodger 0 4 = 7
            lodger 0 5 = 5
            lodger 1 0 = 4
            lodger 1 3 = 6
            lodger 1 2 = 3
            lodger 1 4 = 1
            needs 2 = 4
            """);
        run(18, """
            home 0 0 0 = IOOBE
            house "lodger burns 4 home 0 to 1 coins 5" = 1
            home 0 0 47 = 48
            home 0 1 0 = 48
            home 0 5 5 = 1
            home 0 47 0 = 2
            home 0 40 5 = 14
            lodger 0 1 = 40
            lodger 0 2 = 5
            home 0 48 0 = IOOBE
            home 0 0 48 = IOOBE
            home 0 -1 0 = IOOBE
            home 0 0 -1 = IOOBE
            home 1 0 0 = IOOBE
            lodger 0 1 = 40
            needs 40 = 4
            needs 39 = 0
            """);
        run(19, """
            empty = 0
            house "lodger burns 4 home 0 to 1 coins 5;price 9" = 1
            put 0 = 9
            put 0 = 18
            count 9 = 2
            empty = 2
            count 9 = 0
            empty = 0
            lodger 0 8 = 2
            count 5 = 18
            """);
    }

    /** One feeds by hand until the METER holds all that it can. */
    private static String putsTo(int gas, int most) {
        StringBuilder rows = new StringBuilder();
        for (int g = gas + 99; g < most; g += 99) {
            rows.append("put 0 = ").append(g).append("\n");
        }
        return rows.toString();
    }

    // ---------------------------------------------------------------- promises 21 to 27

    private static void ahead() {
        String one = "house \"" + lodger("coins 2 bears 0 waits 0;price 3;gas 2") + "\" = 1\n";
        run(21, "lasts = -1\n" + one + "lasts = 3\n count 5 = 2\n count 3 = 0\n house \"gas 95\" = 2\n lasts = 96\n"
            + "house \"gas 96\" = 3\n lasts = -1\n house \"gas 0\" = 4\n lasts = 1\n");
        run(22, "out = -1\n" + one + "out = 3\n house \"gas 95\" = 2\n out = 96\n house \"gas 96\" = 3\n out = -1\n");
        run(23, "feeder = -1\n" + one + "feeder = 0\n house \"gas 95\" = 2\n feeder = 0\n house \"gas 96\" = 3\n feeder = -1\n"
            + "house \"gas 0\" = 4\n law \"refuse\" = 1\n feeder = -1\n count 9 = 0\n");
        run(23, "house \"" + lodger("coins 2 waits 1;") + lodger("coins 2 waits 1") + "\" = 1\n feeder = 0\n"
            + "law \"turn 1 if lodger>0\" = 1\n feeder = 1\n waits 1 2 = 1\n feeder = 0\n");
        run(24, "shiver = -1\n" + one + "shiver = 0\n house \"gas 95\" = 2\n shiver = 0\n house \"gas 96\" = 3\n shiver = -1\n");
        run(24, "house \"" + lodger("coins 0 bears 9;") + lodger("coins 0 bears 2;") + lodger("coins 0 bears 2") + "\" = 1\n"
            + "shiver = 1\n ticks 20 = 20\n shiver = 0\n");
        run(25, one + """
            after 0 0 0 = 2
            after 0 0 1 = 0
            after 0 2 0 = 2
            after 0 3 0 = 1
            after 0 3 1 = 1
            after 0 3 2 = 1
            after 0 48 0 = 0
            after 0 48 1 = 40
            after 0 48 2 = 2
            after 0 96 1 = 88
            after 0 97 0 = IAE
            after 0 -1 0 = IAE
            after 0 97 3 = IAE
            after 0 0 3 = NSEE
            after 0 0 -1 = NSEE
            after 1 97 3 = IOOBE
            lodger 0 5 = 2
            """);
        run(25, "house \"" + lodger("coins 2;gas 96;frost 100") + "\" = 1\n after 0 96 1 = 0\n seed 1 = 1\n");
        run(26, "coins 48 = 0\n" + one + """
            coins 0 = 0
            coins 2 = 0
            coins 3 = 1
            coins 5 = 1
            coins 6 = 2
            coins 48 = 16
            coins 49 = IAE
            coins -1 = IAE
            """);
        run(26, """
            house "lodger burns 9 home 46 to 0 coins 0;lodger burns 2 home 0 to 1 coins 0;tick 46;price 10;gas 9" = 1
            coins 1 = 0
            coins 2 = 1
            coins 3 = 2
            coins 4 = 3
            coins 48 = 3
            """);
        String many = lodger("coins 0").replace("burns 1", "burns 9");
        run(26, "house \"" + many + ";" + many + ";" + many + ";" + many + ";" + many + ";" + many + ";" + many + "\" = 1\n"
            + "house \"price 1\" = 2\n coins 48 = 3024\n coins 1 = 63\n");
        run(27, "ease 48 = 0\n" + one + """
            ease 0 = 0
            ease 2 = 0
            ease 3 = 1
            ease 5 = 1
            ease 6 = 2
            ease 48 = 16
            ease 49 = IAE
            ease -1 = IAE
            """);
        // Others feed as they do: the one who WAITS 0 and bears one TICK keeps it at that.
        run(27, "house \"" + lodger("coins 9 bears 1 waits 0;price 10") + "\" = 1\n ease 48 = 0\n");
        run(27, "house \"" + lodger("coins 0 bears 0;").replace("burns 1", "burns 9") + lodger("coins 0;price 9") + "\" = 1\n"
            + "price 5 = 9\n ease 48 = 96\n ease 47 = 94\n price 4 = 5\n ease 48 = -1\n ease 39 = 98\n ease 40 = -1\n");
    }

    // ---------------------------------------------------------------- promises 28 to 30, 39

    private static void griefs() {
        run(28, "grief 0 0 = IOOBE\n house \"" + lodger("coins 2 bears 0 waits 5;price 3;gas 2") + "\" = 1\n" + """
            grief 0 0 = 46
            grief 0 1 = 46
            grief 0 19 = 46
            grief 0 20 = 48
            grief 0 21 = IAE
            grief 0 -1 = IAE
            grief 1 21 = IOOBE
            lodger 0 4 = 5
            """);
        // Two who both would be warm: the one who WAITS 0 feeds five times, then the other one in the third TICK.
        String two = "house \"" + lodger("coins 5 bears 0 waits 0;") + lodger("coins 5 bears 0 waits 2;price 10") + "\" = 1\n";
        run(28, two + "grief 0 0 = 28\n grief 1 2 = 19\n grief 1 0 = 17\n");
        run(29, "restless = 0\n house \"" + lodger("coins 2 bears 0 waits 20;price 3;gas 2") + "\" = 1\n restless = 1\n"
            + "waits 0 19 = 20\n restless = 0\n waits 0 0 = 19\n restless = 0\n count 14 = 2\n");
        run(29, two + "restless = 3\n");
        run(30, "saint 0 0 = IOOBE\n" + two + """
            saint 0 0 = 0
            saint 0 1 = 0
            saint 1 0 = 1
            saint 1 1 = 0
            saint 2 0 = IOOBE
            lodger 1 4 = 2
            """);
        // 0 feeds at last, just when the other one comes home; at once, it would be dark again by then.
        run(30, """
            house "lodger burns 1 home 0 to 47 coins 1 waits 9;lodger burns 1 home 10 to 14 coins 0 bears 0;price 10" = 1
            saint 0 0 = 0
            saint 0 1 = 2
            saint 1 1 = 0
            waits 0 0 = 9
            saint 0 1 = 0
            """);
        run(39, "warmer 0 1 = IOOBE\n" + two + """
            warmer 0 0 = IAE
            warmer 0 2 = IOOBE
            warmer 2 2 = IOOBE
            warmer 0 1 = 0
            """);
        // 0 burns much while both are in and 1 bears nothing: with rooms changed 1 bears it, and 0 is out in the dark.
        run(39, """
            house "lodger burns 9 home 0 to 9 coins 0 bears 9;lodger burns 1 home 0 to 0 coins 0 bears 0;gas 10" = 1
            grief 0 2 = 0
            grief 1 2 = 0
            warmer 0 1 = 0
            warmer 1 0 = 0
            """);
        run(39, """
            house "lodger burns 9 home 0 to 19 coins 0 bears 9;lodger burns 1 home 20 to 31 coins 0 bears 0;gas 20" = 1
            grief 0 2 = 9
            grief 1 2 = 10
            warmer 0 1 = 1
            warmer 1 0 = 1
            lodger 0 0 = 9
            """);
    }

    // ---------------------------------------------------------------- promises 31 to 35, 51

    private static void shares() {
        run(31, """
            fair 0 0 = IOOBE
            house "lodger burns 2 home 0 to 47 coins 3;lodger burns 3 home 10 to 20 coins 1;lodger burns 1 home 40 to 5 coins 0" = 1
            fair 0 10 = 7
            fair 1 10 = 3
            fair 2 10 = 0
            fair 0 1 = 1
            fair 1 1 = 0
            fair 0 0 = 0
            fair 0 143 = 96
            fair 1 143 = 33
            fair 2 143 = 14
            fair 0 999 = 671
            fair 1 999 = 231
            fair 2 999 = 97
            fair 0 1000 = IAE
            fair 0 -1 = IAE
            fair 3 1000 = IOOBE
            """);
        run(32, """
            tops 127 = 0
            house "lodger burns 2 home 0 to 47 coins 3;lodger burns 3 home 10 to 20 coins 1;lodger burns 9 home 40 to 5 coins 0" = 1
            tops 0 = 0
            tops 1 = 2
            tops 2 = 3
            tops 3 = 5
            tops 4 = 9
            tops 6 = 9
            tops 7 = 11
            tops -1 = 11
            tops 8 = 0
            tops 15 = 11
            tops -2147483648 = 0
            """);
        run(33, """
            stand 0 = IOOBE
            house "lodger burns 2 home 0 to 47 coins 3;lodger burns 3 home 10 to 20 coins 1;lodger burns 9 home 40 to 5 coins 0" = 1
            stand 0 = 18
            stand 1 = 0
            stand 2 = 54
            stand 3 = IOOBE
            stand -1 = IOOBE
            """);
        // A coin is a TICK by 1, 24 TICKS by 24: the dearer the gas is, the more is fed, and at 1 no less is cold.
        String one = "house \"" + lodger("coins 30 bears 0 waits 0") + "\" = 1\n";
        run(34, "dear 0 = 1\n dear 1 = 1\n" + one + "dear 0 = 1\n dear 1 = 47\n count 6 = 20\n");
        run(34, "house \"" + lodger("coins 30 bears 1 waits 0") + "\" = 1\n dear 1 = 1\n");
        run(34, "house \"" + lodger("coins 5 bears 0 waits 9").replace("burns 1", "burns 6") + "\" = 1\n"
            + "price 99 = 20\n dear 0 = 1\n");
        run(34, "house \"" + lodger("coins 9 bears 0 waits 0;").replace("burns 1", "burns 6") + lodger("coins 0;gas 50")
            + "\" = 1\n law \"refuse if tick<40\" = 1\n dear 0 = 1\n dear 1 = 48\n");
        run(35, one + """
            earns 1 = 24
            earns 2 = 16
            earns 3 = 12
            earns 47 = 1
            earns 99 = 1
            earns 0 = IAE
            earns 100 = IAE
            count 6 = 20
            """);
        run(51, """
            odds 0 0 = 10000
            odds 0 1 = 0
            odds 6 0 = 10000
            odds 6 1 = 0
            odds 7 0 = IAE
            odds 0 7 = IAE
            odds -1 0 = IAE
            odds 0 -1 = IAE
            house "frost 50" = 1
            odds 1 1 = 5000
            odds 2 1 = 7500
            odds 2 2 = 2500
            odds 6 6 = 156
            odds 6 1 = 9843
            odds 6 3 = 6562
            odds 2 3 = 0
            house "frost 10" = 2
            odds 3 1 = 2710
            odds 3 2 = 280
            odds 3 3 = 10
            odds 5 5 = 0
            house "frost 100" = 3
            odds 6 6 = 10000
            odds 5 6 = 0
            """);
    }

    // ---------------------------------------------------------------- promises 36 to 38

    private static final String THREE = "house \"lodger burns 2 home 0 to 47 coins 3;lodger burns 3 home 10 to 20 coins 1;"
        + "lodger burns 1 home 40 to 5 coins 0\" = 1\n";

    private static void clues() {
        String twenty = "5 1 ".repeat(20);
        run(36, "culprit 0 = 0\n culprit 1 = 0\n" + THREE + """
            culprit 0 [] = 73
            culprit 1 [] = 7
            culprit 0 [5 0 7 1] = 2
            culprit 1 [5 0 7 1] = 1
            culprit 0 [5 1 3 0 4 1] = 2
            culprit 1 [5 1 3 0 4 1] = 5
            culprit 0 [0 1] = 2
            culprit 0 [0 0] = 71
            culprit 0 [47 1] = 73
            culprit 0 [47 0] = 0
            culprit 1 [47 0] = 0
            culprit 0 [7 1 7 0] = 0
            culprit 0 [48 1] = IAE
            culprit 0 [1 2] = IAE
            culprit 0 [1] = IAE
            culprit 0 [1 1 2] = IAE
            end 1 = 0
            culprit 0 [255 1] = IAE
            """ + "culprit 0 [" + twenty + "] = 12\n culprit 0 [" + twenty + "5 1] = IAE\n end 1 = 0\n fault = -1\n");
        run(37, "ask = -1\n" + THREE + """
            ask [5 0 7 1] = 6
            ask [5 0 6 1] = -1
            ask [47 0] = -1
            ask [46 0] = 0
            ask [39 0] = 43
            ask [1] = IAE
            ask [48 0] = IAE
            ask [0 2] = IAE
            end 1 = 0
            """);
        run(38, "drawn 0 = 1\n drawn 1 = 0\n drawn 2 = 0\n drawn 3 = NSEE\n" + THREE + """
            drawn 0 [] = 8
            drawn 1 [] = 0
            drawn 2 [] = 0
            drawn 0 [10 5] = 2
            drawn 1 [10 5] = 3
            drawn 2 [10 5] = 3
            drawn 0 [0 3] = 2
            drawn 1 [0 3] = 5
            drawn 2 [0 3] = 5
            drawn 0 [0 3 10 2] = 1
            drawn 0 [0 4] = 0
            drawn 1 [0 4] = 0
            drawn 2 [0 4] = -1
            drawn 0 [30 0] = 4
            drawn 0 [10 63] = 0
            drawn 0 [10 64] = IAE
            drawn 0 [48 1] = IAE
            drawn 3 [48 1] = IAE
            end 1 = 0
            drawn 3 [10 5] = NSEE
            end 1 = 0
            drawn -1 [10 5] = NSEE
            drawn 0 [1] = IAE
            """ + "drawn 0 [" + "0 3 ".repeat(20) + "] = 2\n drawn 0 [" + "0 3 ".repeat(21) + "] = IAE\n");
        // The fewest come ahead of the least.
        run(38, """
            house "lodger burns 1 home 0 to 9 coins 0;lodger burns 1 home 0 to 9 coins 0;lodger burns 2 home 0 to 9 coins 0" = 1
            drawn 2 [0 2] = 4
            drawn 0 [0 2] = 2
            drawn 1 [0 2] = 0
            drawn 2 [0 1] = 1
            """);
    }

    // ---------------------------------------------------------------- promises 40 to 45

    private static void together() {
        run(40, "pairs -1 = 0\n pairs 0 = IOOBE\n" + THREE + """
            pairs -1 = 14
            pairs 0 = 2
            pairs 1 = -1
            pairs 2 = 0
            pairs 3 = IOOBE
            pairs -2 = IOOBE
            """);
        // Of ways that are alike the first one: 0 with 1 and 2 with 3; a pair that shares nothing is none.
        run(40, """
            house "lodger burns 1 home 0 to 9 coins 0;lodger burns 1 home 0 to 9 coins 0;lodger burns 1 home 0 to 9 coins 0" = 1
            pairs -1 = 10
            pairs 0 = -1
            pairs 1 = 2
            pairs 2 = 1
            house "lodger burns 1 home 0 to 9 coins 0" = 2
            pairs -1 = 20
            pairs 0 = 1
            pairs 2 = 3
            home 0 20 29 = 10
            home 1 20 29 = 10
            pairs 0 = 1
            home 1 30 31 = 2
            pairs -1 = 10
            pairs 0 = -1
            pairs 1 = -1
            pairs 3 = 2
            """);
        run(40, """
            house "lodger burns 1 home 0 to 9 coins 0;lodger burns 1 home 5 to 20 coins 0;lodger burns 1 home 16 to 25 coins 0" = 1
            pairs -1 = 5
            pairs 0 = -1
            pairs 1 = 2
            house "lodger burns 1 home 0 to 9 coins 0" = 2
            pairs -1 = 15
            pairs 0 = 3
            pairs 1 = 2
            """);
        run(41, "keepers = 0\n" + THREE + "keepers = 1\n" + """
            home 0 0 5 = 6
            keepers = 6
            home 0 4 9 = 6
            keepers = 7
            home 2 10 20 = 11
            keepers = 3
            home 0 10 20 = 11
            keepers = 1
            """);
        run(42, "kettle 127 = 0\n house \"" + lodger("coins 9;") + lodger("coins 9;") + lodger("coins 9;price 1") + "\" = 1\n" + """
            kettle 7 = 0
            put 0 = 1
            put 1 = 2
            kettle 1 = 0
            kettle 3 = 1
            kettle 4 = 0
            put 0 = 3
            kettle 1 = 1
            kettle 2 = 0
            kettle 6 = 0
            kettle -1 = 1
            kettle 9 = 1
            kettle 8 = 0
            kettle 0 = 0
            """);
        String votes = "house \"" + lodger("coins 9;") + lodger("coins 9;") + lodger("coins 9;") + lodger("coins 9;price 1") + "\" = 1\n"
            + "put 0 = 1\n put 0 = 2\n put 1 = 3\n put 1 = 4\n put 2 = 5\n";
        // 2, 2, 1 and 0 of 5: any two of the first three carry it.
        run(43, "swings 0 = IOOBE\n" + votes + "swings 0 = 4\n swings 1 = 4\n swings 2 = 4\n swings 3 = 0\n swings 4 = IOOBE\n");
        run(44, "minimal = 0\n" + votes + "minimal = 3\n put 0 = 6\n put 0 = 7\n minimal = 1\n");
        run(45, "dummies = 0\n" + votes + "dummies = 8\n put 0 = 6\n put 0 = 7\n dummies = 14\n");
    }

    // ---------------------------------------------------------------- promises 46 to 50

    private static void debts() {
        String four = "house \"" + lodger("coins 3;") + lodger("coins 1;") + lodger("coins 0;") + lodger("coins 5;")
            + "owes 0 1 4;owes 1 0 1;owes 1 2 3\" = 1\n";
        run(46, "net 0 0 = IOOBE\n" + four + """
            net 0 1 = 3
            net 1 0 = 0
            net 1 2 = 3
            net 2 3 = 0
            net 1 1 = IAE
            net 0 4 = IOOBE
            net 4 4 = IOOBE
            """);
        run(47, "debt = 0\n" + four + "debt = 3\n house \"owes 2 0 3\" = 2\n debt = 0\n house \"owes 3 0 9\" = 3\n debt = 9\n");
        run(48, "ring 0 = IOOBE\n" + four + """
            ring 0 = 1
            ring 1 = 1
            ring 2 = 0
            ring 3 = 0
            ring 4 = IOOBE
            house "owes 1 0 0" = 2
            ring 0 = 0
            ring 1 = 0
            house "owes 2 3 1;owes 3 0 1" = 3
            ring 0 = 1
            ring 2 = 1
            ring 3 = 1
            house "owes 3 0 0;owes 3 1 2" = 4
            ring 0 = 0
            ring 1 = 1
            """);
        // Worth: 0 has 3 less 3, 1 has 1 less 3 and 3 more, 2 has 3 more, 3 has 5.
        run(49, "poorest = -1\n" + four + """
            poorest = 0
            house "owes 3 1 9;owes 3 2 1" = 2
            poorest = 3
            house "owes 3 1 0;owes 3 2 0;owes 0 1 5;owes 2 1 4" = 3
            poorest = 0
            house "owes 2 1 5" = 4
            poorest = 2
            """);
        // Going alone brings 4 less, both 2 less, and both staying 0 less CHILL and 1.
        run(50, "rests 0 0 = IOOBE\n house \"" + lodger("coins 0;") + lodger("coins 0;price 6") + "\" = 1\n" + """
            rests 0 0 = IAE
            rests 0 2 = IOOBE
            rests 2 2 = IOOBE
            rests 0 1 = 14
            price 1 = 6
            rests 0 1 = 8
            price 8 = 1
            rests 0 1 = 6
            """);
        // CHILL of 3 and none: -4 and -1 if both stay; going alone brings -4, and then, by no NEEDS, 2 less 4.
        run(50, """
            house "lodger burns 1 home 0 to 47 coins 0;lodger burns 1 home 3 to 3 coins 0;tick 0;price 1" = 1
            ticks 3 = 3
            rests 0 1 = 10
            rests 1 0 = 12
            home 0 10 11 = 2
            home 1 10 11 = 2
            price 2 = 1
            rests 0 1 = 2
            """);
    }

    // ---------------------------------------------------------------- promises 52 to 55

    private static void counts() {
        run(52, "busy = 0\n" + THREE + "busy = 10\n home 1 44 46 = 3\n busy = 44\n home 1 2 3 = 2\n busy = 2\n");
        run(53, "alone = 48\n" + THREE + "alone = 0\n home 0 40 41 = 2\n alone = 23\n");
        run(54, "miser = -1\n house \"" + lodger("coins 3 waits 4;") + lodger("coins 1 waits 7;") + lodger("coins 0 waits 20;")
            + "lodger burns 1 home 9 to 9 coins 9 waits 20;" + lodger("coins 5 waits 7") + "\" = 1\n" + """
            miser = 1
            waits 0 7 = 4
            miser = 0
            house "tick 9" = 2
            miser = 3
            house "tick 8" = 3
            home 0 0 1 = 2
            home 1 0 1 = 2
            home 4 0 1 = 2
            miser = -1
            """);
        run(55, "alike = 0\n house \"" + lodger("coins 3;") + lodger("coins 1;") + lodger("coins 0 bears 3 waits 2") + "\" = 1\n" + """
            alike = 3
            waits 0 3 = 2
            alike = 1
            waits 0 2 = 3
            house "lodger burns 1 home 0 to 9 coins 0 bears 4;lodger burns 2 home 0 to 9 coins 0" = 2
            alike = 3
            house "lodger burns 2 home 0 to 9 coins 0" = 3
            alike = 4
            """);
        run(64, "house \"" + lodger("coins 3 bears 0 waits 0;") + lodger("coins 1 bears 0;gas 1;price 7;frost 3;tick 46;night 5") + "\" = 1\n"
            + """
            law "turn 1;turn 2" = 2
            ticks 3 = 1
            count 0 = 2
            count 1 = 1
            count 2 = 2
            count 3 = 1
            count 4 = 6
            count 5 = 4
            count 6 = 7
            count 7 = 0
            count 8 = 3
            count 9 = 1
            count 10 = 0
            count 11 = 2
            count 12 = 3
            count 13 = 4
            count 14 = 1
            count 15 = -1
            count -1 = -1
            """);
    }

    // ---------------------------------------------------------------- promises 56 to 60

    private static void trialsAndLog() {
        String one = "house \"" + lodger("coins 9 bears 0 waits 0;price 2;frost 39") + "\" = 1\n";
        // By SEED 1 frost comes at the first, third, fourth and sixth TICK: dark, lit, dark (1 of 2), ..
        run(56, "trial 96 0 = 0\n trial 97 0 = IAE\n trial -1 1 = IAE\n" + one + """
            trial 0 0 = 0
            trial 0 1 = 0
            trial 1 0 = 1
            trial 1 1 = 1
            trial 2 0 = 1
            trial 3 0 = 2
            trial 4 0 = 2
            trial 6 0 = 3
            trial 6 1 = 3
            lodger 0 5 = 9
            count 13 = 0
            ticks 6 = 3
            lodger 0 8 = 3
            """ + "seed 1 = " + seedBehind(6, 1) + "\n");
        run(56, "house \"" + lodger("coins 0 bears 0") + "\" = 1\n ticks 2 = 2\n trial 3 1 = 5\n");
        run(57, "span 96 1 = 0\n span 97 1 = IAE\n span -1 0 = IAE\n" + one + """
            span 0 0 = 0
            span 6 0 = 2
            span 6 1 = 3
            seed 9 = 1
            """);
        String two = "house \"" + lodger("coins 2 bears 0 waits 0;") + lodger("coins 1 bears 1 waits 9;price 4;tick 47;night 8") + "\" = 1\n";
        run(58, "led 0 0 = IOOBE\n" + two + """
            led 0 0 = 0
            led 0 1 = -1
            ticks 1 = 1
            led 0 0 = 2
            led 0 1 = 47
            led 1 0 = 0
            led 1 1 = -1
            put 1 = 8
            led 1 0 = 1
            led 1 1 = 0
            led 0 1 = 47
            led 2 0 = IOOBE
            led -1 0 = IOOBE
            """);
        run(59, "log 0 0 = -2\n log 0 5 = NSEE\n log 0 -1 = NSEE\n" + two + """
            ticks 1 = 1
            count 13 = 3
            log 2 0 = 8
            log 2 1 = 47
            log 2 2 = 0
            log 2 3 = -1
            log 2 4 = 0
            log 1 2 = 2
            log 1 3 = 0
            log 1 4 = 0
            log 0 0 = 8
            log 0 1 = 47
            log 0 2 = 1
            log 0 3 = 0
            log 0 4 = 4
            log 3 0 = -2
            log -1 0 = -2
            log -1 5 = NSEE
            put 1 = 8
            log 0 0 = 9
            log 0 1 = 0
            log 0 2 = 1
            log 0 3 = 1
            log 0 4 = 8
            """);
        // COLD for the first time in a row alone; DARK of 1 alone; two of one TICK by their numbers.
        run(59, "house \"" + lodger("coins 0 bears 1;") + lodger("coins 0 bears 1") + "\" = 1\n" + """
            ticks 1 = 1
            count 13 = 1
            ticks 1 = 1
            count 13 = 3
            log 1 3 = 0
            log 0 3 = 1
            ticks 9 = 9
            count 13 = 3
            """);
        // The latest 60 rows.
        run(59, "house \"" + lodger("coins 99 bears 9;price 1;tick 1") + "\" = 1\n" + times(1, "put 0 = 1") + putsFrom(2, 60)
            + "count 13 = 60\n log 59 4 = 1\n put 0 = 61\n count 13 = 60\n log 59 4 = 2\n log 60 4 = -2\n log 0 4 = 61\n led 0 0 = 60\n");
        run(60, """
            seed 7 = 1
            seed -2147483648 = 7
            seed 1 = -2147483648
            count 14 = 0
            ticks 1 = 0
            seed 5 = 1103527590
            ticks 2 = 0
            """ + "seed 0 = " + seedBehind(2, 5) + "\n");
    }

    private static int seedBehind(int draws, int seed) {
        int then = seed;
        for (int i = 0; i < draws; i++) {
            then = then * 1103515245 + 12345;
        }
        return then;
    }

    private static String putsFrom(int first, int last) {
        StringBuilder rows = new StringBuilder();
        for (int g = first; g <= last; g++) {
            rows.append("put 0 = ").append(g).append("\n");
        }
        return rows.toString();
    }

    // ---------------------------------------------------------------- promises 61 to 63

    private static void undoneAndImage() {
        String two = "house \"" + lodger("coins 2 bears 0 waits 0;") + lodger("coins 1 bears 1 waits 9;price 4;owes 1 0 1") + "\" = 1\n";
        run(61, "undo = 0\n" + two + """
            undo = 0
            ticks 5 = 2
            seed 3 = FIVE
            undo = 1
            count 3 = 0
            count 5 = 0
            count 13 = 0
            lodger 0 5 = 2
            lodger 0 7 = 0
            count 10 = -1
            seed 1 = 1
            put 0 = 4
            lend 0 1 = 0
            repay 1 0 = 2
            waits 0 5 = 0
            price 9 = 4
            change 0 1 = 1
            home 0 3 4 = 2
            empty = 1
            count 14 = 8
            undo = 1
            count 9 = 1
            undo = 1
            lodger 0 1 = 0
            undo = 1
            lodger 0 3 = 0
            undo = 1
            count 6 = 4
            undo = 1
            lodger 0 4 = 0
            undo = 1
            owes 1 0 = 2
            lodger 0 5 = 0
            undo = 1
            owes 1 0 = 1
            lodger 0 5 = 1
            undo = 1
            count 5 = 0
            lodger 0 8 = 0
            count 14 = 0
            undo = 0
            """.replace("FIVE", "" + seedBehind(5, 1)));
        // Twelve are remembered; a text and going back forget them, what is wrong does not.
        StringBuilder prices = new StringBuilder();
        for (int i = 1; i <= 13; i++) {
            prices.append("price ").append(i).append(" = ").append(i == 1 ? 20 : i - 1).append("\n");
        }
        run(61, prices + "count 14 = 12\n" + times(12, "undo = 1") + "count 6 = 1\n undo = 0\n" + """
            price 5 = 1
            house "x" = IAE
            law "x" = IAE
            culprit 0 [] = 0
            price 0 = IAE
            put 0 = IOOBE
            seed 4 = 1
            count 14 = 1
            undo = 1
            seed 4 = 1
            price 5 = 1
            house "" = 1
            count 14 = 0
            undo = 0
            price 6 = 5
            law "" = 0
            count 14 = 0
            undo = 0
            image = 0
            price 7 = 6
            back = 1
            undo = 0
            count 6 = 6
            """);
        run(62, two + """
            law "turn 1;turn 2" = 2
            put 0 = 4
            image = 0
            count 14 = 1
            law "refuse" = 1
            house "gas 500;lodger burns 1 home 0 to 1 coins 1" = 2
            seed 9 = 1
            ticks 2 = 0
            image = 0
            ticks 2 = 0
            back = 1
            count 3 = 2
            count 2 = 1
            count 0 = 3
            """);
        run(63, "back = 0\n" + two + """
            law "turn 1;turn 2" = 2
            put 0 = 4
            image = 0
            law "refuse" = 1
            house "gas 500;lodger burns 1 home 0 to 1 coins 1" = 2
            seed 9 = 1
            lend 0 1 = 0
            feed 0 0 0 0 0 = 20
            end 2 = 1
            back = 1
            count 0 = 2
            count 1 = 1
            count 2 = 2
            count 5 = 4
            count 10 = 0
            count 13 = 1
            count 14 = 0
            lodger 0 5 = 1
            owes 1 0 = 1
            seed 1 = 1
            end 2 = 1
            end 3 = 0
            empty = 1
            back = 1
            empty = 1
            undo = 1
            undo = 0
            """);
        run(63, """
            image = 0
            law "refuse" = 1
            back = 1
            count 2 = -1
            """);
    }

    // ---------------------------------------------------------------- edges that are easily missed

    private static void edgesOfTexts() {
        // What was behind the end of the TAPE does not count: "gas 123;", of which five bytes stay.
        run(3, "feed 1734439712 825373499 0 0 0 = 20\n end 5 = 1\n house = 1\n count 5 = 1\n");
        run(4, "house \"" + ";".repeat(400) + "\" = IAE\n fault = 0\n house \"" + " ".repeat(400) + "\" = 1\n"
            + "house \"" + " ".repeat(399) + "x\" = IAE\n fault = 399\n"
            + "house \"" + " ".repeat(396) + "gas \" = IAE\n fault = 400\n");
        String two = "lodger burns 4 home 0 to 47 coins 6;lodger burns 7 home 0 to 47 coins 2";
        run(5, holds(two, new Object[][] {
            {"2<1 and 2>1", 0, 0}, {"2<1 and 2>1 and 2>1", 0, 0}, {"2>1 and 2<1 and 2>1", 0, 0}, {"2>1 or 2<1", 1, 1},
            {"2>1 or 2<1 or 2<1", 1, 1}, {"2<1 or 2>1 or 2<1", 1, 1}, {"2>1 or last", 1, 1}, {"2<1 and not last", 0, 0}, {"not(2<1 and 2>1)and not(2<1)", 1, 1},
            {"(2<1 and 2>1 and 2>1)or(2>1 or 2<1 or 2<1)and lodger>0", 0, 1}, {"1" + "+1".repeat(150) + ">150", 1, 1},
            {"1" + "+1".repeat(150) + ">151", 0, 0}, {"1<0" + "or1<0".repeat(75) + "or 0<1", 1, 1},
            {"1<0" + "or1<0".repeat(75) + "or 1<0", 0, 0}, {"0<1" + "and0<1".repeat(60) + "and lodger<1", 1, 0},
        }));
        // Less LINES than before: none of those stays.
        run(5, "house \"" + two + "\" = 1\n" + """
            law "turn 1;turn 2;refuse" = 3
            lodger 0 9 = 3
            lodger 0 10 = 1
            law "turn 1" = 1
            lodger 0 9 = 1
            lodger 0 10 = 0
            law "turn 1;refuse" = 2
            lodger 0 10 = 1
            law "turn 1" = 1
            lodger 0 10 = 0
            """);
        // DARK is 2, CHILL of the one who came later 1; the one who fed is not cold, the other one is.
        run(5, """
            house "lodger burns 1 home 0 to 47 coins 1 bears 9 waits 1;lodger burns 1 home 1 to 47 coins 0 bears 0" = 1
            ticks 2 = 2
            law "turn 1 if last;turn 2 if cold;turn 4 if chill>1;turn 8 if dark>1;turn 16 if tick>1;turn 32 if fed>0" = 6
            lodger 0 9 = 61
            lodger 1 9 = 26
            """);
    }

    private static void edgesOfTicks() {
        run(14, "house \"" + lodger("coins 1;") + lodger("coins 0;owes 0 1 1") + "\" = 1\n repay 0 1 = 1\n owes 0 1 = 0\n");
        // Frost does not come AHEAD: with it, it would be dark two TICKS sooner, with the other one at home.
        run(23, """
            house "lodger burns 1 home 0 to 2 coins 1 bears 0 waits 0;lodger burns 1 home 3 to 47 coins 1 bears 0 waits 0" = 1
            house "gas 4;frost 100" = 2
            lasts = 5
            out = 5
            feeder = 1
            shiver = 1
            ease 4 = 0
            ease 5 = 1
            coins 4 = 0
            trial 3 0 = 1
            """);
        run(28, "house \"" + lodger("coins 5 bears 0 waits 0;gas 48;frost 100") + "\" = 1\n" + """
            grief 0 0 = 0
            lodger 0 13 = 0
            restless = 0
            earns 20 = 0
            dear 0 = 1
            dear 1 = 1
            after 0 48 1 = 0
            """);
        // What was COLD and FED before does not count.
        run(28, "house \"" + lodger("coins 2 bears 0 waits 0;price 3;gas 2") + "\" = 1\n ticks 3 = 1\n grief 0 0 = 45\n");
        // Feeding never pays for who is gone before it is cold: WAITS until then.
        run(29, "house \"lodger burns 1 home 0 to 19 coins 9 bears 20 waits 0;price 1\" = 1\n restless = 1\n lodger 0 13 = 20\n"
            + "grief 0 19 = 3\n grief 0 20 = 0\n waits 0 19 = 0\n restless = 1\n waits 0 20 = 19\n restless = 0\n");
        run(7, "house \"lodger burns 1 home 0 to 0 coins 9 bears 20 waits 0\" = 1\n lodger 0 13 = 1\n put 0 = 20\n lodger 0 11 = 100\n");
        run(27, "house \"lodger burns 9 home 0 to 47 coins 0 bears 0;price 4\" = 1\n ease 44 = 99\n ease 45 = -1\n");
        // One would be warmer, the other one as it is.
        run(39, """
            house "lodger burns 9 home 0 to 19 coins 0 bears 9;lodger burns 1 home 40 to 41 coins 0 bears 0;gas 20" = 1
            warmer 0 1 = 0
            warmer 1 0 = 0
            """);
        run(39, """
            house "lodger burns 9 home 0 to 19 coins 0 bears 9;lodger burns 1 home 20 to 31 coins 0 bears 0;gas 20;frost 100" = 1
            warmer 0 1 = 1
            """);
        run(34, "house \"lodger burns 3 home 0 to 47 coins 1 bears 0 waits 0\" = 1\n dear 1 = 99\n dear 0 = 1\n");
        // COINS fed from SEED 1 to 6, of these alone: the first or the last is the least or the greatest.
        spans(7, 40, 3, 2, 3);
        spans(15, 80, 5, 4, 5);
        spans(2, 7, 1, 1, 1);
        spans(4, 58, 1, 3, 3);
        spans(6, 59, 9, 1, 2);
        spans(13, 8, 12, 1, 2);
        logBehindImage();
        run(61, "house \"" + lodger("coins 5;") + lodger("coins 5;price 4") + "\" = 1\n" + """
            put 0 = 4
            put 1 = 8
            undo = 1
            count 13 = 1
            log 0 3 = 0
            log 0 4 = 4
            log 1 4 = -2
            put 1 = 8
            log 0 3 = 1
            log 1 3 = 0
            image = 0
            ticks 96 = 76
            back = 1
            count 13 = 2
            log 0 3 = 1
            log 1 3 = 0
            """);
    }

    /** So many rows of THE LOG come behind THE IMAGE that none of its own is left. */
    private static void logBehindImage() {
        run(63, "house \"" + lodger("coins 99;price 1") + "\" = 1\n put 0 = 1\n put 0 = 2\n image = 0\n" + putsFrom(3, 63)
            + "log 59 4 = 4\n back = 1\n count 13 = 2\n log 0 4 = 2\n log 1 4 = 1\n log 2 4 = -2\n");
    }

    private static void spans(int n, int frost, int price, int least, int greatest) {
        run(57, "house \"" + lodger("coins 99 waits 0;frost " + frost + ";price " + price) + "\" = 1\n"
            + "span " + n + " 0 = " + least + "\n span " + n + " 1 = " + greatest + "\n");
    }

    private static void edgesOfSets() {
        run(31, "house \"lodger burns 1 home 3 to 3 coins 0\" = 1\n fair 0 9 = 9\n stand 0 = 100\n");
        // TICK 0, and TICK 1, alone.
        run(32, """
            house "lodger burns 2 home 0 to 0 coins 0" = 1
            tops 1 = 2
            keepers = 1
            busy = 0
            alone = 47
            home 0 1 1 = 1
            busy = 1
            home 0 0 1 = 2
            ask [] = 0
            culprit 0 [0 1] = 1
            home 0 47 47 = 1
            tops 1 = 2
            keepers = 1
            busy = 47
            """);
        run(36, THREE + "culprit 0 [5 0 7 1] = 2\n culprit 0 [] = 73\n drawn 0 [10 5] = 2\n drawn 0 [] = 8\n drawn 1 [0 3 10 2] = 5\n");
        String two = "house \"" + lodger("coins 5;") + lodger("coins 5;price 1") + "\" = 1\n";
        run(43, two + "put 0 = 1\n put 1 = 2\n swings 0 = 1\n swings 1 = 1\n minimal = 1\n dummies = 0\n kettle 3 = 1\n kettle 1 = 0\n");
        run(44, two + "put 1 = 1\n minimal = 1\n swings 0 = 0\n swings 1 = 2\n dummies = 1\n");
        run(50, "house \"lodger burns 1 home 9 to 9 coins 0;lodger burns 1 home 9 to 9 coins 0;price 3\" = 1\n rests 0 1 = 14\n"
            + "price 4 = 3\n rests 0 1 = 6\n");
    }
}
