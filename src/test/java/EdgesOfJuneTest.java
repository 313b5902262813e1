/** Terms of June, lending and the book, promises 18 to 29: each sentence that names a boundary has a test of its own. */
public final class EdgesOfJuneTest {
    // c is worth 50 in June
    private static final String THREE = "thing a 1 5 1;thing b 10 6 1;thing c 100 7 1 spoils 10;"
            + "who p fair 90;who q fair 40;who r fair 0;pair a b 500;pair b c 200;";

    public static void main(String[] args) {
        purseAndWorth();
        pairsAsOftenAsBoth();
        holdersOfABox();
        holdersMakeNoPairs();
        pairsApart();
        lentUpToTwenty();
        lentToAnother();
        broughtBackWhileHeHasIt();
        broughtBackForMore();
        broughtBackNotInTheRecord();
        knownOfSold();
        knownOfSaid();
        heavyWithAllInIt();
        cameBack();
        mostHands();
        greatestPrice();
        wantedByOthers();
        bookOfRows();
        wrongFrom();
        wrongPrice();
        holds();
        june();
        juneNone();
        apart();
        apartNone();
        lend();
        lendNotAsTold();
        lendFull();
        bring();
        bringRefused();
        loan();
        loanNone();
        known();
        knownNone();
        heavy();
        heavyNone();
        came();
        cameNone();
        wanted();
        wantedNone();
        row();
        rowNotAsTold();
        rowFull();
        wrong();
        wrongNone();
        Kit.end();
    }

    private static NailedBoxes three() {
        return Kit.village(THREE);
    }

    /** Filled in order: a thing of somebody's, each as two numbers. */
    private static NailedBoxes three(int... filled) {
        NailedBoxes x = three();
        for (int k = 0; k < filled.length; k += 2) {
            Kit.due("box", x.box(filled[k], filled[k + 1]), k / 2);
        }
        return x;
    }

    // ---- Terms ----

    private static void purseAndWorth() {
        Kit.sentence(0, "IN JUNE each has PURSE, the WORTH of all in the hands of it,");
        NailedBoxes x = three(0, 2, 0, 2, 1, 0, 0, 2);
        x.into(0, 1);
        x.sell(2, 0, 5);
        Kit.toJune(x);
        Kit.due("c in c, c, a", x.june(0), 90 - 5 + 50 + 50 + 50 + 1);
        Kit.due("no BOX", x.june(1), 40 + 5);
        Kit.due("nothing at all", x.june(2), 0);
    }

    private static void pairsAsOftenAsBoth() {
        Kit.sentence(0, "and for each \"pair\" N as often as it has both;");
        NailedBoxes x = three(0, 0, 0, 0, 0, 0, 0, 1, 0, 1, 1, 0, 1, 2, 2, 1);
        x.into(4, 0);
        Kit.toJune(x);
        Kit.due("3 a, 2 b: twice", x.june(0), 90 + 23 + 1000);
        Kit.due("a, c: not once", x.june(1), 40 + 51);
        Kit.due("b alone", x.june(2), 10);
        NailedBoxes y = Kit.village("thing a 0 1 1;thing b 0 1 1;thing c 0 1 1;who p fair 0;pair a b 1;pair b a 999;pair b c 7;");
        y.box(0, 0);
        y.box(0, 1);
        y.box(0, 2);
        Kit.toJune(y);
        Kit.due("told twice; b in both", y.june(0), 1 + 999 + 7);
    }

    private static void holdersOfABox() {
        Kit.sentence(0, "a BOX with HOLDERS (hundredths told of people; its WORTH doesn't count in hands): each its hundredths of its WORTH (cut);");
        NailedBoxes x = three(0, 1, 0, 1, 0, 2);
        Kit.toJune(x);
        Kit.due("without", x.june(0), 90 + 10 + 10 + 50 + 200);
        x.holds(0, 1, 9);
        Kit.due("in the hands of p", x.june(0), 90 + 10 + 50 + 200);
        Kit.due("9 hundredths of 10", x.june(1), 40);
        x.holds(1, 1, 9);
        Kit.due("9 hundredths of 10, and of 10", x.june(1), 40);
        x.holds(0, 1, 19);
        Kit.due("19 of 10", x.june(1), 41);
        x.holds(0, 1, 100);
        Kit.due("100 of 10", x.june(1), 50);
        x.holds(2, 0, 1);
        Kit.due("1 of 50, of which the rest is nobody's", x.june(0), 90);
        x.holds(2, 0, 2);
        Kit.due("2 of 50", x.june(0), 91);
        x.holds(2, 0, 0);
        Kit.due("0 of 50: no HOLDERS", x.june(0), 90 + 50);
        NailedBoxes y = Kit.village("thing a 999 1 1;thing z 0 1 1;who p fair 0;who q fair 0;");
        y.box(0, 0);
        y.box(0, 1);
        y.holds(0, 1, 99);
        y.holds(0, 0, 1);
        y.holds(1, 1, 100);
        Kit.toJune(y);
        Kit.due("1 of 999", y.june(0), 9);
        Kit.due("99 of 999", y.june(1), 989);
    }

    private static void holdersMakeNoPairs() {
        Kit.sentence(0, "its THING makes no pairs.");
        NailedBoxes x = three(0, 0, 0, 1, 1, 0);
        Kit.toJune(x);
        Kit.due("a, b", x.june(0), 90 + 11 + 500);
        x.holds(0, 0, 1);
        Kit.due("not with HOLDERS", x.june(0), 90 + 10);
        x.holds(0, 0, 0);
        x.holds(1, 1, 100);
        Kit.due("not of who has it, either", x.june(0), 90 + 1);
        Kit.due("not of the HOLDER", x.june(1), 40 + 1 + 10);
    }

    private static void pairsApart() {
        Kit.sentence(0, "APART: N of pairs that could be made by all together and aren't in anybody's hands.");
        NailedBoxes x = three(0, 0, 1, 1, 1, 2, 2, 1);
        Kit.toJune(x);
        Kit.due("a b is apart, b c isn't", x.apart(), 500);
        NailedBoxes y = three(0, 0, 1, 0, 2, 1);
        Kit.toJune(y);
        Kit.due("once of one b", y.apart(), 500);
        y.holds(2, 0, 1);
        Kit.due("b with HOLDERS", y.apart(), 0);
        NailedBoxes z = three(0, 0, 1, 0, 2, 1, 2, 1, 0, 2);
        Kit.toJune(z);
        Kit.due("twice, and b c once", z.apart(), 1200);
        NailedBoxes first = three(0, 0, 0, 1, 0, 2);
        Kit.toJune(first);
        Kit.due("all in the hands of the first", first.apart(), 0);
        NailedBoxes none = three();
        Kit.toJune(none);
        Kit.due("no BOXES", none.apart(), 0);
    }

    private static void lentUpToTwenty() {
        Kit.sentence(0, "A BOX may be LENT on ahead of June (up to 20 times in all):");
        NailedBoxes x = three(0, 0, 0, 0);
        for (int k = 0; k < 19; k++) {
            Kit.due("lend " + k, x.lend(0, 1 - k % 2, 1, 0), k);
        }
        for (int k = 0; k < 4; k++) {
            x.month();
        }
        Kit.due("the 20th, of another BOX, in the MONTH ahead of June", x.lend(1, 1, 1, 0), 19);
        Kit.none("the 21st", x.lend(1, 0, 1, 0));
        Kit.due("one BROUGHT BACK", x.bring(19), true);
        Kit.none("gives no room", x.lend(1, 1, 1, 0));
        Kit.due("LENT ones", x.count(13), 20);
        NailedBoxes y = three(0, 0);
        Kit.toJune(y);
        Kit.none("in June", y.lend(0, 1, 1, 0));
    }

    private static void lentToAnother() {
        Kit.sentence(0, "it goes from who has it (outermost) to another one whose PURSE has the coins, which go the other way;");
        NailedBoxes x = three(0, 0, 0, 1);
        x.into(0, 1);
        Kit.none("not the outermost", x.lend(0, 1, 1, 0));
        Kit.none("to who has it", x.lend(1, 0, 1, 0));
        Kit.none("41 of 40", x.lend(1, 1, 41, 0));
        Kit.none("1 of 0", x.lend(1, 2, 1, 0));
        Kit.due("40 of 40", x.lend(1, 1, 40, 0), 0);
        Kit.due("PURSE of p", x.who(0, 1), 130);
        Kit.due("PURSE of q", x.who(1, 1), 0);
        Kit.due("in whose hands is what is in it", x.told(0, 1), 1);
        Kit.due("lent on, by who has it", x.lend(1, 0, 130, 10), 1);
        Kit.due("by whom", x.loan(1, 1), 1);
    }

    private static void broughtBackWhileHeHasIt() {
        Kit.sentence(0, "BROUGHT BACK ahead of June, while that one has it still (outermost),");
        NailedBoxes x = three(0, 0, 0, 1, 1, 0);
        x.lend(0, 1, 10, 0);
        x.lend(0, 0, 10, 0);
        Kit.due("LENT on to the first one", x.bring(0), false);
        Kit.due("that one first", x.bring(1), true);
        x.into(0, 2);
        Kit.due("in a BOX", x.bring(0), false);
        x.lend(1, 1, 5, 0);
        x.into(2, 1);
        Kit.due("with BOXES in it", x.bring(2), true);
        Kit.due("all in it come along", x.told(0, 1), 0);
        x.lend(1, 1, 1, 0);
        x.sell(1, 0, 0);
        Kit.due("SOLD on", x.bring(3), false);
        x.sell(1, 1, 0);
        for (int k = 0; k < 4; k++) {
            x.month();
        }
        Kit.due("has it again, in the MONTH ahead of June", x.bring(3), true);
        x.lend(1, 1, 1, 0);
        x.month();
        Kit.due("in June", x.bring(4), false);
    }

    private static void broughtBackForMore() {
        Kit.sentence(0, "if the first one's PURSE has the coins and what they are more by (tenths of them, cut):");
        int[][] due = {{19, 1, 1}, {9, 1, 0}, {10, 10, 10}, {39, 0, 0}, {15, 5, 7}, {1, 9, 0}, {1, 10, 1}};
        for (int[] d : due) {
            NailedBoxes x = three(0, 0);
            x.lend(0, 1, d[0], d[1]);
            Kit.due("more by, of " + d[0] + " by " + d[1], x.loan(0, 4), d[2]);
            // the others take all but the coins and what they are more by
            x.box(1, 0);
            x.sell(1, 0, 90 - d[2] + 1);
            Kit.due("one is too few of " + d[0] + " by " + d[1], x.bring(0), false);
            NailedBoxes y = three(0, 0);
            y.lend(0, 1, d[0], d[1]);
            y.box(1, 0);
            y.sell(1, 0, 90 - d[2]);
            Kit.due("just as many of " + d[0] + " by " + d[1], y.bring(0), true);
            Kit.due("none is left", y.who(0, 1), 0);
        }
    }

    private static void broughtBackNotInTheRecord() {
        Kit.sentence(0, "it goes back, these the other way; neither is in the record.");
        NailedBoxes x = three(0, 0);
        x.lend(0, 1, 20, 5);
        x.bring(0);
        Kit.due("hands", x.told(0, 1), 0);
        Kit.due("PURSE of p", x.who(0, 1), 80);
        Kit.due("PURSE of q", x.who(1, 1), 50);
        Kit.due("rows", x.count(4), 0);
        Kit.due("hands it went through", x.came(1), 0);
        Kit.none("the greatest price", x.came(2));
    }

    private static void knownOfSold() {
        Kit.sentence(0, "KNOWN in June: of the BOXES filled by somebody that were SOLD the mean WORTH in hundredths (cut); how many;");
        NailedBoxes x = three(0, 0, 0, 1, 0, 1, 0, 2, 1, 2);
        x.sell(0, 1, 1);
        x.sell(0, 0, 1);
        x.sell(1, 1, 1);
        x.lend(3, 1, 1, 1);
        x.sell(2, 1, 0);
        x.sell(4, 0, 1);
        Kit.toJune(x);
        Kit.due("1, 10, 10: 7 and no third of it", x.known(0, 0), 700);
        Kit.due("SOLD twice counts once", x.known(0, 1), 3);
        Kit.due("50 in June", x.known(1, 0), 5000);
        Kit.due("one", x.known(1, 1), 1);
        Kit.none("none", x.known(2, 0));
        Kit.due("none", x.known(2, 1), 0);
        NailedBoxes y = three(0, 0, 0, 0, 0, 1);
        for (int k = 0; k < 3; k++) {
            y.sell(k, 1, 0);
        }
        y.box(0, 1);
        y.box(0, 0);
        y.box(0, 0);
        y.box(0, 0);
        y.sell(3, 1, 0);
        y.sell(4, 1, 0);
        y.sell(5, 1, 0);
        Kit.toJune(y);
        Kit.due("24 by 6", y.known(0, 0), 400);
        NailedBoxes z = three(0, 0, 0, 0, 0, 1);
        z.box(0, 0);
        z.box(0, 0);
        z.box(0, 0);
        z.box(0, 0);
        for (int k = 0; k < 7; k++) {
            z.sell(k, 1, 0);
        }
        Kit.toJune(z);
        Kit.due("16 by 7, cut", z.known(0, 0), 228);
    }

    private static void knownOfSaid() {
        Kit.sentence(0, "of what was SAID by somebody how much was so, and wasn't.");
        NailedBoxes x = three(0, 0, 0, 1);
        x.say(0, 0);
        x.say(0, 0);
        x.say(1, 0);
        x.sell(0, 1, 0);
        x.say(0, 0);
        x.say(0, 1);
        x.say(0, 2);
        Kit.toJune(x);
        Kit.due("so, by p", x.known(0, 2), 2);
        Kit.due("not so, by p", x.known(0, 3), 1);
        Kit.due("so, by q who didn't fill it", x.known(1, 2), 1);
        Kit.due("not so, by q", x.known(1, 3), 2);
        Kit.due("so, by r", x.known(2, 2), 0);
        Kit.due("not so, by r", x.known(2, 3), 0);
    }

    private static void heavyWithAllInIt() {
        Kit.sentence(0, "HEAVY in June: the WEIGHT of a BOX's THING and of all in it.");
        NailedBoxes x = Kit.village("thing a 1 99 1;thing b 1 1 1;thing c 1 0 1;who p fair 0;who q fair 0;");
        for (int k = 0; k < 37; k++) {
            x.box(0, 0);
        }
        x.box(0, 1);
        x.box(0, 2);
        x.box(0, 2);
        for (int k = 0; k < 38; k++) {
            x.into(k, k + 1);
        }
        Kit.toJune(x);
        Kit.due("nothing in it", x.heavy(0), 99);
        Kit.due("36 in it", x.heavy(36), 37 * 99);
        Kit.due("37 in it", x.heavy(37), 37 * 99 + 1);
        Kit.due("38 in it, itself 0", x.heavy(38), 37 * 99 + 1);
        Kit.due("of nothing, in nothing", x.heavy(39), 0);
    }

    private static void cameBack() {
        Kit.sentence(0, "CAME BACK: BOXES that were SOLD and are in the hands of who filled them;");
        NailedBoxes x = three(0, 0, 0, 1, 1, 0);
        Kit.due("never SOLD", x.came(0), 0);
        x.sell(0, 1, 0);
        Kit.due("SOLD and away", x.came(0), 0);
        x.lend(1, 1, 1, 0);
        x.lend(1, 0, 1, 0);
        Kit.due("LENT and back", x.came(0), 0);
        x.into(0, 2);
        x.sell(2, 0, 0);
        Kit.due("back in a BOX that isn't", x.came(0), 1);
        x.sell(2, 1, 0);
        Kit.due("both away, one back", x.came(0), 1);
        x.sell(1, 1, 0);
        x.lend(1, 0, 1, 0);
        Kit.due("SOLD, LENT back", x.came(0), 2);
    }

    private static void mostHands() {
        Kit.sentence(0, "the most hands a BOX went through (each SOLD one);");
        NailedBoxes x = three(0, 0, 0, 1);
        Kit.due("none", x.came(1), 0);
        x.say(0, 0);
        x.lend(0, 1, 1, 0);
        Kit.due("SAID, LENT", x.came(1), 0);
        x.sell(0, 2, 0);
        Kit.due("one", x.came(1), 1);
        x.sell(1, 2, 0);
        x.sell(0, 1, 0);
        x.sell(0, 2, 0);
        Kit.due("three of 0, one of 1", x.came(1), 3);
    }

    private static void greatestPrice() {
        Kit.sentence(0, "the greatest price.");
        NailedBoxes x = three(0, 0, 0, 1);
        x.say(0, 2);
        x.sign(0, 0, 99);
        x.lend(0, 1, 40, 0);
        Kit.none("none was SOLD", x.came(2));
        x.sell(0, 2, 0);
        Kit.due("0", x.came(2), 0);
        x.sell(1, 1, 0);
        x.sell(0, 0, 90);
        x.sell(0, 2, 89);
        Kit.due("neither the first nor the last", x.came(2), 90);
    }

    private static void wantedByOthers() {
        Kit.sentence(0, "WANTED in June: of those who haven't a BOX (without HOLDERS) in hands the one whose pairs would bring the most more with it");
        NailedBoxes x = three(0, 1, 1, 0, 2, 2, 2, 1);
        Kit.toJune(x);
        Kit.due("b of p: q makes a pair of 500, r has one b for its c", x.wanted(0, 0), 1);
        Kit.due("how much", x.wanted(0, 1), 500);
        Kit.due("b of r: q again", x.wanted(3, 0), 1);
        Kit.due("a of q: p and r as much", x.wanted(1, 0), 0);
        Kit.due("c of r: p alone", x.wanted(2, 0), 0);
        Kit.due("how much", x.wanted(2, 1), 200);
        x.holds(1, 0, 1);
        Kit.none("q's a has HOLDERS", x.wanted(0, 0));
        Kit.none("a has HOLDERS", x.wanted(1, 0));
        Kit.sentence(0, "(above 0; of several the least).");
        NailedBoxes y = Kit.village("thing a 0 1 1;thing b 0 1 1;who p fair 0;who q fair 0;who r fair 0;pair a b 1;");
        y.box(0, 0);
        y.box(2, 1);
        Kit.toJune(y);
        Kit.due("by r for 1", y.wanted(0, 0), 2);
        Kit.due("1", y.wanted(0, 1), 1);
        NailedBoxes z = Kit.village("thing a 0 1 1;thing b 0 1 1;who p fair 0;who q fair 0;who r fair 0;pair a b 1;");
        z.box(1, 0);
        z.box(0, 1);
        z.box(2, 1);
        z.box(1, 1);
        Kit.toJune(z);
        Kit.due("of p and r the least", z.wanted(0, 0), 0);
        Kit.none("who makes no pair more", z.wanted(1, 0));
        Kit.none("who makes no pair more", z.wanted(1, 1));
    }

    private static void bookOfRows() {
        Kit.sentence(0, "A BOOK of rows, up to 40: a BOX, from whom, to whom, a price: beginning with who filled each, and the village's PURSES.");
        NailedBoxes x = three(0, 0, 1, 1);
        x.sell(0, 1, 40);
        x.sell(1, 0, 90);
        for (int k = 0; k < 38; k++) {
            x.row(0, k % 2, 1 - k % 2, 0);
        }
        // p has a as filled and q has 40 as told, whatever was SOLD
        Kit.due("the 39th", x.row(0, 0, 1, 40), 39);
        Kit.due("the 40th", x.row(1, 1, 0, 90), 40);
        Kit.none("the 41st", x.row(0, 0, 1, 0));
        Kit.none("all had it", x.wrong(0));
        Kit.none("none paid too much", x.wrong(1));
        Kit.due("BOOK", x.count(6), 40);
        Kit.due("the hands are as SOLD", x.told(0, 1), 1);
        Kit.due("the PURSES are as SOLD", x.who(1, 1), 90);
    }

    private static void wrongFrom() {
        Kit.sentence(0, "WRONG: the first row in which it's from one who hasn't it then (0; such a row does nothing),");
        NailedBoxes x = three(0, 0, 1, 1);
        x.row(0, 0, 1, 0);
        x.row(1, 0, 2, 0);
        x.row(1, 2, 0, 0);
        x.row(0, 0, 1, 0);
        Kit.due("the first", x.wrong(0), 1);
        NailedBoxes y = three(0, 0);
        // 9999 is too much for any, but of a row that does nothing
        y.row(0, 1, 2, 9999);
        y.row(0, 0, 1, 40);
        Kit.due("the very first", y.wrong(0), 0);
        Kit.none("nothing is paid by it", y.wrong(1));
        y.row(0, 2, 0, 0);
        y.row(0, 1, 0, 130);
        Kit.none("nothing goes by it", y.wrong(1));
        y.row(0, 0, 1, 130);
        Kit.none("p had 130 again", y.wrong(1));
        Kit.due("still the first", y.wrong(0), 0);
    }

    private static void wrongPrice() {
        Kit.sentence(0, "the first of the others in which who gets it pays more than it has then (1; that row is paid all the same).");
        NailedBoxes x = three(0, 0);
        x.row(0, 0, 1, 40);
        Kit.none("40 of 40", x.wrong(1));
        x.row(0, 1, 0, 131);
        Kit.due("131 of 130", x.wrong(1), 1);
        NailedBoxes y = three(0, 0, 0, 1);
        y.row(0, 0, 2, 9999);
        y.row(0, 2, 0, 9999);
        Kit.due("9999 of 0", y.wrong(1), 0);
        Kit.none("it went there", y.wrong(0));
        NailedBoxes less = three(0, 0, 0, 1);
        less.row(0, 0, 1, 40);
        less.row(1, 0, 1, 0);
        Kit.none("0 of the 0 that are left", less.wrong(1));
        less.row(1, 1, 0, 130);
        less.row(1, 0, 1, 131);
        Kit.due("131 of 130", less.wrong(1), 3);
        NailedBoxes left = three(0, 0, 0, 1);
        left.row(0, 0, 1, 40);
        left.row(1, 0, 1, 1);
        Kit.due("1 of the 0 that are left", left.wrong(1), 1);
        NailedBoxes z = three(0, 0, 1, 1);
        z.row(0, 0, 1, 41);
        z.row(0, 1, 0, 131);
        z.row(1, 1, 2, 0);
        z.row(1, 2, 1, 130);
        z.row(1, 1, 0, 1);
        Kit.due("the first", z.wrong(1), 0);
        Kit.none("each had it", z.wrong(0));
    }

    // ---- promises 18 to 20 ----

    private static void holds() {
        Kit.sentence(18, "HOLDERS of a BOX: somebody's hundredths (0 to 100; told again: the last; together not above 100): true;");
        NailedBoxes x = three(0, 2, 0, 2);
        Kit.due("0", x.holds(0, 0, 0), true);
        Kit.due("100", x.holds(0, 0, 100), true);
        Kit.due("100 again", x.holds(0, 0, 100), true);
        Kit.due("0 of another", x.holds(0, 1, 0), true);
        Kit.due("of another BOX", x.holds(1, 1, 100), true);
        Kit.due("told again", x.holds(0, 0, 40), true);
        Kit.due("together 100", x.holds(0, 2, 60), true);
        Kit.due("of a BOX of another's", x.holds(0, 2, 59), true);
        Kit.due("together 100", x.holds(0, 1, 1), true);
        Kit.toJune(x);
        Kit.due("40 of 50", x.june(0), 90 + 20);
        Kit.due("1 of 50, and all of 50", x.june(1), 40 + 50);
        Kit.due("59 of 50", x.june(2), 29);
        Kit.due("in June, too", x.holds(0, 2, 2), true);
        Kit.due("the last", x.june(2), 1);
        Kit.refused("holds()", x, 0, 0, 0);
        Kit.sentence(18, "false, doing nothing but REFUSED: not as told.");
        x.holds(0, 2, 59);
        Refusals refused = new Refusals(x, 0);
        refused.no("101", x.holds(0, 0, 101));
        refused.no("together 101", x.holds(0, 0, 41));
        refused.no("together 101", x.holds(0, 1, 2));
        refused.no("no such BOX", x.holds(2, 0, 1));
        refused.no("nobody", x.holds(0, 3, 0));
        for (int never : Kit.NEVER) {
            refused.no("holds(" + never + ", 0, 1)", x.holds(never, 0, 1));
            refused.no("holds(0, " + never + ", 0)", x.holds(0, never, 0));
            refused.no("holds(0, 0, " + never + ")", x.holds(0, 0, never));
        }
        refused.end();
    }

    private static void june() {
        Kit.sentence(19, "What somebody has IN JUNE.");
        NailedBoxes x = three(0, 0, 0, 1, 0, 2);
        x.holds(2, 1, 50);
        Kit.toJune(x);
        Kit.due("PURSE, WORTH, a pair", x.june(0), 90 + 11 + 500);
        Kit.due("PURSE and half of a BOX", x.june(1), 40 + 25);
        Kit.due("nothing", x.june(2), 0);
    }

    private static void juneNone() {
        Kit.sentence(19, "NONE: none such, it isn't June.");
        NailedBoxes x = three(0, 0);
        for (int month = 0; month < 5; month++) {
            Kit.none("in MONTH " + month, x.june(0));
            x.month();
        }
        Kit.due("in June", x.june(0), 91);
        Kit.none("june(3)", x.june(3));
        for (int never : Kit.NEVER) {
            Kit.none("june(" + never + ")", x.june(never));
        }
        Kit.refused("asking", x, 0, 0, 0);
    }

    private static void apart() {
        Kit.sentence(20, "APART.");
        NailedBoxes x = three(0, 0, 1, 1);
        Kit.toJune(x);
        Kit.due("apart()", x.apart(), 500);
    }

    private static void apartNone() {
        Kit.sentence(20, "NONE: it isn't June.");
        NailedBoxes x = three(0, 0, 1, 1);
        for (int month = 0; month < 5; month++) {
            Kit.none("in MONTH " + month, x.apart());
            x.month();
        }
        Kit.due("in June", x.apart(), 500);
        Kit.none("of a new object", new NailedBoxes().apart());
        Kit.refused("asking", x, 0, 0, 0);
    }

    // ---- promises 21 to 23 ----

    private static void lend() {
        Kit.sentence(21, "A BOX is LENT on (coins 1 to 9,999, tenths 0 to 10): the number.");
        NailedBoxes x = Kit.village("thing a 1 1 1;who p fair 9999;who q fair 9999;who r fair 2;");
        x.box(0, 0);
        Kit.due("9999 by 10", x.lend(0, 1, 9999, 10), 0);
        Kit.due("more by", x.loan(0, 4), 9999);
        Kit.due("1 by 0", x.lend(0, 2, 1, 0), 1);
        Kit.due("more by", x.loan(1, 4), 0);
        Kit.refused("lend()", x, 0, 0, 0);
        Kit.due("PURSE", x.who(0, 1), 19998);
        Kit.none("10000 of 19998", x.lend(0, 0, 10000, 0));
        Kit.due("9999 of 19998", x.lend(0, 0, 9999, 1), 2);
        Kit.due("more by", x.loan(2, 4), 999);
    }

    private static void lendNotAsTold() {
        Kit.sentence(21, "NONE, doing nothing but REFUSED: not as told,");
        NailedBoxes x = three(0, 0, 0, 1);
        x.into(0, 1);
        Refusals refused = new Refusals(x, 0);
        refused.none("coins 0", x.lend(1, 1, 0, 0));
        refused.none("tenths 11", x.lend(1, 1, 1, 11));
        refused.none("more than the PURSE has", x.lend(1, 1, 41, 0));
        refused.none("no such BOX", x.lend(2, 1, 1, 0));
        refused.none("to nobody", x.lend(1, 3, 1, 0));
        refused.none("to who has it", x.lend(1, 0, 1, 0));
        refused.none("not the outermost", x.lend(0, 1, 1, 0));
        for (int never : Kit.NEVER) {
            refused.none("lend(" + never + ", 1, 1, 0)", x.lend(never, 1, 1, 0));
            refused.none("lend(1, " + never + ", 1, 0)", x.lend(1, never, 1, 0));
            refused.none("lend(1, 1, " + never + ", 0)", x.lend(1, 1, never, 0));
            refused.none("lend(1, 1, 1, " + never + ")", x.lend(1, 1, 1, never));
        }
        refused.end();
        Kit.toJune(x);
        Refusals inJune = new Refusals(x, 0);
        inJune.none("in June", x.lend(1, 1, 1, 0));
        inJune.end();
    }

    private static void lendFull() {
        Kit.sentence(21, "20 were.");
        NailedBoxes x = three(0, 0);
        for (int k = 0; k < 20; k++) {
            x.lend(0, 1 - k % 2, 1, 0);
        }
        Refusals refused = new Refusals(x, 1);
        refused.none("the 21st", x.lend(0, 1, 1, 0));
        refused.end();
        Kit.none("the 21st, not as told", x.lend(0, 0, 1, 0));
        Kit.refused("the 21st, not as told", x, 1, 1, 0);
    }

    private static void bring() {
        Kit.sentence(22, "It's BROUGHT BACK: true;");
        NailedBoxes x = three(0, 0);
        x.lend(0, 1, 10, 10);
        Kit.due("bring()", x.bring(0), true);
        Kit.due("whether it was", x.loan(0, 5), 1);
        Kit.refused("bring()", x, 0, 0, 0);
    }

    private static void bringRefused() {
        Kit.sentence(22, "false, doing nothing but REFUSED: none such,");
        NailedBoxes x = three(0, 0, 0, 1, 1, 1);
        x.lend(0, 1, 10, 10);
        Refusals none = new Refusals(x, 0);
        none.no("bring(1)", x.bring(1));
        for (int never : Kit.NEVER) {
            none.no("bring(" + never + ")", x.bring(never));
        }
        none.end();
        Kit.sentence(22, "it was,");
        x.bring(0);
        Refusals was = new Refusals(x, 0);
        was.no("twice", x.bring(0));
        was.end();
        x.sell(0, 1, 1);
        Kit.due("twice, though that one has it again", x.bring(0), false);
        Kit.sentence(22, "it can't be.");
        NailedBoxes y = three(0, 0, 1, 1);
        y.lend(0, 1, 10, 10);
        y.sell(1, 0, 81);
        Refusals few = new Refusals(y, 0);
        few.no("19 of 20", y.bring(0));
        few.end();
        NailedBoxes z = three(0, 0, 1, 1);
        z.lend(0, 1, 10, 10);
        z.into(0, 1);
        Refusals inBox = new Refusals(z, 0);
        inBox.no("in a BOX", z.bring(0));
        inBox.end();
        NailedBoxes u = three(0, 0);
        u.lend(0, 1, 10, 10);
        Kit.toJune(u);
        Refusals inJune = new Refusals(u, 0);
        inJune.no("in June", u.bring(0));
        inJune.end();
    }

    private static void loan() {
        Kit.sentence(23, "Of a LENT one: 0 BOX, 1 who lent it, 2 to whom, 3 coins, 4 what they are more by, 5 whether it was BROUGHT BACK (1).");
        NailedBoxes x = three(0, 0, 1, 1);
        x.lend(1, 0, 33, 5);
        int[] due = {1, 1, 0, 33, 16, 0};
        for (int what = 0; what < 6; what++) {
            Kit.due("loan(0, " + what + ")", x.loan(0, what), due[what]);
        }
        x.bring(0);
        Kit.due("BROUGHT BACK", x.loan(0, 5), 1);
        Kit.due("coins still", x.loan(0, 3), 33);
    }

    private static void loanNone() {
        Kit.sentence(23, "NONE: none such.");
        NailedBoxes x = three(0, 0);
        Kit.none("none yet", x.loan(0, 0));
        x.lend(0, 1, 1, 0);
        Kit.none("loan(1, 0)", x.loan(1, 0));
        Kit.none("loan(0, 6)", x.loan(0, 6));
        for (int never : Kit.NEVER) {
            Kit.none("loan(" + never + ", 0)", x.loan(never, 0));
            Kit.none("loan(0, " + never + ")", x.loan(0, never));
        }
        Kit.refused("asking", x, 0, 0, 0);
    }

    // ---- promises 24 to 27 ----

    private static void known() {
        Kit.sentence(24, "KNOWN: 0 the mean (NONE: none was SOLD), 1 how many, 2 SAID and so, 3 SAID and not so.");
        NailedBoxes x = three(0, 0, 1, 1);
        x.say(0, 0);
        x.sell(0, 1, 0);
        x.say(1, 2);
        Kit.toJune(x);
        int[][] due = {{100, 1, 1, 0}, {-1, 0, 0, 1}, {-1, 0, 0, 0}};
        for (int who = 0; who < 3; who++) {
            for (int what = 0; what < 4; what++) {
                Kit.due("known(" + who + ", " + what + ")", x.known(who, what), due[who][what]);
            }
        }
    }

    private static void knownNone() {
        Kit.sentence(24, "NONE: none such, it isn't June.");
        NailedBoxes x = three(0, 0);
        x.sell(0, 1, 0);
        for (int month = 0; month < 5; month++) {
            for (int what = 0; what < 4; what++) {
                Kit.none("known(0, " + what + ") in MONTH " + month, x.known(0, what));
            }
            x.month();
        }
        Kit.due("in June", x.known(0, 1), 1);
        Kit.none("known(3, 1)", x.known(3, 1));
        Kit.none("known(0, 4)", x.known(0, 4));
        for (int never : Kit.NEVER) {
            Kit.none("known(" + never + ", 1)", x.known(never, 1));
            Kit.none("known(0, " + never + ")", x.known(0, never));
        }
        Kit.refused("asking", x, 0, 0, 0);
    }

    private static void heavy() {
        Kit.sentence(25, "HEAVY.");
        NailedBoxes x = three(0, 0, 0, 1, 0, 2);
        x.into(0, 1);
        x.into(2, 1);
        Kit.toJune(x);
        Kit.due("two in it", x.heavy(1), 18);
        Kit.due("in it", x.heavy(2), 7);
    }

    private static void heavyNone() {
        Kit.sentence(25, "NONE: none such, it isn't June.");
        NailedBoxes x = three(0, 0);
        for (int month = 0; month < 5; month++) {
            Kit.none("in MONTH " + month, x.heavy(0));
            x.month();
        }
        Kit.due("in June", x.heavy(0), 5);
        Kit.none("heavy(1)", x.heavy(1));
        for (int never : Kit.NEVER) {
            Kit.none("heavy(" + never + ")", x.heavy(never));
        }
        Kit.refused("asking", x, 0, 0, 0);
    }

    private static void came() {
        Kit.sentence(26, "CAME BACK: how many (what 0), the most hands (1), the greatest price (2; NONE: none was SOLD).");
        NailedBoxes x = new NailedBoxes();
        Kit.due("of a new object, how many", x.came(0), 0);
        Kit.due("of a new object, hands", x.came(1), 0);
        Kit.none("of a new object, price", x.came(2));
        NailedBoxes y = three(0, 0);
        Kit.none("none was SOLD", y.came(2));
        y.sell(0, 1, 7);
        y.sell(0, 0, 3);
        Kit.due("how many, ahead of June", y.came(0), 1);
        Kit.due("hands", y.came(1), 2);
        Kit.due("price", y.came(2), 7);
        Kit.toJune(y);
        Kit.due("in June", y.came(0), 1);
    }

    private static void cameNone() {
        Kit.sentence(26, "NONE: none such.");
        NailedBoxes x = three(0, 0);
        x.sell(0, 1, 7);
        Kit.none("came(3)", x.came(3));
        for (int never : Kit.NEVER) {
            Kit.none("came(" + never + ")", x.came(never));
        }
        Kit.refused("asking", x, 0, 0, 0);
    }

    private static void wanted() {
        Kit.sentence(27, "WANTED: by whom (what 0), how much (1).");
        NailedBoxes x = three(0, 0, 2, 1);
        Kit.toJune(x);
        Kit.due("by whom", x.wanted(0, 0), 2);
        Kit.due("how much", x.wanted(0, 1), 500);
        Kit.due("by whom", x.wanted(1, 0), 0);
    }

    private static void wantedNone() {
        Kit.sentence(27, "NONE: none such, a BOX with HOLDERS, by nobody, it isn't June.");
        NailedBoxes x = three(0, 0, 1, 1, 0, 2);
        for (int month = 0; month < 5; month++) {
            Kit.none("in MONTH " + month, x.wanted(0, 0));
            Kit.none("in MONTH " + month, x.wanted(0, 1));
            x.month();
        }
        Kit.due("in June", x.wanted(0, 0), 1);
        Kit.none("wanted(3, 0)", x.wanted(3, 0));
        Kit.none("wanted(0, 2)", x.wanted(0, 2));
        for (int never : Kit.NEVER) {
            Kit.none("wanted(" + never + ", 0)", x.wanted(never, 0));
            Kit.none("wanted(0, " + never + ")", x.wanted(0, never));
        }
        x.holds(0, 2, 1);
        Kit.none("with HOLDERS, by whom", x.wanted(0, 0));
        Kit.none("with HOLDERS, how much", x.wanted(0, 1));
        x.holds(1, 2, 1);
        Kit.none("by nobody", x.wanted(2, 0));
        Kit.none("by nobody, how much", x.wanted(2, 1));
        Kit.refused("asking", x, 0, 0, 0);
    }

    // ---- promises 28 and 29 ----

    private static void row() {
        Kit.sentence(28, "A row of the BOOK: how many.");
        NailedBoxes x = three(0, 0);
        Kit.due("the first", x.row(0, 0, 1, 0), 1);
        Kit.due("one from who hasn't it", x.row(0, 2, 0, 9999), 2);
        Kit.toJune(x);
        Kit.due("in June", x.row(0, 0, 1, 0), 3);
        Kit.due("BOOK", x.count(6), 3);
        Kit.refused("row()", x, 0, 0, 0);
    }

    private static void rowNotAsTold() {
        Kit.sentence(28, "NONE, doing nothing but REFUSED: not as told (people unlike, price 0 to 9,999),");
        NailedBoxes x = three(0, 0);
        x.row(0, 0, 1, 9999);
        Refusals refused = new Refusals(x, 0);
        refused.none("people alike", x.row(0, 1, 1, 0));
        refused.none("10000", x.row(0, 1, 0, 10000));
        refused.none("no such BOX", x.row(1, 1, 0, 0));
        refused.none("from nobody", x.row(0, 3, 0, 0));
        refused.none("to nobody", x.row(0, 1, 3, 0));
        for (int never : Kit.NEVER) {
            refused.none("row(" + never + ", 1, 0, 0)", x.row(never, 1, 0, 0));
            refused.none("row(0, " + never + ", 0, 0)", x.row(0, never, 0, 0));
            refused.none("row(0, 1, " + never + ", 0)", x.row(0, 1, never, 0));
            refused.none("row(0, 1, 0, " + never + ")", x.row(0, 1, 0, never));
        }
        refused.end();
    }

    private static void rowFull() {
        Kit.sentence(28, "40 are there.");
        NailedBoxes x = three(0, 0);
        for (int k = 0; k < 40; k++) {
            x.row(0, 0, 1, 0);
        }
        Refusals refused = new Refusals(x, 1);
        refused.none("the 41st", x.row(0, 0, 1, 0));
        refused.end();
        Kit.none("the 41st, not as told", x.row(0, 0, 0, 0));
        Kit.refused("the 41st, not as told", x, 1, 1, 0);
    }

    private static void wrong() {
        Kit.sentence(29, "WRONG: who hadn't it (what 0), who paid too much (1).");
        NailedBoxes x = three(0, 0);
        x.row(0, 0, 1, 41);
        x.row(0, 0, 1, 0);
        Kit.due("who hadn't it", x.wrong(0), 1);
        Kit.due("who paid too much", x.wrong(1), 0);
    }

    private static void wrongNone() {
        Kit.sentence(29, "NONE: no such row, none such.");
        NailedBoxes x = three(0, 0);
        Kit.none("an empty BOOK", x.wrong(0));
        Kit.none("an empty BOOK", x.wrong(1));
        x.row(0, 0, 1, 40);
        Kit.none("all had it", x.wrong(0));
        Kit.none("none paid too much", x.wrong(1));
        x.row(0, 0, 1, 41);
        x.row(0, 1, 0, 131);
        Kit.none("wrong(2)", x.wrong(2));
        for (int never : Kit.NEVER) {
            Kit.none("wrong(" + never + ")", x.wrong(never));
        }
        Kit.refused("asking", x, 0, 0, 0);
    }
}
