/** Terms of boxes and their records, promises 7 to 15: each sentence that names a boundary has a test of its own. */
public final class EdgesOfBoxesTest {
    // p has no SHARE of c; r has no coins
    private static final String THREE = "thing a 100 10 1;thing b 50 20 2;thing c 7 30 3;"
            + "who p fair 100;who q name 50;who r lemon 0;fills p 1 a,3 b;";

    public static void main(String[] args) {
        upToForty();
        filledWithAShare();
        inSomebodysHands();
        soldTheOutermost();
        soldForAPrice();
        soldAheadOfJune();
        fromPurseToPurse();
        whoKnows();
        saidByWhoHasIt();
        readings();
        inOrder();
        threeHundredInAll();
        box();
        boxOfNone();
        boxWithoutShare();
        boxInJune();
        boxFortyOne();
        into();
        intoOutermost();
        intoInOnesHands();
        intoItself();
        intoInJune();
        intoNotAsTold();
        month();
        monthInJune();
        monthOfNone();
        sell();
        sellNotAsTold();
        sellFull();
        say();
        sayNoneSuch();
        sayFull();
        sign();
        signNotAsTold();
        signFull();
        open();
        openNoneSuch();
        openInJune();
        told();
        toldNone();
        record();
        recordNone();
        Kit.end();
    }

    private static NailedBoxes three() {
        return Kit.village(THREE);
    }

    // ---- Terms ----

    private static void upToForty() {
        Kit.sentence(0, "BOXES, up to 40:");
        NailedBoxes x = three();
        for (int k = 0; k < 40; k++) {
            Kit.due("box " + k, x.box(k % 3, 1), k);
        }
        Kit.none("the 41st", x.box(0, 1));
        Kit.due("BOXES", x.count(3), 40);
        Kit.due("who filled the last", x.told(39, 0), 0);
        Kit.none("there is no 41st", x.told(40, 0));
    }

    private static void filledWithAShare() {
        Kit.sentence(0, "each filled by one of the PEOPLE with a THING of which it has a SHARE;");
        NailedBoxes x = three();
        Kit.due("p with b", x.box(0, 1), 0);
        Kit.none("p with c", x.box(0, 2));
        Kit.due("q with c", x.box(1, 2), 1);
        Kit.toJune(x);
        Kit.due("the THING", x.told(0, 4), 1);
        Kit.due("the THING", x.told(1, 4), 2);
    }

    /** All forty, each in the next. */
    private static void inSomebodysHands() {
        Kit.sentence(0, "in somebody's hands (at first those of who filled it), or in another BOX (then in the hands of whom the outermost is).");
        NailedBoxes x = three();
        for (int k = 0; k < 40; k++) {
            x.box(1, 1);
        }
        Kit.due("hands of who filled it", x.told(0, 1), 1);
        Kit.none("in no BOX", x.told(0, 2));
        for (int k = 0; k < 39; k++) {
            Kit.due("into the next", x.into(k, k + 1), true);
        }
        x.sell(39, 2, 0);
        for (int k = 0; k < 40; k++) {
            Kit.due("hands of " + k, x.told(k, 1), 2);
            Kit.due("in which is " + k, x.told(k, 2), k == 39 ? -1 : k + 1);
        }
        Kit.due("all of them", x.who(2, 2), 40);
        Kit.due("none", x.who(1, 2), 0);
    }

    private static void soldTheOutermost() {
        Kit.sentence(0, "the outermost alone, to another one whose PURSE has the price (0 to 9,999):");
        NailedBoxes x = three();
        x.box(0, 0);
        x.box(0, 1);
        x.box(0, 1);
        x.into(0, 1);
        x.into(1, 2);
        Kit.due("the innermost", x.sell(0, 1, 1), false);
        Kit.due("the middle one", x.sell(1, 1, 1), false);
        Kit.due("to who has it", x.sell(2, 0, 1), false);
        Kit.due("the outermost", x.sell(2, 1, 1), true);
        Kit.due("to who has it now", x.sell(2, 1, 0), false);
        Kit.due("back to who filled it", x.sell(2, 0, 1), true);
    }

    private static void soldForAPrice() {
        Kit.sentence(0, "whose PURSE has the price (0 to 9,999):");
        NailedBoxes x = Kit.village("thing a 1 1 1;who p fair 9999;who q fair 9999;who r fair 1;");
        x.box(0, 0);
        x.box(1, 0);
        Kit.due("-1", x.sell(0, 1, -1), false);
        Kit.due("10000 of 9999", x.sell(0, 1, 10000), false);
        Kit.due("9999 of 9999", x.sell(0, 1, 9999), true);
        Kit.due("1 of 0", x.sell(0, 0, 0), true);
        Kit.due("1 of 0", x.sell(0, 1, 1), false);
        Kit.due("0 of 0", x.sell(0, 1, 0), true);
        Kit.due("PURSE", x.who(0, 1), 19998);
        Kit.due("10000 of 19998", x.sell(0, 0, 10000), false);
        Kit.due("9999 of 19998", x.sell(0, 0, 9999), true);
        Kit.due("2 of 1", x.sell(0, 2, 2), false);
        Kit.due("1 of 1", x.sell(0, 2, 1), true);
    }

    private static void soldAheadOfJune() {
        Kit.sentence(0, "SOLD ahead of June:");
        NailedBoxes x = three();
        x.box(0, 0);
        for (int month = 0; month < 5; month++) {
            Kit.due("in MONTH " + month, x.sell(0, month % 2 == 0 ? 1 : 0, 1), true);
            x.month();
        }
        Kit.due("in June", x.sell(0, 0, 1), false);
        Kit.due("rows", x.told(0, 3), 5);
    }

    private static void fromPurseToPurse() {
        Kit.sentence(0, "it goes from PURSE to PURSE.");
        NailedBoxes x = three();
        x.box(0, 0);
        x.sell(0, 1, 50);
        Kit.due("all of q's", x.who(1, 1), 0);
        Kit.due("in p's", x.who(0, 1), 150);
        x.sell(0, 2, 0);
        Kit.due("none of r's", x.who(2, 1), 0);
        x.sell(0, 0, 150);
        Kit.due("to who had it, not to who filled it", x.who(2, 1), 150);
        Kit.due("all of p's", x.who(0, 1), 0);
    }

    private static void whoKnows() {
        Kit.sentence(0, "KNOWS: who filled it, and who opened it a little while it was in their hands.");
        NailedBoxes x = three();
        x.box(0, 0);
        x.box(0, 1);
        x.into(0, 1);
        Kit.due("who filled it", x.told(0, 5), 1);
        x.sell(1, 1, 1);
        Kit.due("not who bought it", x.told(0, 5), 1);
        x.open(0);
        Kit.due("who opened it, in a BOX in hands", x.told(0, 5), 3);
        Kit.due("not the BOX that it is in", x.told(1, 5), 1);
        x.sell(1, 2, 0);
        Kit.due("who bought it later didn't", x.told(0, 5), 3);
        x.open(0);
        x.open(0);
        Kit.due("who opened it twice", x.told(0, 5), 7);
        NailedBoxes y = Kit.village("thing a 1 1 1;" + "who pa fair 9;who pb fair 9;who pc fair 9;who pd fair 9;who pe fair 9;who pf fair 9;"
                + "who pg fair 9;who ph fair 9;who pi fair 9;who pj fair 9;who pk fair 9;who pl fair 9;");
        y.box(11, 0);
        Kit.due("the last of twelve", y.told(0, 5), 2048);
        for (int who = 0; who < 11; who++) {
            y.sell(0, who, 1);
            y.open(0);
        }
        Kit.due("all of twelve", y.told(0, 5), 4095);
    }

    private static void saidByWhoHasIt() {
        Kit.sentence(0, "SAID: by whom it's in the hands of, which THING it is.");
        NailedBoxes x = three();
        x.box(0, 0);
        x.box(0, 1);
        x.say(0, 0);
        x.into(0, 1);
        x.sell(1, 1, 1);
        x.say(0, 2);
        Kit.due("by who filled it", x.record(0, 0, 1), 0);
        Kit.due("the first THING", x.record(0, 0, 3), 0);
        Kit.due("by whom the outermost is in the hands of", x.record(0, 1, 1), 1);
        Kit.due("one of which who filled it has no SHARE", x.record(0, 1, 3), 2);
    }

    private static void readings() {
        Kit.sentence(0, "SIGNS: a reading of weight (0 to 99), or of sound (0 to 9).");
        NailedBoxes x = three();
        x.box(0, 0);
        int[] most = {99, 9};
        for (int kind = 0; kind < 2; kind++) {
            Kit.due("-1", x.sign(0, kind, -1), false);
            Kit.due("0", x.sign(0, kind, 0), true);
            Kit.due("the most", x.sign(0, kind, most[kind]), true);
            Kit.due("one more", x.sign(0, kind, most[kind] + 1), false);
        }
        Kit.due("rows", x.told(0, 3), 4);
    }

    private static void inOrder() {
        Kit.sentence(0, "A record of each BOX: what was sold, said, read, in order;");
        NailedBoxes x = three();
        x.box(0, 0);
        x.box(0, 1);
        x.sign(0, 1, 3);
        x.say(1, 2);
        x.say(0, 1);
        x.sell(1, 1, 4);
        x.sell(0, 1, 5);
        x.sign(1, 0, 6);
        int[][] kinds = {{3, 1, 0}, {1, 0, 2}};
        int[][] values = {{3, 1, 5}, {2, 4, 6}};
        for (int box = 0; box < 2; box++) {
            Kit.due("rows of " + box, x.told(box, 3), 3);
            for (int k = 0; k < 3; k++) {
                Kit.due("kind " + k + " of " + box, x.record(box, k, 0), kinds[box][k]);
                Kit.due("value " + k + " of " + box, x.record(box, k, 3), values[box][k]);
            }
        }
    }

    private static void threeHundredInAll() {
        Kit.sentence(0, "of all BOXES at most 300.");
        NailedBoxes x = full();
        Kit.due("rows of all", x.count(4), 300);
        Kit.due("rows of 0", x.told(0, 3), 100);
        Kit.due("the last row of 1", x.record(1, 199, 3), 99);
        Kit.due("one more", x.sign(0, 0, 1), false);
        Kit.due("rows of all", x.count(4), 300);
    }

    /** Two BOXES of p, the record is full of readings of weight. */
    private static NailedBoxes full() {
        NailedBoxes x = three();
        x.box(0, 0);
        x.box(0, 1);
        for (int k = 0; k < 300; k++) {
            Kit.due("row " + k, x.sign(k < 100 ? 0 : 1, 0, k % 100), true);
        }
        return x;
    }

    // ---- promise 7 ----

    private static void box() {
        Kit.sentence(7, "A BOX is filled: its number.");
        NailedBoxes x = three();
        Kit.due("the first", x.box(2, 2), 0);
        Kit.due("the next", x.box(0, 0), 1);
        Kit.due("the same again", x.box(0, 0), 2);
        Kit.due("BOXES", x.count(3), 3);
        for (int k = 0; k < 4; k++) {
            x.month();
        }
        Kit.due("the MONTH ahead of June", x.box(0, 0), 3);
        Kit.refused("box()", x, 0, 0, 0);
    }

    private static void boxOfNone() {
        Kit.sentence(7, "NONE, doing nothing but REFUSED: none such,");
        NailedBoxes x = three();
        x.box(0, 0);
        Refusals refused = new Refusals(x, 0);
        refused.none("box(3, 0)", x.box(3, 0));
        refused.none("box(1, 3)", x.box(1, 3));
        refused.none("box(1, 8)", x.box(1, 8));
        for (int never : Kit.NEVER) {
            refused.none("box(" + never + ", 0)", x.box(never, 0));
            refused.none("box(0, " + never + ")", x.box(0, never));
        }
        refused.end();
    }

    private static void boxWithoutShare() {
        Kit.sentence(7, "no SHARE of it,");
        NailedBoxes x = Kit.village(THREE + "fills q 1 c;fills q 99 a;");
        Refusals refused = new Refusals(x, 0);
        refused.none("p has none of c", x.box(0, 2));
        refused.none("q has none of b", x.box(1, 1));
        refused.none("q has none of c any more", x.box(1, 2));
        refused.end();
        Kit.due("q has a SHARE of a", x.box(1, 0), 0);
        Kit.due("r has a SHARE of c", x.box(2, 2), 1);
    }

    private static void boxInJune() {
        Kit.sentence(7, "June (0),");
        NailedBoxes x = three();
        x.box(0, 0);
        Kit.toJune(x);
        Refusals refused = new Refusals(x, 0);
        refused.none("in June", x.box(0, 0));
        refused.end();
    }

    private static void boxFortyOne() {
        Kit.sentence(7, "40 are there (1).");
        NailedBoxes x = three();
        for (int k = 0; k < 40; k++) {
            x.box(0, 0);
        }
        Kit.refused("40", x, 0, 0, 0);
        Refusals refused = new Refusals(x, 1);
        refused.none("the 41st", x.box(0, 0));
        refused.none("the 41st", x.box(2, 2));
        refused.end();
        Kit.none("the 41st, without a SHARE", x.box(0, 2));
        Kit.none("the 41st, of nobody", x.box(3, 0));
        Kit.toJune(x);
        Kit.none("the 41st, in June", x.box(0, 0));
        Kit.refused("not as told", x, 3, 2, 0);
    }

    // ---- promise 8 ----

    private static void into() {
        Kit.sentence(8, "A BOX is put into another one");
        NailedBoxes x = three();
        x.box(0, 0);
        x.box(0, 1);
        x.box(0, 1);
        Kit.due("into", x.into(0, 1), true);
        Kit.due("in which it is", x.told(0, 2), 1);
        Kit.none("the other is in none", x.told(1, 2));
        Kit.due("two in one", x.into(2, 1), true);
        Kit.due("in which it is", x.told(2, 2), 1);
        Kit.refused("into()", x, 0, 0, 0);
    }

    private static void intoOutermost() {
        Kit.sentence(8, "both outermost,");
        NailedBoxes x = three();
        x.box(0, 0);
        x.box(0, 1);
        x.box(0, 1);
        x.into(0, 1);
        Refusals refused = new Refusals(x, 0);
        refused.no("what is in one into another", x.into(0, 2));
        refused.no("what is in one into the same again", x.into(0, 1));
        refused.no("one into what is in one", x.into(2, 0));
        refused.no("one into what is in it", x.into(1, 0));
        refused.end();
        Kit.due("one that holds one", x.into(1, 2), true);
    }

    private static void intoInOnesHands() {
        Kit.sentence(8, "in one's hands,");
        NailedBoxes x = three();
        x.box(0, 0);
        x.box(1, 0);
        x.box(0, 0);
        Refusals refused = new Refusals(x, 0);
        refused.no("p's into q's", x.into(0, 1));
        refused.no("q's into p's", x.into(1, 2));
        refused.end();
        x.sell(0, 1, 1);
        Kit.due("p's that was filled by p, in q's hands now", x.into(0, 2), false);
        Kit.due("both in q's hands", x.into(0, 1), true);
    }

    private static void intoItself() {
        Kit.sentence(8, "unlike,");
        NailedBoxes x = three();
        x.box(0, 0);
        x.box(0, 0);
        Refusals refused = new Refusals(x, 0);
        refused.no("into itself", x.into(0, 0));
        refused.no("into itself", x.into(1, 1));
        refused.end();
        Kit.due("into another one with the same in it", x.into(0, 1), true);
    }

    private static void intoInJune() {
        Kit.sentence(8, "ahead of June)");
        NailedBoxes x = three();
        for (int k = 0; k < 4; k++) {
            x.box(0, 0);
        }
        for (int k = 0; k < 4; k++) {
            x.month();
        }
        Kit.due("in the MONTH ahead of June", x.into(0, 1), true);
        x.month();
        Refusals refused = new Refusals(x, 0);
        refused.no("in June", x.into(2, 3));
        refused.end();
    }

    private static void intoNotAsTold() {
        Kit.sentence(8, ": true; false, doing nothing but REFUSED: not as told.");
        NailedBoxes x = three();
        x.box(0, 0);
        x.box(0, 0);
        Refusals refused = new Refusals(x, 0);
        refused.no("into(0, 2)", x.into(0, 2));
        refused.no("into(2, 0)", x.into(2, 0));
        refused.no("into(2, 3)", x.into(2, 3));
        for (int never : Kit.NEVER) {
            refused.no("into(0, " + never + ")", x.into(0, never));
            refused.no("into(" + never + ", 0)", x.into(never, 0));
        }
        refused.end();
    }

    // ---- promise 9 ----

    private static void month() {
        Kit.sentence(9, "The next MONTH: which.");
        for (String text : new String[] {THREE, "thing a 1 1 1;", "who p fair 1;"}) {
            NailedBoxes x = Kit.village(text);
            for (int month = 1; month <= 5; month++) {
                Kit.due("of " + text, x.month(), month);
            }
            Kit.refused("month()", x, 0, 0, 0);
        }
    }

    private static void monthInJune() {
        Kit.sentence(9, "NONE, doing nothing but REFUSED: it's June,");
        NailedBoxes x = three();
        x.box(0, 0);
        Kit.toJune(x);
        Refusals refused = new Refusals(x, 0);
        refused.none("in June", x.month());
        refused.none("in June", x.month());
        refused.end();
    }

    private static void monthOfNone() {
        Kit.sentence(9, "there are no THINGS and no PEOPLE (0).");
        for (String text : new String[] {"", "keeps 5;weigh 5;shake 5;"}) {
            NailedBoxes x = Kit.village(text);
            Refusals refused = new Refusals(x, 0);
            refused.none("of '" + text + "'", x.month());
            refused.end();
        }
        NailedBoxes y = new NailedBoxes();
        Refusals refused = new Refusals(y, 0);
        refused.none("of a new object", y.month());
        refused.end();
    }

    // ---- promise 10 ----

    private static void sell() {
        Kit.sentence(10, "A BOX is SOLD: true;");
        NailedBoxes x = three();
        x.box(0, 0);
        Kit.due("sell()", x.sell(0, 1, 50), true);
        Kit.due("hands", x.told(0, 1), 1);
        Kit.due("PURSE", x.who(1, 1), 0);
        Kit.due("a row", x.count(4), 1);
        Kit.refused("sell()", x, 0, 0, 0);
    }

    private static void sellNotAsTold() {
        Kit.sentence(10, "false, doing nothing but REFUSED: not as told,");
        NailedBoxes x = three();
        x.box(0, 0);
        x.box(0, 0);
        x.into(0, 1);
        Refusals refused = new Refusals(x, 0);
        refused.no("no such BOX", x.sell(2, 1, 1));
        refused.no("to nobody", x.sell(1, 3, 1));
        refused.no("to who has it", x.sell(1, 0, 1));
        refused.no("not the outermost", x.sell(0, 1, 1));
        refused.no("more than the PURSE has", x.sell(1, 1, 51));
        refused.no("more than the PURSE has", x.sell(1, 2, 1));
        for (int never : Kit.NEVER) {
            refused.no("sell(" + never + ", 1, 1)", x.sell(never, 1, 1));
            refused.no("sell(1, " + never + ", 1)", x.sell(1, never, 1));
            refused.no("sell(1, 1, " + never + ")", x.sell(1, 1, never));
        }
        refused.end();
        Kit.toJune(x);
        Refusals inJune = new Refusals(x, 0);
        inJune.no("in June", x.sell(1, 1, 1));
        inJune.end();
    }

    private static void sellFull() {
        Kit.sentence(10, "the record is full.");
        NailedBoxes x = full();
        Refusals refused = new Refusals(x, 1);
        refused.no("sell()", x.sell(0, 1, 1));
        refused.end();
        Kit.due("not as told, and full", x.sell(0, 0, 1), false);
        Kit.refused("not as told, and full", x, 1, 1, 0);
    }

    // ---- promise 11 ----

    private static void say() {
        Kit.sentence(11, "It's SAID (ahead of June): true;");
        NailedBoxes x = three();
        x.box(0, 0);
        Kit.due("say()", x.say(0, 2), true);
        for (int k = 0; k < 4; k++) {
            x.month();
        }
        Kit.due("in the MONTH ahead of June", x.say(0, 0), true);
        Kit.due("rows", x.count(4), 2);
        Kit.refused("say()", x, 0, 0, 0);
        x.month();
        Refusals refused = new Refusals(x, 0);
        refused.no("in June", x.say(0, 0));
        refused.end();
    }

    private static void sayNoneSuch() {
        Kit.sentence(11, "false, doing nothing but REFUSED: none such,");
        NailedBoxes x = three();
        x.box(0, 0);
        Refusals refused = new Refusals(x, 0);
        refused.no("say(1, 0)", x.say(1, 0));
        refused.no("say(0, 3)", x.say(0, 3));
        refused.no("say(0, 8)", x.say(0, 8));
        for (int never : Kit.NEVER) {
            refused.no("say(" + never + ", 0)", x.say(never, 0));
            refused.no("say(0, " + never + ")", x.say(0, never));
        }
        refused.end();
    }

    private static void sayFull() {
        Kit.sentence(11, "the record is full.");
        NailedBoxes x = full();
        Refusals refused = new Refusals(x, 1);
        refused.no("say()", x.say(0, 0));
        refused.end();
        Kit.due("none such, and full", x.say(0, 3), false);
        Kit.refused("none such, and full", x, 1, 1, 0);
    }

    // ---- promise 12 ----

    private static void sign() {
        Kit.sentence(12, "A SIGN (kind 0 weight, 1 sound; ahead of June): true;");
        NailedBoxes x = three();
        x.box(0, 0);
        Kit.due("weight", x.sign(0, 0, 10), true);
        Kit.due("kind of the row", x.record(0, 0, 0), 2);
        for (int k = 0; k < 4; k++) {
            x.month();
        }
        Kit.due("sound, in the MONTH ahead of June", x.sign(0, 1, 1), true);
        Kit.due("kind of the row", x.record(0, 1, 0), 3);
        Kit.refused("sign()", x, 0, 0, 0);
        x.month();
        Refusals refused = new Refusals(x, 0);
        refused.no("in June", x.sign(0, 0, 10));
        refused.no("in June", x.sign(0, 1, 1));
        refused.end();
    }

    private static void signNotAsTold() {
        Kit.sentence(12, "false, doing nothing but REFUSED: not as told,");
        NailedBoxes x = three();
        x.box(0, 0);
        Refusals refused = new Refusals(x, 0);
        refused.no("sign(1, 0, 1)", x.sign(1, 0, 1));
        refused.no("sign(0, 2, 1)", x.sign(0, 2, 1));
        refused.no("sign(0, 0, 100)", x.sign(0, 0, 100));
        refused.no("sign(0, 1, 10)", x.sign(0, 1, 10));
        for (int never : Kit.NEVER) {
            refused.no("sign(" + never + ", 0, 1)", x.sign(never, 0, 1));
            refused.no("sign(0, " + never + ", 1)", x.sign(0, never, 1));
            refused.no("sign(0, 0, " + never + ")", x.sign(0, 0, never));
            refused.no("sign(0, 1, " + never + ")", x.sign(0, 1, never));
        }
        refused.end();
    }

    private static void signFull() {
        Kit.sentence(12, "the record is full.");
        NailedBoxes x = full();
        Refusals refused = new Refusals(x, 1);
        refused.no("weight", x.sign(0, 0, 1));
        refused.no("sound", x.sign(1, 1, 1));
        refused.end();
        Kit.due("not as told, and full", x.sign(0, 1, 10), false);
        Kit.refused("not as told, and full", x, 1, 2, 0);
    }

    // ---- promise 13 ----

    private static void open() {
        Kit.sentence(13, "It's opened a little by whom it's in the hands of (ahead of June): the THING.");
        NailedBoxes x = three();
        x.box(0, 0);
        x.box(1, 2);
        Kit.due("a", x.open(0), 0);
        Kit.due("c", x.open(1), 2);
        for (int k = 0; k < 4; k++) {
            x.month();
        }
        x.sell(0, 1, 1);
        x.into(0, 1);
        Kit.due("in a BOX, in the MONTH ahead of June", x.open(0), 0);
        Kit.due("KNOWS", x.told(0, 5), 3);
        Kit.due("not in the record", x.told(0, 3), 1);
        Kit.refused("open()", x, 0, 0, 0);
    }

    private static void openNoneSuch() {
        Kit.sentence(13, "NONE, doing nothing but REFUSED: none such,");
        NailedBoxes x = three();
        x.box(0, 0);
        x.sell(0, 1, 1);
        Refusals refused = new Refusals(x, 0);
        refused.none("open(1)", x.open(1));
        for (int never : Kit.NEVER) {
            refused.none("open(" + never + ")", x.open(never));
        }
        refused.end();
    }

    private static void openInJune() {
        Kit.sentence(13, "June.");
        NailedBoxes x = three();
        x.box(0, 0);
        x.sell(0, 1, 1);
        Kit.toJune(x);
        Refusals refused = new Refusals(x, 0);
        refused.none("in June", x.open(0));
        refused.end();
        Kit.due("KNOWS", x.told(0, 5), 1);
    }

    // ---- promises 14 and 15 ----

    private static void told() {
        Kit.sentence(14, "Of a BOX: 0 who filled it, 1 in whose hands, 2 in which BOX (NONE), 3 rows of its record, 4 the THING (NONE ahead of June),");
        NailedBoxes x = three();
        x.box(0, 0);
        x.month();
        x.box(1, 1);
        x.sell(0, 1, 9);
        x.into(0, 1);
        x.open(0);
        int[][] due = {{0, 1, 1, 1, -1, 3, 0}, {1, 1, -1, 0, -1, 2, 1}};
        for (int box = 0; box < 2; box++) {
            for (int what = 0; what < 5; what++) {
                Kit.due("told(" + box + ", " + what + ")", x.told(box, what), due[box][what]);
            }
        }
        Kit.sentence(14, "5 who KNOWS (bits), 6 the MONTH it was filled in.");
        for (int box = 0; box < 2; box++) {
            for (int what = 5; what < 7; what++) {
                Kit.due("told(" + box + ", " + what + ")", x.told(box, what), due[box][what]);
            }
        }
        for (int month = x.count(5); month < 5; month++) {
            Kit.none("the THING in MONTH " + month, x.told(1, 4));
            x.month();
        }
        Kit.due("the THING in June", x.told(1, 4), 1);
        Kit.due("the THING in June", x.told(0, 4), 0);
        Kit.due("filled in", x.told(1, 6), 1);
    }

    private static void toldNone() {
        Kit.sentence(14, "NONE: none such.");
        NailedBoxes x = three();
        Kit.none("no BOX yet", x.told(0, 0));
        x.box(0, 0);
        Kit.none("told(1, 0)", x.told(1, 0));
        Kit.none("told(0, 7)", x.told(0, 7));
        for (int never : Kit.NEVER) {
            Kit.none("told(" + never + ", 0)", x.told(never, 0));
            Kit.none("told(0, " + never + ")", x.told(0, never));
        }
        Kit.toJune(x);
        Kit.none("told(1, 4) in June", x.told(1, 4));
        Kit.refused("asking", x, 0, 0, 0);
    }

    private static void record() {
        Kit.sentence(15, "Of row k of a BOX's record: 0 kind (0 SOLD, 1 SAID, 2 weight, 3 sound), 1 by whom (SOLD, SAID; else NONE),");
        NailedBoxes x = three();
        x.box(1, 0);
        x.say(0, 2);
        x.sign(0, 0, 99);
        x.month();
        x.sell(0, 2, 0);
        for (int k = 0; k < 3; k++) {
            x.month();
        }
        x.sign(0, 1, 0);
        int[][] due = {{1, 1, -1, 2, 0}, {2, -1, -1, 99, 0}, {0, 1, 2, 0, 1}, {3, -1, -1, 0, 4}};
        for (int k = 0; k < 4; k++) {
            Kit.due("kind of " + k, x.record(0, k, 0), due[k][0]);
            Kit.due("by whom, of " + k, x.record(0, k, 1), due[k][1]);
        }
        Kit.sentence(15, "2 to whom (SOLD; else NONE), 3 price, THING or reading, 4 MONTH.");
        for (int k = 0; k < 4; k++) {
            for (int what = 2; what < 5; what++) {
                Kit.due("record(0, " + k + ", " + what + ")", x.record(0, k, what), due[k][what]);
            }
        }
    }

    private static void recordNone() {
        Kit.sentence(15, "NONE: none such.");
        NailedBoxes x = three();
        Kit.none("no BOX yet", x.record(0, 0, 0));
        x.box(0, 0);
        x.box(0, 0);
        Kit.none("no row yet", x.record(0, 0, 0));
        x.say(0, 0);
        x.say(0, 0);
        x.say(1, 0);
        Kit.due("the last row", x.record(0, 1, 0), 1);
        Kit.none("record(0, 2, 0)", x.record(0, 2, 0));
        Kit.none("record(1, 1, 0)", x.record(1, 1, 0));
        Kit.none("record(2, 0, 0)", x.record(2, 0, 0));
        Kit.none("record(0, 0, 5)", x.record(0, 0, 5));
        Kit.none("record(0, 0, 6)", x.record(0, 0, 6));
        for (int never : Kit.NEVER) {
            Kit.none("record(" + never + ", 0, 0)", x.record(never, 0, 0));
            Kit.none("record(0, " + never + ", 0)", x.record(0, never, 0));
            Kit.none("record(0, 0, " + never + ")", x.record(0, 0, never));
        }
        Kit.refused("asking", x, 0, 0, 0);
    }
}
