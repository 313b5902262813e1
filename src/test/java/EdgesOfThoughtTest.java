/** Terms of what is thought of a box, promises 16 and 17: each sentence that names a boundary has a test of its own. */
public final class EdgesOfThoughtTest {
    private static final String TWO = "thing a 100 10 1;thing b 50 20 2;";

    public static void main(String[] args) {
        sharesCut();
        timesTenthsCut();
        whoKnewThen();
        whoDidNotKnow();
        signs();
        soldNothing();
        soldByLemon();
        soldByBest();
        soldByName();
        saidByFair();
        saidByName();
        saidBySworn();
        saidNothing();
        inMillionths();
        mean();
        think();
        thinkNone();
        thinkNothing();
        meanAsked();
        meanNone();
        meanNothing();
        Kit.end();
    }

    private static void likely(String where, NailedBoxes x, int box, int... due) {
        for (int thing = 0; thing < due.length; thing++) {
            Kit.due(where + ": think(" + box + ", " + thing + ")", x.think(box, thing), due[thing]);
        }
    }

    /** Somebody of that MANNER has filled BOX 0, and BOX 1, with a; the other one is q. */
    private static NailedBoxes by(String manner) {
        NailedBoxes x = Kit.village(TWO + "who p " + manner + " 999;who q chain 999;");
        x.box(0, 0);
        x.box(0, 0);
        return x;
    }

    /** Shares of 1 and 2, p and q of these MANNERS; BOX 0 is p's. */
    private static NailedBoxes thirds(String p, String q) {
        NailedBoxes x = Kit.village(TWO + "who p " + p + " 9;who q " + q + " 9;fills p 1 a,2 b;");
        x.box(0, 1);
        return x;
    }

    /** SOLD to and fro by two who know it, so often that nine tenths each would leave none, and eleven would be too many. */
    private static void sellOften(NailedBoxes x) {
        x.sell(0, 1, 0);
        x.open(0);
        for (int k = 1; k < 300; k++) {
            x.sell(0, 1 - k % 2, 0);
            if (k % 50 == 49) {
                likely("SOLD " + k, x, 0, 333333, 666666);
            }
        }
    }

    private static void sayOften(NailedBoxes x, int a, int b) {
        for (int k = x.count(4); k < 300; k++) {
            x.say(0, 1);
            if (k % 50 == 49) {
                likely("SAID " + k, x, 0, a, b);
            }
        }
    }

    private static void readWeights(NailedBoxes x, int times) {
        for (int k = 0; k < times; k++) {
            x.sign(0, 0, 99);
        }
    }

    // ---- Terms ----

    private static void sharesCut() {
        Kit.sentence(0, "THOUGHT of a BOX: for each THING 10^14 times its SHARE by all of who filled it (cut),");
        // a tenth is left at each reading: of 10^14 one is left after fourteen
        NailedBoxes x = Kit.village("thing a 1 10 1;who p fair 9;weigh 9;");
        x.box(0, 0);
        readWeights(x, 14);
        likely("one is left", x, 0, 1000000);
        Kit.due("MEAN of one", x.mean(0), 100);
        readWeights(x, 1);
        likely("none is left", x, 0, -1);
        // 16666666666666 and 66666666666666, c made unlikely: by 8 and by 2 tenths 13333333333332 and 13333333333333
        NailedBoxes y = Kit.village("thing a 1 10 1;thing b 1 20 1;thing c 1 20 3;who p fair 9;fills p 1 a,4 b,1 c;shake 10;weigh 8;");
        y.box(0, 0);
        y.sign(0, 1, 1);
        y.sign(0, 0, 10);
        likely("sixths are cut", y, 0, 499999, 500000, 0);
        // the same by fifths, that aren't cut
        NailedBoxes z = Kit.village("thing a 1 10 1;thing b 1 20 1;who p fair 9;fills p 1 a,4 b;weigh 8;");
        z.box(0, 0);
        z.sign(0, 0, 10);
        likely("fifths", z, 0, 500000, 500000);
    }

    private static void timesTenthsCut() {
        Kit.sentence(0, "then by its record, times tenths by 10 (cut) each:");
        NailedBoxes x = Kit.village("thing a 1 10 1;thing b 1 20 1;who p fair 9;weigh 9;");
        x.box(0, 0);
        readWeights(x, 13);
        likely("5 and 5", x, 0, 500000, 500000);
        x.sign(0, 0, 10);
        likely("4 (of 4.5) and 0 (of 0.5)", x, 0, 1000000, 0);
        x.box(0, 0);
        likely("another BOX", x, 1, 500000, 500000);
    }

    private static void whoKnewThen() {
        Kit.sentence(0, "SOLD, SAID by one who KNEW then: by MANNER;");
        NailedBoxes x = by("fair");
        x.say(0, 0);
        likely("who filled it", x, 0, 900000, 100000);
        NailedBoxes y = by("lemon");
        y.sell(0, 1, 75);
        likely("who filled it", y, 0, 100000, 900000);
        NailedBoxes z = Kit.village(TWO + "who p chain 999;who q fair 999;");
        z.box(0, 0);
        z.sell(0, 1, 1);
        z.open(0);
        z.say(0, 1);
        likely("who opened it", z, 0, 100000, 900000);
        z.sell(0, 0, 1);
        z.sell(0, 1, 1);
        z.say(0, 1);
        likely("who opened it when he had it before", z, 0, 12195, 987804);
    }

    private static void whoDidNotKnow() {
        Kit.sentence(0, "by one who didn't: nothing.");
        for (String manner : new String[] {"fair", "name", "lemon", "best", "chain", "sworn"}) {
            NailedBoxes x = Kit.village(TWO + "who p chain 999;who q " + manner + " 999;");
            x.box(0, 0);
            x.sell(0, 1, 60);
            x.say(0, 1);
            x.sell(0, 0, 60);
            likely(manner + " didn't know", x, 0, 500000, 500000);
            x.sell(0, 1, 60);
            x.say(0, 1);
            x.open(0);
            likely(manner + " didn't know then", x, 0, 500000, 500000);
            NailedBoxes often = thirds("chain", manner);
            often.sell(0, 1, 0);
            sayOften(often, 333333, 666666);
        }
        NailedBoxes often = thirds("chain", "lemon");
        for (int k = 0; k < 150; k++) {
            often.sell(0, 1, 0);
            often.sell(0, 0, 0);
        }
        likely("SOLD often", often, 0, 333333, 666666);
    }

    private static void signs() {
        Kit.sentence(0, "SIGN: \"weigh\" (\"shake\") tenths, if WEIGHT (SOUND) is what was read, else 10 less those.");
        int[][] tenths = {{0, 0, 1000000}, {1, 100000, 900000}, {5, 500000, 500000}, {9, 900000, 100000}, {10, 1000000, 0}};
        for (int[] t : tenths) {
            for (int kind = 0; kind < 2; kind++) {
                NailedBoxes x = Kit.village(TWO + "who p fair 9;weigh 5;shake 5;" + (kind == 0 ? "weigh " : "shake ") + t[0] + ";");
                x.box(0, 1);
                x.sign(0, kind, kind == 0 ? 10 : 1);
                likely(t[0] + " tenths, kind " + kind, x, 0, t[1], t[2]);
            }
        }
        NailedBoxes y = Kit.village("thing a 1 0 0;thing b 1 99 9;thing c 1 9 1;who p fair 9;weigh 10;shake 10;");
        y.box(0, 0);
        y.sign(0, 0, 99);
        likely("99", y, 0, 0, 1000000, 0);
        y.box(0, 0);
        y.sign(1, 1, 0);
        likely("sound 0", y, 1, 1000000, 0, 0);
        y.box(0, 0);
        y.sign(2, 1, 9);
        likely("sound 9, of c that is the WEIGHT", y, 2, 0, 1000000, 0);
    }

    private static void soldNothing() {
        Kit.sentence(0, "SOLD for a price: fair, chain, sworn: nothing.");
        for (String manner : new String[] {"fair", "chain", "sworn"}) {
            sellOften(thirds(manner, manner));
            NailedBoxes x = by(manner);
            x.sell(0, 1, 75);
            x.sell(1, 1, 0);
            likely(manner + " at 75", x, 0, 500000, 500000);
            likely(manner + " at 0", x, 1, 500000, 500000);
        }
    }

    private static void soldByLemon() {
        Kit.sentence(0, "lemon: 9, if its WORTH then is below the price, else 1;");
        NailedBoxes x = by("lemon");
        x.sell(0, 1, 50);
        likely("50 isn't below 50", x, 0, 500000, 500000);
        x.sell(1, 1, 51);
        likely("50 is below 51", x, 1, 100000, 900000);
        x.box(0, 0);
        x.sell(2, 1, 100);
        likely("100 isn't below 100", x, 2, 100000, 900000);
        x.box(0, 0);
        x.sell(3, 1, 101);
        likely("both are below 101", x, 3, 500000, 500000);
        // by 1 tenth fourteen times one of 10^14 is left
        NailedBoxes y = Kit.village("thing a 0 1 1;who p lemon 9;who q chain 9;");
        y.box(0, 0);
        for (int k = 0; k < 14; k++) {
            y.sell(0, 1, 0);
            y.sell(0, 0, 0);
        }
        likely("else 1", y, 0, 1000000);
        y.sell(0, 1, 0);
        likely("else 1", y, 0, -1);
        // WORTH then: 100 less 60, and less 20 in the MONTH ahead
        NailedBoxes z = Kit.village("thing a 100 10 1 spoils 20;thing b 50 20 2;who p lemon 999;who q chain 999;");
        z.box(0, 0);
        z.box(0, 0);
        z.month();
        z.sell(0, 1, 80);
        likely("80 in MONTH 1", z, 0, 100000, 900000);
        z.month();
        z.month();
        z.sell(1, 1, 41);
        likely("40 in MONTH 3", z, 1, 900000, 100000);
        likely("then, not now", z, 0, 100000, 900000);
    }

    private static void soldByBest() {
        Kit.sentence(0, "best: 9, if KEPT then isn't above the price, else 1;");
        // KEPT 80 and 40
        NailedBoxes x = by("best");
        x.sell(0, 1, 40);
        likely("40 isn't above 40", x, 0, 100000, 900000);
        x.sell(1, 1, 39);
        likely("both are above 39", x, 1, 500000, 500000);
        x.box(0, 0);
        x.sell(2, 1, 79);
        likely("80 is above 79", x, 2, 100000, 900000);
        x.box(0, 0);
        x.sell(3, 1, 80);
        likely("80 isn't above 80", x, 3, 500000, 500000);
        NailedBoxes z = Kit.village("thing a 100 10 1 spoils 20;thing b 50 20 2;who p best 999;who q chain 999;");
        z.box(0, 0);
        z.month();
        z.month();
        z.month();
        z.sell(0, 1, 39);
        z.month();
        likely("KEPT 32 in MONTH 3", z, 0, 900000, 100000);
    }

    private static void soldByName() {
        Kit.sentence(0, "name: 8, if it's what he last SAID of that BOX, else 2 (nothing, if he didn't say).");
        NailedBoxes x = by("name");
        sellOften(thirds("name", "name"));
        x.sell(0, 1, 1);
        likely("he didn't say", x, 0, 500000, 500000);
        x.say(0, 0);
        x.sell(0, 0, 1);
        x.say(1, 1);
        x.sell(0, 1, 1);
        likely("another one said, and he of another BOX", x, 0, 500000, 500000);
        // b: 8 and 8 tenths, a: 2 and 2
        x.sell(1, 1, 1);
        likely("as he SAID", x, 1, 58823, 941176);
        // a, then b: 16 and 16; SOLD as b: 2 to 8
        x.box(0, 0);
        x.say(2, 0);
        x.say(2, 1);
        x.sell(2, 1, 1);
        likely("what he last SAID", x, 2, 200000, 800000);
        x.sell(2, 0, 1);
        x.say(2, 0);
        likely("SAID once more", x, 2, 500000, 500000);
        x.sell(2, 1, 1);
        likely("SOLD once more", x, 2, 800000, 200000);
    }

    private static void saidByFair() {
        Kit.sentence(0, "SAID: fair: 9, if it's so, else 1;");
        NailedBoxes x = by("fair");
        x.say(0, 0);
        likely("a", x, 0, 900000, 100000);
        x.say(1, 1);
        likely("b", x, 1, 100000, 900000);
        x.say(1, 1);
        likely("b twice", x, 1, 12195, 987804);
    }

    private static void saidByName() {
        Kit.sentence(0, "name: 8, else 2;");
        NailedBoxes x = by("name");
        x.say(0, 0);
        likely("a", x, 0, 800000, 200000);
        x.say(1, 1);
        likely("b", x, 1, 200000, 800000);
    }

    private static void saidBySworn() {
        Kit.sentence(0, "sworn: 10, else 0;");
        NailedBoxes x = by("sworn");
        x.say(0, 0);
        likely("a", x, 0, 1000000, 0);
        x.say(1, 1);
        likely("b", x, 1, 0, 1000000);
        sayOften(thirds("sworn", "chain"), 0, 1000000);
    }

    private static void saidNothing() {
        Kit.sentence(0, "lemon, best, chain: nothing.");
        for (String manner : new String[] {"lemon", "best", "chain"}) {
            NailedBoxes x = by(manner);
            x.say(0, 1);
            likely(manner, x, 0, 500000, 500000);
            sayOften(thirds(manner, "chain"), 333333, 666666);
        }
    }

    private static void inMillionths() {
        Kit.sentence(0, "How likely a THING is: by all of them in millionths (cut).");
        NailedBoxes x = Kit.village("thing a 1 1 1;thing b 1 1 1;thing c 1 1 1;who p fair 1;who q fair 1;fills q 99 a,1 b;");
        x.box(0, 0);
        likely("thirds", x, 0, 333333, 333333, 333333);
        x.box(1, 0);
        likely("99 to 1", x, 1, 990000, 10000, 0);
        NailedBoxes y = Kit.village("thing a 1 1 1;thing b 1 1 1;thing c 1 1 1;thing d 1 1 1;thing e 1 1 1;thing f 1 1 1;thing g 1 1 1;"
                + "thing h 1 1 1;who p fair 1;fills p 99 a,99 b,99 c,99 d,99 e,99 f,99 g,1 h;");
        y.box(0, 7);
        likely("99 of 694, and 1", y, 0, 142651, 142651, 142651, 142651, 142651, 142651, 142651, 1440);
    }

    private static void mean() {
        Kit.sentence(0, "MEAN of a BOX: its THINGS' WORTH in June by THOUGHT, in hundredths (cut).");
        NailedBoxes x = Kit.village("thing a 1 1 1;thing b 0 1 1;thing c 999 1 1;thing d 999 1 1 spoils 99;thing e 50 1 1 spoils 10;"
                + "who p fair 1;fills p 1 a,2 b;who q fair 1;fills q 1 c;who r fair 1;fills r 1 d,1 e;who s fair 1;fills s 1 e;");
        x.box(0, 0);
        Kit.due("a third of 1", x.mean(0), 33);
        x.box(1, 2);
        Kit.due("999", x.mean(1), 99900);
        x.box(2, 3);
        Kit.due("504 and 0 in June", x.mean(2), 25200);
        x.box(3, 4);
        Kit.due("0", x.mean(3), 0);
        Kit.toJune(x);
        Kit.due("in June the same", x.mean(2), 25200);
        NailedBoxes y = Kit.village("thing a 2 1 1;thing b 0 1 1;who p fair 1;fills p 1 a,2 b;");
        y.box(0, 0);
        Kit.due("two thirds", y.mean(0), 66);
        NailedBoxes z = Kit.village("thing a 1 1 1;thing b 0 1 1;who p fair 1;");
        z.box(0, 0);
        Kit.due("half", z.mean(0), 50);
    }

    // ---- promises 16 and 17 ----

    private static void think() {
        Kit.sentence(16, "How likely.");
        NailedBoxes x = Kit.village(TWO + "thing c 1 1 1;who p fair 1;fills p 3 a,1 b;");
        x.box(0, 0);
        likely("as filled", x, 0, 750000, 250000, 0);
        Kit.toJune(x);
        likely("in June the same", x, 0, 750000, 250000, 0);
    }

    private static void thinkNone() {
        Kit.sentence(16, "NONE: none such,");
        NailedBoxes x = by("fair");
        Kit.none("think(2, 0)", x.think(2, 0));
        Kit.none("think(0, 2)", x.think(0, 2));
        Kit.none("think(0, 8)", x.think(0, 8));
        for (int never : Kit.NEVER) {
            Kit.none("think(" + never + ", 0)", x.think(never, 0));
            Kit.none("think(0, " + never + ")", x.think(0, never));
        }
        Kit.refused("asking", x, 0, 0, 0);
    }

    private static void thinkNothing() {
        Kit.sentence(16, "nothing is likely.");
        NailedBoxes x = by("sworn");
        x.say(0, 0);
        Kit.due("one THING is", x.think(0, 1), 0);
        x.say(0, 1);
        likely("SAID to be both", x, 0, -1, -1);
        likely("another BOX", x, 1, 500000, 500000);
        Kit.refused("asking", x, 0, 0, 0);
    }

    private static void meanAsked() {
        Kit.sentence(17, "MEAN.");
        NailedBoxes x = by("fair");
        x.say(0, 0);
        Kit.due("9 tenths of 100, 1 of 50", x.mean(0), 9500);
        Kit.due("half and half", x.mean(1), 7500);
    }

    private static void meanNone() {
        Kit.sentence(17, "NONE: none such,");
        NailedBoxes x = by("fair");
        Kit.none("mean(2)", x.mean(2));
        for (int never : Kit.NEVER) {
            Kit.none("mean(" + never + ")", x.mean(never));
        }
        Kit.refused("asking", x, 0, 0, 0);
    }

    private static void meanNothing() {
        Kit.sentence(17, "nothing is likely.");
        NailedBoxes x = by("sworn");
        x.say(0, 0);
        x.say(0, 1);
        Kit.none("SAID to be both", x.mean(0));
        Kit.due("another BOX", x.mean(1), 7500);
        Kit.refused("asking", x, 0, 0, 0);
    }
}
