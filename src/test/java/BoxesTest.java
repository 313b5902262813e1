/** Promises 7 to 17 and 21 to 23: boxes ahead of June, their records, what is thought of them, lending. */
public final class BoxesTest {
    public static void main(String[] args) {
        box();
        into();
        month();
        sell();
        say();
        sign();
        open();
        recordIsFull();
        told();
        record();
        thinkSaid();
        thinkSold();
        thinkSigns();
        nothingLikely();
        greatNumbers();
        lend();
        lendTwenty();
        bring();
        nothingOfFormerBoxes();
        nameIsTheFirst();
        nothingTold();
        Kit.end();
    }

    private static void box() {
        NailedBoxes x = Kit.village(Kit.FAIRS);
        Kit.due("the first", x.box(0, 0), 0);
        Kit.due("no SHARE", x.box(0, 2), -1);
        Kit.due("no such thing", x.box(0, 5), -1);
        Kit.due("no such one", x.box(6, 0), -1);
        Kit.due("below 0", x.box(-1, 0), -1);
        Kit.due("thing below 0", x.box(0, -1), -1);
        Kit.refused("box()", x, 5, 0, 0);
        for (int k = 1; k < 40; k++) {
            Kit.due("box " + k, x.box(1, 2), k);
        }
        Kit.due("the 41st", x.box(1, 2), -1);
        Kit.refused("the 41st", x, 5, 1, 0);
        Kit.due("the 41st, not as told", x.box(0, 2), -1);
        Kit.refused("the 41st, not as told", x, 6, 1, 0);
        Kit.toJune(x);
        Kit.due("in June", x.box(1, 2), -1);
        Kit.refused("in June", x, 7, 1, 0);
        Kit.due("BOXES", x.count(3), 40);
    }

    private static void into() {
        NailedBoxes x = Kit.village(Kit.FAIRS);
        x.box(0, 0);
        x.box(0, 1);
        x.box(1, 0);
        x.box(0, 1);
        Kit.due("unlike", x.into(0, 0), false);
        Kit.due("unlike hands", x.into(0, 2), false);
        Kit.due("no such", x.into(0, 4), false);
        Kit.due("no such", x.into(-1, 0), false);
        Kit.refused("into()", x, 4, 0, 0);
        Kit.due("into", x.into(0, 1), true);
        Kit.due("in which", x.told(0, 2), 1);
        Kit.due("not outermost", x.into(0, 3), false);
        Kit.due("other not outermost", x.into(3, 0), false);
        Kit.due("into one that holds one", x.into(3, 1), true);
        x.sell(1, 1, 5);
        Kit.due("sold along", x.told(0, 1), 1);
        Kit.due("one that holds two", x.into(1, 2), true);
        Kit.due("in whose hands, two deep", x.told(3, 1), 1);
        Kit.due("in which, two deep", x.told(3, 2), 1);
        Kit.due("all in hands", x.who(1, 2), 4);
        x.box(1, 0);
        Kit.toJune(x);
        Kit.due("in June", x.into(2, 4), false);
        Kit.refused("into()", x, 7, 0, 0);
    }

    private static void month() {
        NailedBoxes x = Kit.village("keeps 1;");
        Kit.due("nobody and nothing", x.month(), -1);
        Kit.refused("nobody and nothing", x, 1, 0, 0);
        for (String text : new String[] {"who a fair 1;", "thing a 1 1 1;"}) {
            Kit.tell(x, text);
            for (int k = 1; k <= 5; k++) {
                Kit.due("month " + k, x.month(), k);
            }
            Kit.due("in June", x.month(), -1);
        }
        Kit.refused("months", x, 3, 0, 0);
    }

    private static void sell() {
        NailedBoxes x = Kit.village(Kit.FAIRS);
        x.box(0, 0);
        x.box(0, 1);
        Kit.due("to who has it", x.sell(0, 0, 1), false);
        Kit.due("to nobody", x.sell(0, 6, 1), false);
        Kit.due("to nobody", x.sell(0, -1, 1), false);
        Kit.due("no such", x.sell(2, 1, 1), false);
        Kit.due("below 0", x.sell(0, 1, -1), false);
        Kit.due("above 9999", x.sell(0, 1, 10000), false);
        Kit.due("above the PURSE", x.sell(0, 1, 51), false);
        Kit.refused("sell()", x, 7, 0, 0);
        Kit.due("nothing was SOLD", x.count(4), 0);
        Kit.due("all of the PURSE", x.sell(0, 1, 50), true);
        Kit.due("PURSE of who sold", x.who(0, 1), 250);
        Kit.due("PURSE of who bought", x.who(1, 1), 0);
        Kit.due("by who had it", x.sell(0, 3, 0), true);
        Kit.due("price 0", x.record(0, 1, 3), 0);
        Kit.due("by whom", x.record(0, 1, 1), 1);
        x.box(0, 1);
        x.into(1, 2);
        Kit.due("not the outermost", x.sell(1, 5, 1), false);
        Kit.due("the outermost", x.sell(2, 5, 1), true);
        Kit.toJune(x);
        Kit.due("in June", x.sell(0, 5, 1), false);
        Kit.refused("sell()", x, 9, 0, 0);
        NailedBoxes y = Kit.village("thing a 1 1 1;who a fair 1;".replace("who a", "who b")
                + "who c fair 9999;who d fair 9999;");
        y.box(0, 0);
        Kit.due("9999", y.sell(0, 1, 9999), true);
        Kit.due("PURSE above 9999", y.who(0, 1), 10000);
        Kit.due("but not a price", y.sell(0, 0, 10000), false);
    }

    private static void say() {
        NailedBoxes x = Kit.village(Kit.FAIRS);
        x.box(0, 0);
        x.box(0, 1);
        Kit.due("no such thing", x.say(0, 5), false);
        Kit.due("no such thing", x.say(0, -1), false);
        Kit.due("no such box", x.say(2, 0), false);
        Kit.refused("say()", x, 3, 0, 0);
        Kit.due("one without a SHARE", x.say(0, 4), true);
        x.into(0, 1);
        Kit.due("in a BOX", x.say(0, 1), true);
        x.sell(1, 4, 1);
        Kit.due("by who has the outermost", x.say(0, 3), true);
        Kit.due("by whom", x.record(0, 2, 1), 4);
        Kit.due("to nobody", x.record(0, 2, 2), -1);
        Kit.toJune(x);
        Kit.due("in June", x.say(0, 0), false);
        Kit.refused("say()", x, 4, 0, 0);
        Kit.due("rows", x.count(4), 4);
    }

    private static void sign() {
        NailedBoxes x = Kit.village(Kit.FAIRS);
        x.box(0, 0);
        int[][] wrong = {{0, 0, -1}, {0, 0, 100}, {0, 1, -1}, {0, 1, 10}, {0, 2, 1}, {0, -1, 1}, {1, 0, 1}, {-1, 0, 1}};
        for (int[] w : wrong) {
            Kit.due("sign(" + w[0] + ", " + w[1] + ", " + w[2] + ")", x.sign(w[0], w[1], w[2]), false);
        }
        Kit.refused("sign()", x, wrong.length, 0, 0);
        int[][] right = {{0, 0, 0}, {0, 0, 99}, {0, 1, 0}, {0, 1, 9}};
        for (int k = 0; k < right.length; k++) {
            Kit.due("sign " + k, x.sign(right[k][0], right[k][1], right[k][2]), true);
            Kit.due("kind", x.record(0, k, 0), 2 + right[k][1]);
            Kit.due("by nobody", x.record(0, k, 1), -1);
            Kit.due("to nobody", x.record(0, k, 2), -1);
            Kit.due("reading", x.record(0, k, 3), right[k][2]);
        }
        Kit.toJune(x);
        Kit.due("in June", x.sign(0, 0, 0), false);
        Kit.refused("in June", x, wrong.length + 1, 0, 0);
    }

    private static void open() {
        NailedBoxes x = Kit.village(Kit.FAIRS);
        x.box(0, 1);
        x.box(0, 0);
        Kit.due("no such", x.open(2), -1);
        Kit.due("no such", x.open(-1), -1);
        Kit.refused("open()", x, 2, 0, 0);
        Kit.due("KNOWS who filled it", x.told(0, 5), 1);
        x.into(0, 1);
        x.sell(1, 5, 3);
        Kit.due("not who bought it", x.told(0, 5), 1);
        Kit.due("a BOX in a BOX", x.open(0), 1);
        Kit.due("KNOWS", x.told(0, 5), 33);
        Kit.due("of the other nothing", x.told(1, 5), 1);
        x.sell(1, 3, 3);
        Kit.due("KNOWS still", x.told(0, 5), 33);
        Kit.toJune(x);
        Kit.due("in June", x.open(0), -1);
        Kit.refused("open()", x, 3, 0, 0);
    }

    private static void recordIsFull() {
        NailedBoxes x = Kit.village(Kit.FAIRS);
        x.box(0, 1);
        x.box(0, 0);
        for (int k = 0; k < 300; k++) {
            Kit.due("row " + k, x.sign(k % 2, 0, k % 100), true);
        }
        Kit.due("sign", x.sign(0, 0, 1), false);
        Kit.due("say", x.say(0, 1), false);
        Kit.due("sell", x.sell(0, 1, 1), false);
        Kit.refused("full", x, 0, 3, 0);
        Kit.due("sign, not as told", x.sign(0, 1, 10), false);
        Kit.due("say, none such", x.say(0, 9), false);
        Kit.due("sell, not as told", x.sell(0, 0, 1), false);
        Kit.refused("full", x, 3, 3, 0);
        Kit.due("rows of one", x.told(1, 3), 150);
        Kit.due("the last of one", x.record(1, 149, 3), 99);
        Kit.due("LENT all the same", x.lend(0, 1, 1, 0), 0);
        Kit.due("rows", x.count(4), 300);
    }

    private static void told() {
        NailedBoxes x = Kit.village(Kit.FAIRS);
        x.month();
        x.month();
        x.box(1, 2);
        int[] due = {1, 1, -1, 0, -1, 2, 2};
        for (int what = 0; what < due.length; what++) {
            Kit.due("told(0, " + what + ")", x.told(0, what), due[what]);
        }
        Kit.due("told(0, 7)", x.told(0, 7), -1);
        Kit.due("told(0, -1)", x.told(0, -1), -1);
        Kit.due("told(1, 0)", x.told(1, 0), -1);
        Kit.due("told(-1, 0)", x.told(-1, 0), -1);
        Kit.toJune(x);
        Kit.due("the THING in June", x.told(0, 4), 2);
    }

    private static void record() {
        NailedBoxes x = Kit.village(Kit.FAIRS);
        x.box(0, 1);
        x.box(0, 0);
        x.say(0, 3);
        x.month();
        x.sign(1, 1, 9);
        x.month();
        x.sell(0, 5, 77);
        int[][] due = {{1, 0, -1, 3, 0}, {0, 0, 5, 77, 2}};
        for (int k = 0; k < 2; k++) {
            for (int what = 0; what < 5; what++) {
                Kit.due("record(0, " + k + ", " + what + ")", x.record(0, k, what), due[k][what]);
            }
            Kit.due("record(0, " + k + ", 5)", x.record(0, k, 5), -1);
            Kit.due("record(0, " + k + ", 6)", x.record(0, k, 6), -1);
            Kit.due("record(0, " + k + ", -1)", x.record(0, k, -1), -1);
        }
        Kit.due("record(1, 0, 4)", x.record(1, 0, 4), 1);
        Kit.due("record(0, 2, 0)", x.record(0, 2, 0), -1);
        Kit.due("record(0, -1, 0)", x.record(0, -1, 0), -1);
        Kit.due("record(2, 0, 0)", x.record(2, 0, 0), -1);
        Kit.due("record(-1, 0, 0)", x.record(-1, 0, 0), -1);
    }

    private static void likely(String where, NailedBoxes x, int box, int... due) {
        for (int thing = 0; thing < due.length; thing++) {
            Kit.due(where + ": think(" + box + ", " + thing + ")", x.think(box, thing), due[thing]);
        }
    }

    /** Three things of WORTH 100, 50, 0 by 1; all kinds of people. */
    private static NailedBoxes three() {
        return Kit.village("thing a 100 10 1;thing b 50 20 2;thing c 0 30 3;who f fair 999;who n name 999;"
                + "who l lemon 999;who b best 999;who c chain 999;who s sworn 999;".replace("who b", "who h")
                        .replace("who c", "who i"));
    }

    private static void thinkSaid() {
        int[][] due = {{818181, 90909, 90909}, {666666, 166666, 166666}, {333333, 333333, 333333},
            {333333, 333333, 333333}, {333333, 333333, 333333}, {1000000, 0, 0}};
        for (int who = 0; who < 6; who++) {
            NailedBoxes x = three();
            x.box(who, 1);
            x.say(0, 0);
            likely("MANNER " + who, x, 0, due[who]);
            Kit.due("think(0, 3)", x.think(0, 3), -1);
            Kit.due("think(0, -1)", x.think(0, -1), -1);
            Kit.due("think(1, 0)", x.think(1, 0), -1);
            x.box(who == 0 ? 1 : 0, 1);
            x.sell(1, who, 0);
            x.say(1, 0);
            likely("who didn't know " + who, x, 1, 333333, 333333, 333333);
            x.open(1);
            likely("who didn't know then " + who, x, 1, 333333, 333333, 333333);
            x.say(1, 0);
            likely("who knew then " + who, x, 1, due[who]);
        }
        NailedBoxes x = three();
        x.box(0, 0);
        x.say(0, 0);
        x.sell(0, 5, 3);
        Kit.due("MEAN", x.mean(0), 8636);
        Kit.due("mean(1)", x.mean(1), -1);
        Kit.due("mean(-1)", x.mean(-1), -1);
    }

    private static void thinkSold() {
        // lemon, in MONTH 0 at 51: WORTH 100 isn't below it, 50 and 0 are
        NailedBoxes x = three();
        x.box(2, 0);
        x.sell(0, 0, 51);
        likely("lemon at 51", x, 0, 52631, 473684, 473684);
        x.box(2, 0);
        x.sell(1, 0, 50);
        likely("lemon at 50", x, 1, 90909, 90909, 818181);
        // best: KEPT 80, 40, 0
        x.box(3, 0);
        x.sell(2, 0, 40);
        likely("best at 40", x, 2, 52631, 473684, 473684);
        x.box(3, 0);
        x.sell(3, 0, 39);
        likely("best at 39", x, 3, 90909, 90909, 818181);
        for (int who : new int[] {0, 4, 5}) {
            int box = x.box(who, 0);
            x.sell(box, 1, 5);
            likely("manner " + who, x, box, 333333, 333333, 333333);
        }
        // name: nothing SAID, then by what he last SAID, others' sayings are not his
        int box = x.box(1, 0);
        x.sell(box, 0, 1);
        likely("name, nothing SAID", x, box, 333333, 333333, 333333);
        x.say(box, 2);
        x.sell(box, 1, 1);
        likely("fair didn't know", x, box, 333333, 333333, 333333);
        x.sell(box, 0, 1);
        likely("name, nothing SAID by him", x, box, 333333, 333333, 333333);
        box = x.box(1, 0);
        x.say(box, 0);
        x.say(box, 1);
        likely("SAID a and b", x, box, 444444, 444444, 111111);
        x.sell(box, 0, 1);
        likely("SOLD as b", x, box, 190476, 761904, 47619);
        // SAID while he didn't know, SOLD while he knew
        box = x.box(0, 0);
        x.sell(box, 1, 1);
        x.say(box, 1);
        x.open(box);
        x.sell(box, 0, 1);
        likely("SOLD as it was SAID", x, box, 166666, 666666, 166666);
        // SOLD by one who didn't know
        box = x.box(0, 0);
        x.sell(box, 2, 1);
        x.sell(box, 0, 70);
        likely("lemon didn't know", x, box, 333333, 333333, 333333);
        thinkSpoiled();
    }

    private static void thinkSpoiled() {
        NailedBoxes x = Kit.village("thing a 100 10 1 spoils 20;thing b 70 20 2;who l lemon 999;who h best 999;");
        x.month();
        x.month();
        x.box(0, 0);
        x.sell(0, 1, 61);
        x.box(1, 0);
        x.sell(1, 0, 48);
        x.month();
        likely("WORTH 60 then", x, 0, 900000, 100000);
        likely("KEPT 48 then", x, 1, 900000, 100000);
        Kit.due("MEAN by WORTH in June", x.mean(0), 700);
    }

    private static void thinkSigns() {
        NailedBoxes x = three();
        x.box(0, 0);
        x.sign(0, 0, 20);
        likely("weighed, 8 without", x, 0, 166666, 666666, 166666);
        x.box(0, 0);
        x.sign(1, 1, 3);
        likely("shaken, 6 without", x, 1, 285714, 285714, 428571);
        x.sign(1, 1, 4);
        likely("shaken, none such", x, 1, 285714, 285714, 428571);
        NailedBoxes y = Kit.village("thing a 100 10 1;thing b 50 10 2;thing c 0 30 3;who f fair 999;weigh 3;shake 10;");
        y.box(0, 0);
        y.sign(0, 0, 10);
        likely("weighed by 3", y, 0, 230769, 230769, 538461);
        y.sign(0, 1, 2);
        likely("shaken by 10", y, 0, 0, 1000000, 0);
    }

    private static void nothingLikely() {
        NailedBoxes x = three();
        x.box(5, 0);
        x.say(0, 0);
        x.say(0, 1);
        likely("sworn twice", x, 0, -1, -1, -1);
        Kit.due("MEAN", x.mean(0), -1);
    }

    private static void greatNumbers() {
        NailedBoxes x = Kit.village("thing a 999 10 1;thing b 998 10 2;who f fair 999;fills f 99 a;who g fair 1;fills g 1 a,2 b;");
        x.box(0, 0);
        likely("for sure", x, 0, 1000000, 0);
        Kit.due("MEAN", x.mean(0), 99900);
        x.box(1, 0);
        likely("thirds", x, 1, 333333, 666666);
        Kit.due("MEAN", x.mean(1), 99833);
        NailedBoxes y = Kit.village("thing a 999 10 1;thing b 998 10 2;who f fair 999;fills f 2 a,1 b;");
        y.box(0, 0);
        Kit.due("MEAN, cut", y.mean(0), 99866);
        for (int k = 0; k < 14; k++) {
            x.say(1, 0);
        }
        // cut at each row: b has 66666666666666 and 13 times a tenth of it, then 6 by 10
        likely("cut away", x, 1, 1000000, 0);
    }

    private static void lend() {
        NailedBoxes x = Kit.village(Kit.FAIRS);
        x.box(0, 0);
        x.box(0, 1);
        int[][] wrong = {{2, 1, 5, 5}, {-1, 1, 5, 5}, {0, 0, 5, 5}, {0, 6, 5, 5}, {0, -1, 5, 5}, {0, 1, 0, 5}, {0, 1, 51, 5},
            {0, 1, 10000, 5}, {0, 1, 5, 11}, {0, 1, 5, -1}};
        for (int[] w : wrong) {
            Kit.due("lend(" + w[0] + ", " + w[1] + ", " + w[2] + ", " + w[3] + ")", x.lend(w[0], w[1], w[2], w[3]), -1);
        }
        Kit.refused("lend()", x, wrong.length, 0, 0);
        Kit.due("lend", x.lend(0, 1, 50, 10), 0);
        Kit.due("in whose hands", x.told(0, 1), 1);
        Kit.due("coins the other way", x.who(0, 1), 250);
        Kit.due("coins the other way", x.who(1, 1), 0);
        Kit.due("not in the record", x.count(4), 0);
        int[] due = {0, 0, 1, 50, 50, 0, -1};
        for (int what = 0; what < due.length; what++) {
            Kit.due("loan(0, " + what + ")", x.loan(0, what), due[what]);
        }
        Kit.due("lent on", x.lend(0, 5, 39, 7), 1);
        Kit.due("by who has it", x.loan(1, 1), 1);
        Kit.due("more, cut", x.loan(1, 4), 27);
        Kit.due("loan(0, -1)", x.loan(0, -1), -1);
        Kit.due("loan(2, 0)", x.loan(2, 0), -1);
        Kit.due("loan(-1, 0)", x.loan(-1, 0), -1);
        x.box(0, 1);
        x.into(1, 2);
        Kit.due("not the outermost", x.lend(1, 5, 1, 1), -1);
        Kit.toJune(x);
        Kit.due("in June", x.lend(0, 0, 1, 1), -1);
        Kit.refused("lend()", x, wrong.length + 2, 0, 0);
    }

    private static void lendTwenty() {
        NailedBoxes x = Kit.village(Kit.FAIRS);
        x.box(0, 0);
        for (int k = 0; k < 20; k++) {
            Kit.due("lend " + k, x.lend(0, k % 2 == 0 ? 5 : 0, 1, 0), k);
        }
        Kit.due("the 21st", x.lend(0, 5, 1, 0), -1);
        Kit.refused("the 21st", x, 0, 1, 0);
        Kit.due("the 21st, not as told", x.lend(0, 0, 1, 0), -1);
        Kit.refused("the 21st", x, 1, 1, 0);
        Kit.due("LENT ones", x.count(13), 20);
    }

    private static void bring() {
        NailedBoxes x = Kit.village(Kit.FAIRS);
        x.box(1, 0);
        x.box(0, 1);
        x.lend(0, 5, 100, 3);
        Kit.due("none such", x.bring(1), false);
        Kit.due("none such", x.bring(-1), false);
        x.sell(0, 4, 1);
        Kit.due("who hasn't it", x.bring(0), false);
        x.sell(0, 5, 1);
        Kit.due("in his hands once more", x.who(5, 2), 1);
        x.sell(1, 1, 21);
        Kit.due("PURSE", x.who(1, 1), 129);
        Kit.due("who hasn't the coins", x.bring(0), false);
        Kit.refused("bring()", x, 4, 0, 0);
        x.sell(1, 0, 1);
        Kit.due("who has them", x.bring(0), true);
        Kit.due("paid", x.who(1, 1), 0);
        Kit.due("got", x.who(5, 1), 500 - 100 + 130);
        Kit.due("it went back", x.told(0, 1), 1);
        Kit.due("BROUGHT BACK", x.loan(0, 5), 1);
        Kit.due("once", x.bring(0), false);
        x.box(0, 1);
        x.lend(2, 5, 2, 0);
        x.sell(1, 5, 1);
        x.into(2, 1);
        Kit.due("not outermost", x.bring(1), false);
        x.lend(1, 0, 5, 0);
        x.box(0, 1);
        x.lend(3, 5, 5, 0);
        Kit.toJune(x);
        Kit.due("in June", x.bring(3), false);
        Kit.refused("bring()", x, 7, 0, 0);
        Kit.due("rows of the record", x.told(0, 3), 2);
    }

    private static void nothingOfFormerBoxes() {
        NailedBoxes x = Kit.village(Kit.FAIRS);
        x.image();
        for (int round = 0; round < 2; round++) {
            x.box(4, 3);
            x.box(0, 1);
            Kit.due("KNOWS " + round, x.told(1, 5), 1);
            Kit.due("not in a BOX " + round, x.told(0, 2), -1);
            Kit.due("HOLDERS " + round, x.holds(1, 2, 100), true);
            Kit.due("LENT " + round, x.lend(1, 4, 10, 0), 0);
            Kit.due("of BOX 1", x.loan(0, 0), 1);
            Kit.due("not BROUGHT BACK yet", x.loan(0, 5), 0);
            x.open(1);
            Kit.due("BROUGHT BACK " + round, x.bring(0), true);
            Kit.due("to whom " + round, x.told(1, 1), 0);
            x.sell(0, 0, 0);
            x.into(0, 1);
            if (round == 0) {
                x.back(0);
            }
        }
        Kit.tell(x, Kit.FAIRS);
        x.box(4, 3);
        x.box(0, 1);
        Kit.due("KNOWS of a new VILLAGE's", x.told(1, 5), 1);
        Kit.due("LENT in a new VILLAGE", x.lend(1, 4, 10, 0), 0);
        Kit.due("not BROUGHT BACK yet", x.loan(0, 5), 0);
        Kit.due("BROUGHT BACK", x.bring(0), true);
        Kit.due("HOLDERS of a new VILLAGE's", x.holds(1, 0, 100), true);
        Kit.due("and of the other", x.holds(0, 11, 1), false);
        Kit.due("and of the other", x.holds(0, 5, 100), true);
    }

    private static void nameIsTheFirst() {
        NailedBoxes x = Kit.village("thing a 100 10 1;thing b 50 20 2;who n name 9;who m fair 9;");
        x.box(0, 0);
        x.say(0, 1);
        x.sell(0, 1, 1);
        likely("SAID b and SOLD", x, 0, 58823, 941176);
    }

    /** What says nothing leaves all as it was, however often. */
    private static void nothingTold() {
        NailedBoxes x = three();
        int chain = x.box(4, 0);
        int sworn = x.box(5, 1);
        int unknowing = x.box(4, 0);
        x.sell(unknowing, 5, 1);
        for (int k = 0; k < 97; k++) {
            x.say(chain, 1);
            x.say(sworn, 1);
            x.say(unknowing, 1);
        }
        likely("chain", x, chain, 333333, 333333, 333333);
        likely("sworn", x, sworn, 0, 1000000, 0);
        likely("unknowing", x, unknowing, 333333, 333333, 333333);

        NailedBoxes y = three();
        int box = y.box(4, 0);
        y.open(box);
        for (int k = 0; k < 150; k++) {
            y.sell(box, k % 2 == 0 ? 5 : 4, 0);
            y.open(box);
        }
        likely("SOLD by chain, sworn", y, box, 333333, 333333, 333333);
        box = y.box(0, 0);
        for (int k = 0; k < 148; k++) {
            y.sell(box, k % 2 == 0 ? 1 : 0, 0);
        }
        likely("SOLD by fair, by name unknowing", y, box, 333333, 333333, 333333);

        NailedBoxes z = three();
        box = z.box(1, 0);
        z.sell(box, 4, 0);
        z.open(box);
        for (int k = 0; k < 298; k++) {
            z.sell(box, k % 2 == 0 ? 1 : 4, 0);
        }
        likely("SOLD by name, who didn't say", z, box, 333333, 333333, 333333);
    }
}
