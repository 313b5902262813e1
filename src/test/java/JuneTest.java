/** Promises 18 to 20 and 24 to 29: holders, June, books. */
public final class JuneTest {
    public static void main(String[] args) {
        aheadOfJune();
        holds();
        june();
        apart();
        apartOfTheFirst();
        known();
        knownFromTheFirst();
        heavy();
        came();
        wanted();
        wantedLittle();
        rows();
        wrong();
        wrongAgain();
        Kit.end();
    }

    private static void aheadOfJune() {
        NailedBoxes x = Kit.village(Kit.FAIRS);
        x.box(0, 0);
        for (int k = 0; k < 5; k++) {
            Kit.due("june(0)", x.june(0), -1);
            Kit.due("apart()", x.apart(), -1);
            Kit.due("known(0, 1)", x.known(0, 1), -1);
            Kit.due("heavy(0)", x.heavy(0), -1);
            Kit.due("wanted(0, 0)", x.wanted(0, 0), -1);
            x.month();
        }
        Kit.due("june(0)", x.june(0), 300);
        Kit.due("apart()", x.apart(), 0);
        Kit.due("known(0, 1)", x.known(0, 1), 0);
        Kit.due("heavy(0)", x.heavy(0), 30);
        Kit.refused("asking", x, 0, 0, 0);
    }

    private static void holds() {
        NailedBoxes x = Kit.village(Kit.FAIRS);
        x.box(1, 2);
        int[][] wrong = {{1, 0, 5}, {-1, 0, 5}, {0, 6, 5}, {0, -1, 5}, {0, 0, -1}, {0, 0, 101}};
        for (int[] w : wrong) {
            Kit.due("holds(" + w[0] + ", " + w[1] + ", " + w[2] + ")", x.holds(w[0], w[1], w[2]), false);
        }
        Kit.due("all", x.holds(0, 0, 100), true);
        Kit.due("above 100 together", x.holds(0, 1, 1), false);
        Kit.due("told again", x.holds(0, 0, 50), true);
        Kit.due("together 100", x.holds(0, 1, 50), true);
        Kit.due("together 101", x.holds(0, 2, 1), false);
        Kit.due("told again, less", x.holds(0, 0, 33), true);
        Kit.refused("holds()", x, wrong.length + 2, 0, 0);
        Kit.toJune(x);
        // cake is worth 35 in June
        Kit.due("33 of 35", x.june(0), 200 + 11);
        Kit.due("50 of 35, none in hands", x.june(1), 50 + 17);
        Kit.due("in June", x.holds(0, 1, 0), true);
        Kit.due("no more", x.june(1), 50);
        Kit.due("nobody holds", x.holds(0, 0, 0), true);
        Kit.due("in hands again", x.june(1), 85);
    }

    /** Things of WORTH 1, 10, 100; pairs a b 1000.. as small as can be told apart. */
    private static NailedBoxes pairs() {
        return Kit.village("thing a 1 5 1;thing b 10 6 1;thing c 100 7 1 spoils 10;who p fair 0;who q fair 0;who r fair 9;"
                + "pair a b 500;pair b c 200;pair a b 3;");
    }

    private static void june() {
        NailedBoxes x = pairs();
        x.box(0, 0);
        x.box(0, 0);
        x.box(0, 1);
        x.box(0, 1);
        x.box(0, 1);
        x.box(0, 2);
        x.into(0, 2);
        x.box(1, 0);
        Kit.toJune(x);
        Kit.due("2 a, 3 b, 1 c", x.june(0), 2 + 30 + 50 + 2 * 503 + 200);
        Kit.due("1 a", x.june(1), 1);
        Kit.due("a PURSE", x.june(2), 9);
        Kit.due("june(3)", x.june(3), -1);
        Kit.due("june(-1)", x.june(-1), -1);
        Kit.due("hold one in a BOX", x.holds(0, 1, 1), true);
        Kit.due("it makes no pairs", x.june(0), 1 + 30 + 50 + 503 + 200);
        Kit.due("cut", x.june(1), 1);
        x.holds(5, 2, 99);
        Kit.due("nor this", x.june(0), 1 + 30 + 503);
        Kit.due("99 of 50", x.june(2), 9 + 49);
    }

    private static void apart() {
        NailedBoxes x = pairs();
        x.box(0, 0);
        x.box(1, 1);
        x.box(2, 1);
        x.box(2, 2);
        x.box(2, 0);
        Kit.toJune(x);
        // together 2 a, 2 b, 1 c: 2 * 503 + 200; in r's hands: 503 + 200
        Kit.due("one pair apart", x.apart(), 503);
        x.holds(1, 0, 1);
        Kit.due("a BOX with HOLDERS", x.apart(), 0);
        x.holds(1, 0, 0);
        x.holds(2, 0, 1);
        Kit.due("the other one", x.apart(), 503 + 200);
    }

    private static void known() {
        NailedBoxes x = Kit.village(Kit.FAIRS);
        x.box(1, 0);
        x.box(1, 2);
        x.box(1, 1);
        x.box(1, 1);
        x.box(0, 1);
        x.sell(0, 5, 1);
        x.sell(0, 4, 1);
        x.sell(1, 5, 1);
        x.sell(2, 5, 1);
        x.lend(3, 5, 1, 1);
        x.say(0, 0);
        x.say(0, 1);
        x.say(4, 0);
        x.say(1, 2);
        x.sell(4, 5, 0);
        x.say(4, 1);
        x.say(4, 0);
        Kit.toJune(x);
        // 100, 35, 10
        Kit.due("the mean", x.known(1, 0), 4833);
        Kit.due("how many", x.known(1, 1), 3);
        Kit.due("one of ann's", x.known(0, 0), 1000);
        Kit.due("none", x.known(2, 0), -1);
        Kit.due("none", x.known(2, 1), 0);
        Kit.due("so, by eve", x.known(4, 2), 1);
        Kit.due("not so, by eve", x.known(4, 3), 1);
        Kit.due("so, by fay", x.known(5, 2), 2);
        Kit.due("not so, by fay", x.known(5, 3), 1);
        Kit.due("not so, by ann", x.known(0, 3), 1);
        Kit.due("so, by bob", x.known(1, 2), 0);
        Kit.due("known(0, 4)", x.known(0, 4), -1);
        Kit.due("known(0, -1)", x.known(0, -1), -1);
        Kit.due("known(6, 1)", x.known(6, 1), -1);
        Kit.due("known(-1, 1)", x.known(-1, 1), -1);
    }

    private static void heavy() {
        NailedBoxes x = Kit.village(Kit.FAIRS);
        x.box(0, 0);
        x.box(0, 1);
        x.box(1, 2);
        x.box(4, 3);
        x.sell(2, 0, 0);
        x.sell(3, 0, 0);
        x.into(3, 2);
        x.into(2, 1);
        x.into(0, 1);
        Kit.toJune(x);
        Kit.due("stone with ham, cake with left", x.heavy(1), 30 + 30 + 8 + 3);
        Kit.due("cake with left", x.heavy(2), 11);
        Kit.due("left", x.heavy(3), 3);
        Kit.due("heavy(4)", x.heavy(4), -1);
        Kit.due("heavy(-1)", x.heavy(-1), -1);
    }

    private static void came() {
        NailedBoxes x = Kit.village(Kit.FAIRS);
        Kit.due("none was SOLD", x.came(2), -1);
        Kit.due("none was SOLD", x.came(1), 0);
        Kit.due("none was SOLD", x.came(0), 0);
        x.box(0, 0);
        x.box(0, 1);
        x.box(0, 1);
        x.sell(0, 5, 0);
        Kit.due("for 0", x.came(2), 0);
        x.sell(0, 3, 30);
        x.sell(0, 0, 20);
        x.sell(1, 5, 7);
        x.lend(1, 4, 99, 0);
        x.lend(2, 4, 1, 0);
        x.lend(2, 0, 1, 0);
        Kit.due("CAME BACK", x.came(0), 1);
        Kit.due("most hands", x.came(1), 3);
        Kit.due("greatest price", x.came(2), 30);
        x.lend(1, 0, 1, 0);
        Kit.due("SOLD and LENT back", x.came(0), 2);
        Kit.due("came(3)", x.came(3), -1);
        Kit.due("came(-1)", x.came(-1), -1);
    }

    private static void wanted() {
        NailedBoxes x = pairs();
        x.box(0, 0);
        x.box(1, 1);
        x.box(2, 1);
        x.box(2, 2);
        x.box(2, 1);
        Kit.toJune(x);
        Kit.due("a: q as much as r, the least", x.wanted(0, 0), 1);
        Kit.due("503", x.wanted(0, 1), 503);
        Kit.due("b of q: p 503, r has more b than a, c", x.wanted(1, 0), 0);
        Kit.due("503", x.wanted(1, 1), 503);
        Kit.due("c of r: q", x.wanted(3, 0), 1);
        Kit.due("200", x.wanted(3, 1), 200);
        Kit.due("wanted(0, 2)", x.wanted(0, 2), -1);
        Kit.due("wanted(0, -1)", x.wanted(0, -1), -1);
        Kit.due("wanted(5, 0)", x.wanted(5, 0), -1);
        Kit.due("wanted(-1, 0)", x.wanted(-1, 0), -1);
        x.holds(1, 0, 1);
        Kit.due("with HOLDERS", x.wanted(1, 0), -1);
        Kit.due("c: nobody has a b any more", x.wanted(3, 0), -1);
        Kit.due("by nobody", x.wanted(3, 1), -1);
        x.holds(0, 0, 1);
        x.holds(2, 0, 1);
        Kit.due("b: p has none to it", x.wanted(4, 0), -1);
    }

    private static void rows() {
        NailedBoxes x = Kit.village(Kit.FAIRS);
        x.box(0, 0);
        int[][] wrong = {{1, 0, 1, 5}, {-1, 0, 1, 5}, {0, 0, 0, 5}, {0, 6, 1, 5}, {0, 0, 6, 5}, {0, -1, 0, 5}, {0, 0, -1, 5},
            {0, 0, 1, -1}, {0, 0, 1, 10000}};
        for (int[] w : wrong) {
            Kit.due("row(" + w[0] + ", " + w[1] + ", " + w[2] + ", " + w[3] + ")", x.row(w[0], w[1], w[2], w[3]), -1);
        }
        Kit.refused("row()", x, wrong.length, 0, 0);
        for (int k = 1; k <= 40; k++) {
            if (k == 20) {
                Kit.toJune(x);
            }
            Kit.due("row " + k, x.row(0, 0, 1, k == 1 ? 9999 : 0), k);
        }
        Kit.due("the 41st", x.row(0, 0, 1, 5), -1);
        Kit.refused("the 41st", x, wrong.length, 1, 0);
        Kit.due("the 41st, not as told", x.row(0, 0, 0, 5), -1);
        Kit.refused("the 41st", x, wrong.length + 1, 1, 0);
        Kit.due("rows", x.count(6), 40);
    }

    private static void wrong() {
        NailedBoxes x = Kit.village(Kit.FAIRS);
        x.box(0, 0);
        x.box(1, 2);
        x.sell(0, 5, 500);
        Kit.due("none yet", x.wrong(0), -1);
        // PURSES as told: ann 200, bob 50, cid 0, dot 300
        x.row(0, 0, 1, 50);
        x.row(1, 1, 0, 250);
        Kit.due("bob had 0, ann 250", x.wrong(1), -1);
        Kit.due("each had it", x.wrong(0), -1);
        x.row(0, 1, 0, 1);
        Kit.due("ann had 0", x.wrong(1), 2);
        x.row(1, 1, 3, 9999);
        Kit.due("bob hadn't it", x.wrong(0), 3);
        Kit.due("still", x.wrong(1), 2);
        x.row(1, 2, 3, 1);
        Kit.due("the first", x.wrong(0), 3);
        Kit.due("wrong(2)", x.wrong(2), -1);
        Kit.due("wrong(-1)", x.wrong(-1), -1);

        NailedBoxes y = Kit.village(Kit.FAIRS);
        y.box(0, 0);
        y.row(0, 1, 2, 50);
        y.row(0, 0, 2, 7);
        Kit.due("a row that does nothing", y.wrong(0), 0);
        Kit.due("cid had 0", y.wrong(1), 1);
        y.back(0);
        NailedBoxes z = Kit.village(Kit.FAIRS);
        z.box(0, 0);
        z.row(0, 0, 2, 7);
        z.row(0, 2, 0, 207);
        Kit.due("paid all the same", z.wrong(1), 0);
        z.row(0, 0, 1, 0);
        z.row(0, 1, 2, 201);
        z.row(0, 2, 1, 200);
        Kit.due("the first one stays", z.wrong(1), 0);
        NailedBoxes u = Kit.village(Kit.FAIRS);
        u.box(0, 0);
        u.row(0, 1, 0, 9999);
        Kit.due("who hasn't it pays nothing", u.wrong(1), -1);
    }

    private static void apartOfTheFirst() {
        NailedBoxes x = pairs();
        x.box(0, 0);
        x.box(0, 1);
        Kit.toJune(x);
        Kit.due("in hands of the first", x.apart(), 0);
    }

    private static void knownFromTheFirst() {
        NailedBoxes x = Kit.village(Kit.FAIRS);
        x.box(0, 0);
        x.say(0, 0);
        Kit.toJune(x);
        Kit.due("the first row", x.known(0, 2), 1);
    }

    private static void wantedLittle() {
        NailedBoxes x = Kit.village("thing a 1 5 1;thing b 10 6 1;who p fair 0;who q fair 0;pair a b 1;");
        x.box(0, 0);
        x.box(1, 1);
        Kit.due("ahead of June", x.wanted(0, 0), -1);
        Kit.toJune(x);
        Kit.due("by q", x.wanted(0, 0), 1);
        Kit.due("1 more", x.wanted(0, 1), 1);
        x.holds(0, 0, 1);
        Kit.due("1 hundredth is held", x.wanted(0, 0), -1);
        x.holds(0, 0, 0);
        Kit.due("none is held", x.wanted(0, 0), 1);
        x.holds(1, 0, 1);
        Kit.due("the other one is held", x.wanted(0, 0), -1);
    }

    private static void wrongAgain() {
        NailedBoxes x = Kit.village(Kit.FAIRS);
        x.box(0, 0);
        x.image();
        x.row(0, 1, 2, 1);
        x.row(0, 0, 2, 1);
        Kit.due("who hadn't it", x.wrong(0), 0);
        Kit.due("who paid too much", x.wrong(1), 1);
        x.back(0);
        Kit.due("no row", x.wrong(0), -1);
        Kit.due("no row", x.wrong(1), -1);
    }
}
