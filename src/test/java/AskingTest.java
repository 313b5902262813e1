/** Promises 30 to 42 by hand: what the document's words give on small villages, the edges, and wrong inputs. */
public final class AskingTest {
    public static void main(String[] args) {
        rest();
        lost();
        best();
        little();
        weight();
        hours();
        lasts();
        liars();
        honest();
        name();
        fill();
        years();
        nothingThere();
        Kit.end();
    }

    private static NailedBoxes two() {
        // ann fills a (100) and b (10) by 1 and 3, bob b alone
        return Kit.village("thing a 100 5 1;thing b 10 5 2;who ann fair 1;who bob fair 1;fills ann 1 a,3 b;fills bob 9 b;");
    }

    private static void none(String call, int got) {
        Kit.due(call, got, -1);
    }

    private static void rest() {
        NailedBoxes x = two();
        Kit.due("by name: b is SOLD, a is KEPT", x.rest(1, 0, 0, 0, 0), 10);
        Kit.due("bits", x.rest(1, 0, 0, 0, 1), 2);
        Kit.due("by sound: a alone", x.rest(2, 0, 0, 0, 0), 100);
        Kit.due("bits", x.rest(2, 0, 0, 0, 1), 1);
        Kit.due("by weight: both", x.rest(3, 1, 1, 5, 0), 10);
        none("no SHARE of it", x.rest(0, 1, 0, 0, 0));
        none("law -1", x.rest(-1, 0, 0, 0, 0));
        none("law 4", x.rest(4, 0, 0, 0, 0));
        none("nobody", x.rest(0, 2, 0, 0, 0));
        none("nobody", x.rest(0, -1, 0, 0, 0));
        none("nothing", x.rest(0, 0, 2, 0, 0));
        none("nothing", x.rest(0, 0, -1, 0, 0));
        none("month -1", x.rest(0, 0, 0, -1, 0));
        none("month 6", x.rest(0, 0, 0, 6, 0));
        none("what 2", x.rest(0, 0, 0, 0, 2));
        none("what -1", x.rest(0, 0, 0, 0, -1));
        // 333333 and 666666 millionths of 10 and 20: the mean is 16 (cut), KEPT 8 and 16
        NailedBoxes y = Kit.village("thing a 10 1 1;thing b 20 1 1;who p fair 1;fills p 1 a,2 b;");
        Kit.due("a KEPT as the price is SOLD", y.rest(1, 0, 0, 0, 0), 16);
        Kit.due("both", y.rest(1, 0, 0, 0, 1), 3);
        NailedBoxes z = Kit.village("thing a 999 1 1;who p fair 1;keeps 10;");
        Kit.due("999", z.rest(0, 0, 0, 0, 0), 999);
        NailedBoxes u = Kit.village("thing a 5 1 1 spoils 5;who p fair 1;");
        Kit.due("0 is a price", u.rest(0, 0, 0, 1, 0), 0);
    }

    private static void lost() {
        NailedBoxes x = two();
        // a isn't SOLD: 20 times 250000 by 2000000; by name the same; by sound nothing
        Kit.due("sealed", x.lost(0, 0), 250);
        Kit.due("by name", x.lost(1, 0), 250);
        Kit.due("by sound", x.lost(2, 0), 0);
        Kit.due("by weight", x.lost(3, 0), 250);
        Kit.due("the least", x.law(0), 2);
        Kit.due("of several the least", Kit.village("thing a 5 5 5;who p fair 1;").law(5), 0);
        none("lost(-1, 0)", x.lost(-1, 0));
        none("lost(4, 0)", x.lost(4, 0));
        none("lost(0, -1)", x.lost(0, -1));
        none("lost(0, 6)", x.lost(0, 6));
        none("law(-1)", x.law(-1));
        none("law(6)", x.law(6));
    }

    private static void best() {
        NailedBoxes x = Kit.village("thing a 100 1 1;thing b 200 1 1 spoils 40;who p fair 1;who q fair 1;fills q 1 b;");
        // in MONTH 0 b is KEPT for 160; in MONTH 1 it has 160 and is KEPT for 128: both are SOLD at 130
        Kit.due("best(0, 0)", x.best(0, 0), 1);
        Kit.due("best(0, 1)", x.best(0, 1), 130);
        Kit.due("best(1, 0)", x.best(1, 0), 0);
        Kit.due("best(1, 1)", x.best(1, 1), 200);
        none("best(0, 2)", x.best(0, 2));
        none("best(0, -1)", x.best(0, -1));
        none("best(2, 0)", x.best(2, 0));
        none("best(-1, 0)", x.best(-1, 0));
        Kit.due("of several the least", Kit.village("thing a 7 1 1;who p fair 1;").best(0, 0), 0);
    }

    private static void little() {
        NailedBoxes x = two();
        // ann: mean 32.50
        Kit.due("at 40: 60 by 4", x.little(0, 0, 40), 1500);
        Kit.due("at 20: 80 by 4 less 12.50", x.little(0, 0, 20), 750);
        Kit.due("at 0", x.little(0, 0, 0), 0);
        Kit.due("at 999", x.little(0, 0, 999), 0);
        none("little(2, 0, 0)", x.little(2, 0, 0));
        none("little(-1, 0, 0)", x.little(-1, 0, 0));
        none("little(0, -1, 0)", x.little(0, -1, 0));
        none("little(0, 6, 0)", x.little(0, 6, 0));
        none("little(0, 0, -1)", x.little(0, 0, -1));
        none("little(0, 0, 1000)", x.little(0, 0, 1000));
    }

    private static void weight() {
        NailedBoxes x = Kit.village("thing a 100 10 1;thing b 30 10 2;thing c 50 0 1;thing d 9 0 1 spoils 9;thing e 40 1 1;"
                + "who p fair 1;who q fair 1;who r fair 1;who s fair 1;fills p 1 a,1 b;fills q 1 c;fills r 1 d;fills s 9 e;");
        // KEPT 80, 24: at 8 for each both are SOLD, 130 isn't 160; at 7 to 3 b alone has 30
        Kit.due("p", x.weight(0, 0), 3);
        none("q: never SOLD", x.weight(1, 0));
        none("r ahead", x.weight(2, 0));
        Kit.due("r: KEPT for 0, weighs 0", x.weight(2, 1), 999);
        Kit.due("s", x.weight(3, 0), 40);
        none("weight(4, 0)", x.weight(4, 0));
        none("weight(-1, 0)", x.weight(-1, 0));
        none("weight(0, -1)", x.weight(0, -1));
        none("weight(0, 6)", x.weight(0, 6));
    }

    private static void hours() {
        NailedBoxes x = two();
        Kit.due("how many", x.hours(0, 0, -1, 0), 2);
        Kit.due("the first price", x.hours(0, 0, 0, 0), 10);
        Kit.due("the first SOLD", x.hours(0, 0, 0, 1), 2);
        Kit.due("the second price", x.hours(0, 0, 1, 0), 100);
        Kit.due("the second SOLD", x.hours(0, 0, 1, 1), 1);
        none("the third", x.hours(0, 0, 2, 0));
        none("the third SOLD", x.hours(0, 0, 2, 1));
        none("what 1 of how many", x.hours(0, 0, -1, 1));
        none("what 2", x.hours(0, 0, 0, 2));
        none("what -1", x.hours(0, 0, 0, -1));
        none("k -2", x.hours(0, 0, -2, 0));
        none("nobody", x.hours(2, 0, 0, 0));
        none("nobody", x.hours(-1, 0, -1, 0));
        none("month -1", x.hours(0, -1, 0, 0));
        none("month 6", x.hours(0, 6, 0, 0));
    }

    private static void lasts() {
        NailedBoxes x = two();
        Kit.due("one", x.lasts(0, 0, 20, 20, 1), 1000000);
        Kit.due("the coins are too few", x.lasts(0, 0, 19, 20, 1), 0);
        // with b 10 are left
        Kit.due("two", x.lasts(0, 0, 20, 20, 2), 250000);
        // 30, 20, 10: a among the first two
        Kit.due("three", x.lasts(0, 0, 30, 20, 3), 437500);
        Kit.due("999 at most", x.lasts(0, 0, 999, 999, 20), 0);
        Kit.due("price 0", x.lasts(0, 0, 0, 0, 3), 1000000);
        Kit.due("price 0, cut often", x.lasts(0, 0, 0, 0, 20), 999999);
        int[][] wrong = {{2, 0, 1, 1, 1}, {-1, 0, 1, 1, 1}, {0, -1, 1, 1, 1}, {0, 6, 1, 1, 1}, {0, 0, -1, 1, 1}, {0, 0, 1000, 1, 1},
            {0, 0, 1, -1, 1}, {0, 0, 1, 1000, 1}, {0, 0, 1, 1, 0}, {0, 0, 1, 1, 21}};
        for (int[] w : wrong) {
            none("lasts of " + java.util.Arrays.toString(w), x.lasts(w[0], w[1], w[2], w[3], w[4]));
        }
        // thirds are cut at each BOX: 33333333333333 three times
        NailedBoxes y = Kit.village("thing a 1 1 1;thing b 1 1 1;thing c 1 1 1;who p fair 1;");
        Kit.due("cut", y.lasts(0, 0, 9, 1, 1), 999999);
    }

    private static void liars() {
        NailedBoxes x = Kit.village("thing a 100 1 1;thing b 10 1 1;thing c 40 1 1;thing d 90 1 1;thing e 100 1 1;"
                + "who p fair 1;fills p 1 a,1 b,1 c,1 d;who q fair 1;fills q 1 a,1 e;who r fair 1;fills r 1 a,8 b,1 d;");
        // (100 + 10 + 40 + 90) by 4 is 60, that isn't above 90; (100 + 10 + 40) by 3 is 50: b and c
        Kit.due("b, c", x.liars(0, 0, 0), 6);
        // at 9: 41 is above 40; at 10: 40 isn't; (100 + 10) by 2 is 55, less 10 is 45, above 40
        Kit.due("at 9", x.liars(0, 0, 9), 6);
        none("at 10", x.liars(0, 0, 10));
        Kit.due("at 15", x.liars(0, 0, 15), 2);
        Kit.due("at 44", x.liars(0, 0, 44), 2);
        none("at 45", x.liars(0, 0, 45));
        Kit.due("at 90 nobody", x.liars(0, 0, 90), 0);
        none("at 89", x.liars(0, 0, 89));
        Kit.due("the top has an equal", x.liars(1, 0, 0), 0);
        // r: (100 + 80) by 9 is 20
        Kit.due("by SHARES", x.liars(2, 0, 9), 2);
        none("by SHARES", x.liars(2, 0, 10));
        none("liars(3, 0, 0)", x.liars(3, 0, 0));
        none("liars(-1, 0, 0)", x.liars(-1, 0, 0));
        none("liars(0, -1, 0)", x.liars(0, -1, 0));
        none("liars(0, 6, 0)", x.liars(0, 6, 0));
        none("liars(0, 0, -1)", x.liars(0, 0, -1));
        none("liars(0, 0, 1000)", x.liars(0, 0, 1000));
    }

    private static void honest() {
        NailedBoxes x = Kit.village("thing z 999 1 1;thing a 90 1 1 spoils 30;thing b 80 1 1;thing c 80 1 1;who p fair 1;fills p 1 a,1 b,1 c;"
                + "who q fair 1;fills q 1 b;");
        Kit.due("the COST", x.honest(0, 0, 0), 10);
        Kit.due("TOP", x.honest(0, 0, 1), 1);
        Kit.due("the COST in 1", x.honest(0, 1, 0), 20);
        Kit.due("TOP, of several the least", x.honest(0, 1, 1), 2);
        Kit.due("one alone", x.honest(1, 0, 0), 0);
        none("honest(0, 0, 2)", x.honest(0, 0, 2));
        none("honest(0, 0, -1)", x.honest(0, 0, -1));
        none("honest(2, 0, 0)", x.honest(2, 0, 0));
        none("honest(-1, 0, 0)", x.honest(-1, 0, 0));
        none("honest(0, -1, 0)", x.honest(0, -1, 0));
        none("honest(0, 6, 0)", x.honest(0, 6, 0));
    }

    private static void name() {
        NailedBoxes x = Kit.village("thing a 96 1 1;thing b 10 1 1;who p fair 1;who q fair 1;fills p 1 a;fills q 1 b;");
        // by name 96, sealed 10: 86
        Kit.due("9 tenths", x.name(0, 9, 0), 860);
        Kit.due("9 tenths", x.name(0, 9, 1), 1);
        Kit.due("0 tenths", x.name(0, 0, 0), 86);
        Kit.due("0 tenths", x.name(0, 0, 1), 1);
        Kit.due("6 tenths", x.name(0, 6, 0), 215);
        Kit.due("7 tenths", x.name(0, 7, 0), 860);
        Kit.due("7 tenths", x.name(0, 7, 1), 3);
        Kit.due("not above", x.name(1, 4, 0), 0);
        Kit.due("not above", x.name(1, 4, 1), 1);
        none("name(0, -1, 0)", x.name(0, -1, 0));
        none("name(0, 10, 0)", x.name(0, 10, 0));
        none("name(0, 0, 2)", x.name(0, 0, 2));
        none("name(0, 0, -1)", x.name(0, 0, -1));
        none("name(2, 0, 0)", x.name(2, 0, 0));
        none("name(-1, 0, 0)", x.name(-1, 0, 0));
    }

    private static void fill() {
        NailedBoxes x = Kit.village("thing a 100 1 1;thing b 80 1 2;thing c 0 1 2;who p fair 1;fills p 5 a,5 b;who q fair 1;fills q 1 a;");
        // by name 90: less KEPT 80 and 64
        Kit.due("by name", x.fill(0, 1, 0, 0), 1);
        Kit.due("by name", x.fill(0, 1, 0, 1), 26);
        Kit.due("by sound a 100, b 80", x.fill(0, 2, 0, 0), 0);
        Kit.due("by sound", x.fill(0, 2, 0, 1), 20);
        Kit.due("of several the least", x.fill(1, 1, 0, 0), 0);
        none("law -1", x.fill(0, -1, 0, 0));
        none("law 4", x.fill(0, 4, 0, 0));
        none("month -1", x.fill(0, 0, -1, 0));
        none("month 6", x.fill(0, 0, 6, 0));
        none("what 2", x.fill(0, 0, 0, 2));
        none("what -1", x.fill(0, 0, 0, -1));
        none("nobody", x.fill(2, 0, 0, 0));
        none("nobody", x.fill(-1, 0, 0, 0));
    }

    private static void years() {
        NailedBoxes x = two();
        // REST by name 10 for b; a is KEPT for 80
        int a = x.years(0, 1000, 10);
        Kit.due("together", a + x.years(0, 1000, 11), 1000);
        Kit.due("brought", x.years(0, 1000, 0), 80 * a + 10 * (1000 - a));
        Kit.due("about a quarter", a > 200 && a < 300, true);
        Kit.due("no SHARE", x.years(1, 9, 10), 0);
        Kit.due("a whole SHARE", x.years(1, 9, 11), 9);
        // z = 0: 1442695040888963407 by 2^33 is 167951807, modulo 4 is 3: b
        x.seed(0);
        Kit.due("first of seed 0", x.years(0, 1, 11), 1);
        none("n 0", x.years(0, 0, 0));
        none("n 1001", x.years(0, 1001, 0));
        none("what 1", x.years(0, 1, 1));
        none("what 9", x.years(0, 1, 9));
        none("what 12", x.years(0, 1, 12));
        none("what -1", x.years(0, 1, -1));
        none("nobody", x.years(2, 1, 0));
        none("nobody", x.years(-1, 1, 0));
    }

    private static void nothingThere() {
        NailedBoxes[] all = {new NailedBoxes(), Kit.village(""), Kit.village("who p fair 1;"), Kit.village("thing a 1 1 1;")};
        for (NailedBoxes x : all) {
            none("rest", x.rest(0, 0, 0, 0, 0));
            none("lost", x.lost(0, 0));
            none("law", x.law(0));
            none("best", x.best(0, 0));
            none("its REST", x.best(0, 1));
            none("little", x.little(0, 0, 0));
            none("weight", x.weight(0, 0));
            none("hours", x.hours(0, 0, 0, 0));
            none("how many hours", x.hours(0, 0, -1, 0));
            none("what is SOLD in the hours", x.hours(0, 0, 0, 1));
            none("lasts", x.lasts(0, 0, 0, 0, 1));
            none("liars", x.liars(0, 0, 0));
            none("honest", x.honest(0, 0, 0));
            none("TOP", x.honest(0, 0, 1));
            none("name", x.name(0, 0, 0));
            none("name's lower number", x.name(0, 0, 1));
            none("fill", x.fill(0, 0, 0, 0));
            none("what it brings", x.fill(0, 0, 0, 1));
            none("years", x.years(0, 1, 0));
            none("how often", x.years(0, 1, 10));
            Kit.refused("asking", x, 0, 0, 0);
        }
    }
}
