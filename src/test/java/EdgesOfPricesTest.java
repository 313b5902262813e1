/** Terms of pools and what is reckoned with them, promises 30 to 37: each sentence that names a boundary has a test of its own. */
public final class EdgesOfPricesTest {
    // by 1 and 3: a is KEPT for 80, the mean of both is 32
    private static final String TWO = "thing a 100 5 1;thing b 10 5 2;who p fair 1;who q fair 1;fills p 1 a,3 b;fills q 9 b;";

    public static void main(String[] args) {
        poolsOfLaws();
        millionthsCut();
        restNotAboveTheMean();
        restFromTheLeast();
        soldOnes();
        lostOfUnsold();
        bestLaw();
        rest();
        restNone();
        lost();
        lostNone();
        law();
        lawNone();
        bestMonth();
        best();
        bestNone();
        littleAboveZero();
        littleCut();
        little();
        littleNone();
        byWeight();
        byWeightOfShares();
        weight();
        weightNone();
        hoursTillAllIsSold();
        hours();
        hoursNone();
        buyAtLeastThePrice();
        coinsAtMost();
        cutForEachBox();
        lasts();
        lastsNone();
        Kit.end();
    }

    private static NailedBoxes two() {
        return Kit.village(TWO);
    }

    // ---- pools, rest, lost ----

    /** Nothing is KEPT for anything, so that all is SOLD at the mean of the pool. */
    private static void poolsOfLaws() {
        Kit.sentence(0, "POOLS of a LAW (0 sealed, 1 the filler's name told, 2 a window: sound told, 3 weight told):");
        NailedBoxes x = Kit.village("thing a 100 5 1;thing b 10 5 2;thing c 60 7 2;who p fair 1;who q fair 1;fills p 3 a,3 b;fills q 99 c;keeps 0;");
        Kit.due("sealed: 50, 5, 60 of 2", x.rest(0, 0, 0, 0, 0), 57);
        Kit.due("all", x.rest(0, 1, 2, 0, 1), 7);
        Kit.sentence(0, "by fillers; by SOUND; by WEIGHT.");
        Kit.due("p's", x.rest(1, 0, 0, 0, 0), 55);
        Kit.due("p's", x.rest(1, 0, 1, 0, 1), 3);
        Kit.due("q's", x.rest(1, 1, 2, 0, 0), 60);
        Kit.due("q's", x.rest(1, 1, 2, 0, 1), 4);
        Kit.due("sound 1", x.rest(2, 0, 0, 0, 0), 100);
        Kit.due("sound 1", x.rest(2, 0, 0, 0, 1), 1);
        Kit.due("sound 2, of both", x.rest(2, 0, 1, 0, 0), 43);
        Kit.due("sound 2, of both", x.rest(2, 1, 2, 0, 1), 6);
        Kit.due("weight 5", x.rest(3, 0, 1, 0, 0), 55);
        Kit.due("weight 5", x.rest(3, 0, 0, 0, 1), 3);
        Kit.due("weight 7", x.rest(3, 1, 2, 0, 0), 60);
        Kit.due("weight 7", x.rest(3, 1, 2, 0, 1), 4);
    }

    private static void millionthsCut() {
        Kit.sentence(0, "SHARES of all people together (each one's SHARE by all of that one, in millionths, cut), in one pool;");
        // 166666 of 999999 is less than a sixth
        NailedBoxes x = Kit.village("thing a 600 1 1;thing b 0 1 1;who p fair 1;who q fair 1;fills p 1 a,5 b;fills q 99 a;keeps 0;");
        Kit.due("a sixth of 600", x.rest(1, 0, 0, 0, 0), 99);
        Kit.due("7 twelfths of 600", x.rest(0, 0, 0, 0, 0), 349);
        NailedBoxes y = Kit.village("thing a 600 1 1;thing b 0 1 1;who p fair 1;fills p 1 a,4 b;keeps 0;");
        Kit.due("a fifth isn't cut", y.rest(1, 0, 0, 0, 0), 120);
        NailedBoxes z = Kit.village("thing a 600 1 1;thing b 0 1 1;who p fair 1;who q fair 1;fills p 1 a;fills q 99 b;keeps 0;");
        Kit.due("each of the people counts the same", z.rest(0, 0, 0, 0, 0), 300);
    }

    private static void restNotAboveTheMean() {
        Kit.sentence(0, "REST of a pool in a MONTH: the greatest price 0 to 999 that isn't above the mean WORTH (cut, by shares)");
        NailedBoxes x = Kit.village("thing a 999 1 1;thing b 0 1 1;thing c 998 1 1;who p fair 1;fills p 1 a;who q fair 1;fills q 1 b;"
                + "who r fair 1;fills r 1 a,1 c;who s fair 1;fills s 1 a,3 b;keeps 0;");
        Kit.due("999", x.rest(1, 0, 0, 0, 0), 999);
        Kit.due("0", x.rest(1, 1, 1, 0, 0), 0);
        Kit.due("998.5, cut", x.rest(1, 2, 0, 0, 0), 998);
        Kit.due("249.75, cut", x.rest(1, 3, 0, 0, 0), 249);
        NailedBoxes y = Kit.village("thing a 20 1 1 spoils 6;who p fair 1;");
        int[] due = {20, 14, 8, 2, 0, 0};
        for (int month = 0; month < 6; month++) {
            Kit.due("in MONTH " + month, y.rest(1, 0, 0, month, 0), due[month]);
        }
    }

    private static void restFromTheLeast() {
        Kit.sentence(0, "of those THINGS whose KEPT isn't above it");
        // the mean of 10 and 20 by 1 and 2 is 16
        String text = "thing a 10 1 1;thing b 20 1 1;who p fair 1;fills p 1 a,2 b;keeps ";
        NailedBoxes x = Kit.village(text + "8;");
        Kit.due("KEPT 16 isn't above 16", x.rest(1, 0, 0, 0, 0), 16);
        Kit.due("both", x.rest(1, 0, 0, 0, 1), 3);
        NailedBoxes y = Kit.village(text + "9;");
        Kit.due("KEPT 18 is above 16: a alone", y.rest(1, 0, 0, 0, 0), 10);
        Kit.due("a alone", y.rest(1, 0, 0, 0, 1), 1);
        NailedBoxes z = Kit.village(text + "10;");
        Kit.due("KEPT 10 isn't above 10", z.rest(1, 0, 1, 0, 0), 10);
        Kit.due("what isn't SOLD is asked for", z.rest(1, 0, 1, 0, 1), 1);
        NailedBoxes u = Kit.village("thing a 2 1 1;thing b 8 1 1;thing c 11 1 1;who p fair 1;keeps 6;");
        Kit.due("KEPT 1, 4, 6: the mean of 2, 8 is 5, of all 7", u.rest(1, 0, 0, 0, 0), 7);
        Kit.due("all", u.rest(1, 0, 0, 0, 1), 7);
    }

    private static void soldOnes() {
        Kit.sentence(0, "(SOLD ones; none are: no such price).");
        NailedBoxes x = Kit.village("thing a 999 1 1;thing b 0 1 2;thing c 1 2 1;who p fair 1;keeps 10;");
        for (int law = 0; law < 4; law++) {
            for (int thing = 0; thing < 3; thing++) {
                // at the least KEPT there is always one
                Kit.due("law " + law + ", thing " + thing, x.rest(law, 0, thing, 0, 0) >= 0, true);
                Kit.due("law " + law + ", thing " + thing, x.rest(law, 0, thing, 0, 1) > 0, true);
            }
        }
        Kit.due("b alone at 0", x.rest(1, 0, 0, 0, 0), 0);
        Kit.due("b alone at 0", x.rest(1, 0, 0, 0, 1), 2);
    }

    private static void lostOfUnsold() {
        Kit.sentence(0, "LOST: of all THINGS that aren't SOLD the WORTH less KEPT, times shares, by all shares (of all pools together), in hundredths (cut).");
        NailedBoxes x = Kit.village("thing a 100 1 1;thing b 10 1 1;who p fair 1;fills p 1 a,2 b;");
        Kit.due("a third of 20, cut", x.lost(1, 0), 666);
        NailedBoxes y = Kit.village("thing a 100 1 1;thing b 10 1 1;who p fair 1;fills p 1 a,2 b;who q fair 1;fills q 1 b;");
        Kit.due("by all shares of both pools", y.lost(1, 0), 333);
        NailedBoxes z = Kit.village("thing a 100 1 1;thing b 10 1 1;thing c 50 1 1;who p fair 1;fills p 1 a,2 b;who q fair 1;fills q 1 b,1 c;");
        // p: 20 times 333333; q: 10 times 500000, for c is KEPT for 40, above 30
        Kit.due("of two pools", z.lost(1, 0), 583);
        NailedBoxes more = Kit.village("thing a 100 1 1;thing b 10 1 1;who p fair 1;who q fair 1;who r fair 1;who s fair 1;fills p 1 b;fills q 1 b;fills r 1 b;");
        // s: 20 times 500000, by 4000000
        Kit.due("more PEOPLE than THINGS", more.lost(1, 0), 250);
        NailedBoxes things = Kit.village("thing a 100 1 1;thing b 10 1 1;thing c 100 2 2;thing d 10 2 2;thing e 50 3 3;who p fair 1;fills p 1 a,1 b,1 c,1 d,4 e;");
        // of a and b, c and d: 20 times 250000, by 1000000; e is SOLD
        Kit.due("more SOUNDS than PEOPLE", things.lost(2, 0), 500);
        Kit.due("more WEIGHTS than PEOPLE", things.lost(3, 0), 500);
        NailedBoxes u = Kit.village("thing a 100 1 1;thing b 10 1 1;who p fair 1;keeps 0;");
        Kit.due("all is SOLD", u.lost(0, 0), 0);
        NailedBoxes v = Kit.village("thing a 100 1 1;thing b 10 1 1;who p fair 1;keeps 10;");
        Kit.due("KEPT is the WORTH", v.lost(0, 0), 0);
    }

    private static void bestLaw() {
        Kit.sentence(0, "BEST LAW of a MONTH: the one with the least LOST (of several the least).");
        String pq = "who p fair 1;who q fair 1;fills p 1 a;fills q 1 b;";
        Kit.due("all are alike", Kit.village("thing a 9 1 1;who p fair 1;").law(0), 0);
        Kit.due("fillers alone", Kit.village("thing a 100 1 1;thing b 10 1 1;" + pq).law(0), 1);
        Kit.due("fillers and sound and weight", Kit.village("thing a 100 1 1;thing b 10 2 2;" + pq).law(0), 1);
        Kit.due("sound and weight", Kit.village("thing a 100 1 1;thing b 10 2 2;who p fair 1;").law(0), 2);
        Kit.due("weight alone", Kit.village("thing a 100 1 1;thing b 10 2 1;who p fair 1;").law(0), 3);
        NailedBoxes x = Kit.village("thing a 99 1 1 spoils 30;thing b 10 2 1;who p fair 1;");
        Kit.due("in MONTH 0", x.law(0), 3);
        Kit.due("in MONTH 3 all is SOLD by each", x.law(3), 0);
    }

    // ---- promises 30 to 33 ----

    private static void rest() {
        Kit.sentence(30, "REST (what 0), SOLD THINGS (1; bits) of the pool of a THING of somebody's by a LAW in a MONTH.");
        NailedBoxes x = two();
        int[][] due = {{10, 2}, {10, 2}, {100, 1}, {10, 2}};
        for (int law = 0; law < 4; law++) {
            Kit.due("law " + law + ", REST", x.rest(law, 0, 0, 0, 0), due[law][0]);
            Kit.due("law " + law + ", SOLD", x.rest(law, 0, 0, 5, 1), due[law][1]);
        }
        NailedBoxes y = Kit.village("thing a 1 1 1;thing b 1 1 1;thing c 1 1 1;thing d 1 1 1;thing e 1 1 1;thing f 1 1 1;thing g 1 1 1;thing h 1 1 1;who p fair 1;");
        Kit.due("eight bits", y.rest(1, 0, 7, 0, 1), 255);
    }

    private static void restNone() {
        Kit.sentence(30, "NONE: none such,");
        NailedBoxes x = two();
        Kit.none("law 4", x.rest(4, 0, 0, 0, 0));
        Kit.none("who 2", x.rest(0, 2, 0, 0, 0));
        Kit.none("thing 2", x.rest(0, 0, 2, 0, 0));
        Kit.none("MONTH 6", x.rest(0, 0, 0, 6, 0));
        Kit.none("what 2", x.rest(0, 0, 0, 0, 2));
        for (int never : Kit.NEVER) {
            Kit.none("rest(" + never + ", ..)", x.rest(never, 0, 0, 0, 0));
            Kit.none("rest(0, " + never + ", ..)", x.rest(0, never, 0, 0, 0));
            Kit.none("rest(0, 0, " + never + ", ..)", x.rest(0, 0, never, 0, 0));
            Kit.none("rest(0, 0, 0, " + never + ", 0)", x.rest(0, 0, 0, never, 0));
            Kit.none("rest(0, 0, 0, 0, " + never + ")", x.rest(0, 0, 0, 0, never));
        }
        Kit.sentence(30, "no SHARE of it, no such price.");
        for (int law = 0; law < 4; law++) {
            Kit.none("q has no SHARE of a, by law " + law, x.rest(law, 1, 0, 0, 0));
            Kit.none("q has no SHARE of a, by law " + law, x.rest(law, 1, 0, 0, 1));
        }
        Kit.refused("asking", x, 0, 0, 0);
    }

    private static void lost() {
        Kit.sentence(31, "LOST.");
        NailedBoxes x = two();
        // a has 250000 of 2000000, and isn't SOLD but by sound
        int[] due = {250, 250, 0, 250};
        for (int law = 0; law < 4; law++) {
            Kit.due("law " + law, x.lost(law, 0), due[law]);
            Kit.due("law " + law + " in June", x.lost(law, 5), due[law]);
        }
    }

    private static void lostNone() {
        Kit.sentence(31, "NONE: none such, no VILLAGE.");
        NailedBoxes x = two();
        Kit.none("law 4", x.lost(4, 0));
        Kit.none("MONTH 6", x.lost(0, 6));
        for (int never : Kit.NEVER) {
            Kit.none("lost(" + never + ", 0)", x.lost(never, 0));
            Kit.none("lost(0, " + never + ")", x.lost(0, never));
        }
        Kit.refused("asking", x, 0, 0, 0);
        for (int law = 0; law < 4; law++) {
            Kit.none("no VILLAGE, law " + law, new NailedBoxes().lost(law, 0));
            Kit.none("an empty one, law " + law, Kit.village("").lost(law, 0));
            Kit.none("things alone, law " + law, Kit.village("thing a 1 1 1;").lost(law, 0));
            Kit.none("people alone, law " + law, Kit.village("who p fair 1;").lost(law, 0));
        }
    }

    private static void law() {
        Kit.sentence(32, "BEST LAW.");
        Kit.due("by sound", two().law(0), 2);
        Kit.due("by sound in June", two().law(5), 2);
    }

    private static void lawNone() {
        Kit.sentence(32, "NONE: none such, no VILLAGE.");
        NailedBoxes x = two();
        Kit.none("law(6)", x.law(6));
        for (int never : Kit.NEVER) {
            Kit.none("law(" + never + ")", x.law(never));
        }
        Kit.refused("asking", x, 0, 0, 0);
        Kit.none("no VILLAGE", new NailedBoxes().law(0));
        Kit.none("an empty one", Kit.village("keeps 5;").law(0));
        Kit.none("things alone", Kit.village("thing a 1 1 1;").law(0));
        Kit.none("people alone", Kit.village("who p fair 1;").law(0));
    }

    private static void bestMonth() {
        Kit.sentence(0, "BEST MONTH of somebody: of 0 to 4 that with the greatest REST by name (of several the least).");
        // b is SOLD with a, of 100, as soon as it isn't worth more than some 168
        NailedBoxes june = Kit.village("thing a 100 1 1;thing b 200 1 1 spoils 7;who p fair 1;");
        Kit.due("b is SOLD in June", june.rest(1, 0, 0, 5, 0), 132);
        Kit.due("but June is none", june.best(0, 0), 0);
        Kit.due("its REST", june.best(0, 1), 100);
        NailedBoxes may = Kit.village("thing a 100 1 1;thing b 200 1 1 spoils 8;who p fair 1;");
        Kit.due("4", may.best(0, 0), 4);
        Kit.due("its REST", may.best(0, 1), 134);
        // by 3 and 1: 109.25 in MONTH 2, 109 in MONTH 3
        NailedBoxes both = Kit.village("thing a 100 1 1;thing b 139 1 1 spoils 1;who p fair 1;fills p 3 a,1 b;");
        Kit.due("109 in MONTH 3", both.rest(1, 0, 0, 3, 0), 109);
        Kit.due("of 2 and 3 the least", both.best(0, 0), 2);
        Kit.due("its REST", both.best(0, 1), 109);
        NailedBoxes none = Kit.village("thing a 0 1 1;who p fair 1;");
        Kit.due("0 at all times", none.best(0, 0), 0);
        Kit.due("its REST", none.best(0, 1), 0);
    }

    private static void best() {
        Kit.sentence(33, "BEST MONTH (what 0), its REST (1).");
        NailedBoxes x = two();
        Kit.due("MONTH", x.best(0, 0), 0);
        Kit.due("REST", x.best(0, 1), 10);
    }

    private static void bestNone() {
        Kit.sentence(33, "NONE: none such, no REST at all.");
        NailedBoxes x = two();
        Kit.none("best(2, 0)", x.best(2, 0));
        Kit.none("best(0, 2)", x.best(0, 2));
        for (int never : Kit.NEVER) {
            Kit.none("best(" + never + ", 0)", x.best(never, 0));
            Kit.none("best(" + never + ", 1)", x.best(never, 1));
            Kit.none("best(0, " + never + ")", x.best(0, never));
        }
        Kit.refused("asking", x, 0, 0, 0);
        Kit.none("no THINGS", Kit.village("who p fair 1;").best(0, 0));
        Kit.none("no THINGS", Kit.village("who p fair 1;").best(0, 1));
    }

    // ---- little, by weight ----

    private static void littleAboveZero() {
        Kit.sentence(0, "LITTLE: to open one a little ahead of buying it at a price: the mean of WORTH less price, where it's above 0,");
        NailedBoxes x = two();
        Kit.due("at 40: 60 by 4", x.little(0, 0, 40), 1500);
        Kit.due("at 99: 1 by 4", x.little(0, 0, 99), 25);
        Kit.due("at 100", x.little(0, 0, 100), 0);
        Kit.due("at 999", x.little(0, 0, 999), 0);
        Kit.sentence(0, "less what the mean of WORTH is above the price (0, if it isn't),");
        // the mean is 32.50
        Kit.due("at 33: 67 by 4", x.little(0, 0, 33), 1675);
        Kit.due("at 32: 68 by 4, less 0.50", x.little(0, 0, 32), 1650);
        Kit.due("at 10: 90 by 4, less 22.50", x.little(0, 0, 10), 0);
        Kit.due("at 11: 89 by 4, less 21.50", x.little(0, 0, 11), 75);
        Kit.due("at 0", x.little(0, 0, 0), 0);
    }

    private static void littleCut() {
        Kit.sentence(0, "in hundredths (the first cut, the second cut).");
        NailedBoxes x = Kit.village("thing a 101 1 1;thing b 0 1 1;who p fair 1;fills p 1 a,2 b;");
        Kit.due("at 1: 33.33 of 33.333, less 32.66 of 32.666", x.little(0, 0, 1), 67);
        Kit.due("at 0: 33.66 less 33.66", x.little(0, 0, 0), 0);
        Kit.due("at 50: 17", x.little(0, 0, 50), 1700);
        Kit.due("at 51: 16.66 of 16.666", x.little(0, 0, 51), 1666);
    }

    private static void little() {
        Kit.sentence(34, "LITTLE (MONTH, price 0 to 999).");
        NailedBoxes x = Kit.village("thing a 999 1 1 spoils 99;thing b 0 1 1;who p fair 1;");
        Kit.due("at 998", x.little(0, 0, 998), 50);
        Kit.due("at 999", x.little(0, 0, 999), 0);
        Kit.due("in June at 503", x.little(0, 5, 503), 50);
        Kit.due("in June at 0", x.little(0, 5, 0), 0);
    }

    private static void littleNone() {
        Kit.sentence(34, "NONE: none such.");
        NailedBoxes x = two();
        Kit.none("who 2", x.little(2, 0, 0));
        Kit.none("MONTH 6", x.little(0, 6, 0));
        Kit.none("price 1000", x.little(0, 0, 1000));
        for (int never : Kit.NEVER) {
            Kit.none("little(" + never + ", 0, 0)", x.little(never, 0, 0));
            Kit.none("little(0, " + never + ", 0)", x.little(0, never, 0));
            Kit.none("little(0, 0, " + never + ")", x.little(0, 0, never));
        }
        Kit.refused("asking", x, 0, 0, 0);
        Kit.none("who has no SHARE", Kit.village("who p fair 1;").little(0, 0, 0));
    }

    private static void weigh(String things, int due) {
        Kit.due("of " + things, Kit.village(things + "who p fair 1;").weight(0, 0), due);
    }

    private static void byWeight() {
        Kit.sentence(0, "BY WEIGHT: for THINGS of somebody in a MONTH the greatest price 0 to 999 for each WEIGHT,");
        weigh("thing a 999 1 1;", 999);
        weigh("thing a 998 1 1;", 998);
        weigh("thing a 0 1 1;", 0);
        weigh("thing a 0 0 1;", 999);
        weigh("thing a 999 99 1;", 10);
        weigh("thing a 99 99 1;keeps 10;", 1);
        Kit.sentence(0, "with which what is SOLD (KEPT not above price times WEIGHT)");
        weigh("thing a 98 99 1;", -1);
        weigh("thing a 98 99 1;keeps 0;", 0);
        weigh("thing a 1 0 1;", 999);
        weigh("thing a 2 0 1;", -1);
        NailedBoxes x = Kit.village("thing a 2 0 1;thing b 0 1 1;who p fair 1;fills p 1 a;");
        Kit.none("another's THING that would be SOLD", x.weight(0, 0));
        // both are SOLD from 8 on: at 10 they have 20 of 20, at 11 not 22
        weigh("thing a 10 1 1;thing b 10 1 1;", 10);
        // b is SOLD from 7 on: at 8 it has 70 of 64, at 9 not 72; a is SOLD from 80 on
        weigh("thing a 100 1 1;thing b 70 8 1;", 8);
        weigh("thing a 640 8 1;keeps 10;", 80);
        weigh("thing a 641 8 1;keeps 10;", -1);
    }

    private static void byWeightOfShares() {
        Kit.sentence(0, "has together at least as much WORTH as price times its WEIGHT (each by SHARES).");
        NailedBoxes x = Kit.village("thing a 100 10 1;thing b 30 10 1;who p fair 1;fills p 1 a,9 b;who q fair 1;keeps 0;");
        Kit.due("370 for 100", x.weight(0, 0), 3);
        Kit.due("130 for 20", x.weight(1, 0), 6);
        NailedBoxes y = Kit.village("thing a 100 10 1;thing b 20 10 1;who p fair 1;keeps 0;");
        Kit.due("120 for 20: as much", y.weight(0, 0), 6);
        NailedBoxes z = Kit.village("thing a 100 10 1;thing b 19 10 1;who p fair 1;keeps 0;");
        Kit.due("119 for 20: not as much", z.weight(0, 0), 5);
    }

    private static void weight() {
        Kit.sentence(35, "BY WEIGHT.");
        NailedBoxes x = Kit.village("thing a 50 10 1 spoils 10;who p fair 1;");
        Kit.due("in MONTH 0", x.weight(0, 0), 5);
        Kit.due("in MONTH 4", x.weight(0, 4), 1);
        Kit.due("in June", x.weight(0, 5), 0);
    }

    private static void weightNone() {
        Kit.sentence(35, "NONE: none such, no such price.");
        NailedBoxes x = two();
        Kit.due("b alone", x.weight(1, 0), 2);
        Kit.none("weight(2, 0)", x.weight(2, 0));
        Kit.none("weight(0, 6)", x.weight(0, 6));
        for (int never : Kit.NEVER) {
            Kit.none("weight(" + never + ", 0)", x.weight(never, 0));
            Kit.none("weight(0, " + never + ")", x.weight(0, never));
        }
        Kit.refused("asking", x, 0, 0, 0);
        Kit.none("who has no SHARE", Kit.village("who p fair 1;").weight(0, 0));
        weigh("thing a 100 0 1;", -1);
    }

    // ---- hours ----

    private static void hoursTillAllIsSold() {
        Kit.sentence(0, "HOURS: REST of somebody's pool; then of what wasn't SOLD of it, and so on: the k-th price, what is SOLD then, how many there are");
        NailedBoxes x = Kit.village("thing a 999 1 1;thing b 0 1 1;thing c 5 1 1;thing d 4 1 1;thing e 3 1 1;thing f 2 1 1;thing g 1 1 1;thing h 998 1 1;"
                + "who p fair 1;who q fair 1;fills q 1 a;keeps 10;");
        Kit.due("eight", x.hours(0, 0, -1, 0), 8);
        int[] price = {0, 1, 2, 3, 4, 5, 998, 999};
        int[] sold = {2, 64, 32, 16, 8, 4, 128, 1};
        for (int k = 0; k < 8; k++) {
            Kit.due("price " + k, x.hours(0, 0, k, 0), price[k]);
            Kit.due("SOLD " + k, x.hours(0, 0, k, 1), sold[k]);
        }
        Kit.sentence(0, "till all is SOLD.");
        Kit.none("there is no ninth", x.hours(0, 0, 8, 0));
        Kit.none("there is no ninth", x.hours(0, 0, 8, 1));
        Kit.due("one alone", x.hours(1, 0, -1, 0), 1);
        Kit.due("999", x.hours(1, 0, 0, 0), 999);
        Kit.none("there is no second", x.hours(1, 0, 1, 0));
        NailedBoxes y = Kit.village("thing a 100 1 1;thing b 10 1 1;who p fair 1;keeps 0;");
        Kit.due("all at once", y.hours(0, 0, -1, 0), 1);
        Kit.due("both", y.hours(0, 0, 0, 1), 3);
    }

    private static void hours() {
        Kit.sentence(36, "HOURS: how many (k NONE, what 0), the k-th price (what 0), SOLD THINGS then (1; bits).");
        NailedBoxes x = two();
        Kit.due("how many", x.hours(0, 0, NailedBoxes.NONE, 0), 2);
        Kit.due("price 0", x.hours(0, 0, 0, 0), 10);
        Kit.due("SOLD 0", x.hours(0, 0, 0, 1), 2);
        Kit.due("price 1", x.hours(0, 0, 1, 0), 100);
        Kit.due("SOLD 1", x.hours(0, 0, 1, 1), 1);
        NailedBoxes y = Kit.village("thing a 100 1 1 spoils 20;thing b 10 1 1;who p fair 1;");
        Kit.due("in MONTH 0", y.hours(0, 0, -1, 0), 2);
        Kit.due("in June, 0 and 10", y.hours(0, 5, -1, 0), 2);
        Kit.due("the first in June", y.hours(0, 5, 0, 1), 1);
    }

    private static void hoursNone() {
        Kit.sentence(36, "NONE: none such.");
        NailedBoxes x = two();
        Kit.none("how many, what 1", x.hours(0, 0, -1, 1));
        Kit.none("k 2", x.hours(0, 0, 2, 0));
        Kit.none("k 2, SOLD", x.hours(0, 0, 2, 1));
        Kit.none("what 2", x.hours(0, 0, 0, 2));
        Kit.none("who 2", x.hours(2, 0, 0, 0));
        Kit.none("MONTH 6", x.hours(0, 6, 0, 0));
        for (int never : Kit.NEVER) {
            Kit.none("hours(" + never + ", 0, 0, 0)", x.hours(never, 0, 0, 0));
            Kit.none("hours(" + never + ", 0, -1, 0)", x.hours(never, 0, -1, 0));
            Kit.none("hours(0, " + never + ", 0, 0)", x.hours(0, never, 0, 0));
            Kit.none("hours(0, 0, 0, " + never + ")", x.hours(0, 0, 0, never));
            Kit.none("hours(0, 0, -1, " + never + ")", x.hours(0, 0, -1, never));
            Kit.due("hours(0, 0, " + never + ", 0)", x.hours(0, 0, never, 0), never == -1 ? 2 : -1);
            Kit.none("hours(0, 0, " + never + ", 1)", x.hours(0, 0, never, 1));
        }
        Kit.refused("asking", x, 0, 0, 0);
        Kit.none("who has no SHARE", Kit.village("who p fair 1;").hours(0, 0, -1, 0));
        Kit.none("who has no SHARE", Kit.village("who p fair 1;").hours(0, 0, 0, 0));
    }

    // ---- lasts ----

    private static void buyAtLeastThePrice() {
        Kit.sentence(0, "LASTS: to buy so many (1 to 20) of somebody's BOXES in a MONTH one after the other at a price with so many coins (0 to 999):");
        NailedBoxes x = two();
        Kit.due("1 with 0 for 0", x.lasts(0, 0, 0, 0, 1), 1000000);
        Kit.due("20 with 999 for 10", x.lasts(1, 0, 999, 10, 20), 1000000);
        Kit.due("20 with 999 for 60: 999 less 50 nineteen times is 49", x.lasts(1, 0, 999, 60, 20), 0);
        Kit.due("19", x.lasts(1, 0, 999, 60, 19), 1000000);
        Kit.sentence(0, "at each the coins must be the price at least,");
        Kit.due("20 for 20", x.lasts(0, 0, 20, 20, 1), 1000000);
        Kit.due("19 for 20", x.lasts(0, 0, 19, 20, 1), 0);
        Kit.due("999 for 999", x.lasts(0, 0, 999, 999, 1), 1000000);
        Kit.due("998 for 999", x.lasts(0, 0, 998, 999, 1), 0);
        // with a, a quarter, 100 are there; with b 10
        Kit.due("twice", x.lasts(0, 0, 20, 20, 2), 250000);
        Kit.due("30: thrice, if a is of the first two", x.lasts(0, 0, 30, 20, 3), 437500);
    }

    private static void coinsAtMost() {
        Kit.sentence(0, "and are then less by it and more by WORTH (999 at most);");
        NailedBoxes x = Kit.village("thing a 999 1 1;thing b 0 1 1;who p fair 1;");
        // 999 with a, 499 with b: so a twice; were there more than 999, the second might be b
        Kit.due("three for 500 each", x.lasts(0, 0, 999, 500, 3), 250000);
        Kit.due("two for 500 each", x.lasts(0, 0, 999, 500, 2), 500000);
        Kit.due("999 for 999, then 0 or 999", x.lasts(0, 0, 999, 999, 2), 500000);
        NailedBoxes y = Kit.village("thing a 10 1 1;who p fair 1;");
        Kit.due("9 less 9, more by 10: 10", y.lasts(0, 0, 9, 9, 20), 1000000);
        Kit.due("less by 1 each", y.lasts(0, 0, 20, 11, 10), 1000000);
        Kit.due("less by 1 each", y.lasts(0, 0, 20, 11, 11), 0);
    }

    private static void cutForEachBox() {
        Kit.sentence(0, "how likely is it that they're never too few: 10^14 with those coins; for each BOX by coins and THINGS what is there times SHARE by all (cut);");
        NailedBoxes x = Kit.village("thing a 1 1 1;thing b 1 1 1;thing c 1 1 1;who p fair 1;who q fair 1;fills q 1 a,1 b;");
        Kit.due("thirds, each THING by itself", x.lasts(0, 0, 9, 1, 1), 999999);
        Kit.due("thirds, twenty times", x.lasts(0, 0, 9, 1, 20), 999999);
        Kit.due("halves", x.lasts(1, 0, 9, 1, 14), 1000000);
        Kit.sentence(0, "all together in millionths (cut) of 10^14.");
        NailedBoxes y = Kit.village("thing a 1 1 1;thing b 0 1 1;who p fair 1;fills p 2 a,1 b;who q fair 1;fills q 99 a,1 b;");
        Kit.due("two thirds", y.lasts(0, 0, 1, 1, 2), 666666);
        Kit.due("99 hundredths", y.lasts(1, 0, 1, 1, 2), 990000);
        Kit.due("4 ninths", y.lasts(0, 0, 1, 1, 3), 444444);
        Kit.due("99 hundredths nineteen times", y.lasts(1, 0, 1, 1, 20), 826168);
    }

    private static void lasts() {
        Kit.sentence(37, "LASTS (price 0 to 999).");
        NailedBoxes x = Kit.village("thing a 50 1 1 spoils 10;who p fair 1;");
        Kit.due("price 0", x.lasts(0, 0, 0, 0, 20), 1000000);
        Kit.due("price 999", x.lasts(0, 0, 999, 999, 1), 1000000);
        Kit.due("50 in MONTH 0", x.lasts(0, 0, 50, 50, 20), 1000000);
        Kit.due("10 in MONTH 4", x.lasts(0, 4, 10, 10, 20), 1000000);
        Kit.due("not 11 in MONTH 4", x.lasts(0, 4, 11, 11, 2), 0);
        Kit.due("0 in June", x.lasts(0, 5, 9, 1, 9), 1000000);
        Kit.due("0 in June", x.lasts(0, 5, 9, 1, 10), 0);
    }

    private static void lastsNone() {
        Kit.sentence(37, "NONE: none such.");
        NailedBoxes x = two();
        Kit.none("who 2", x.lasts(2, 0, 1, 1, 1));
        Kit.none("MONTH 6", x.lasts(0, 6, 1, 1, 1));
        Kit.none("coins 1000", x.lasts(0, 0, 1000, 1, 1));
        Kit.none("price 1000", x.lasts(0, 0, 1, 1000, 1));
        Kit.none("none to buy", x.lasts(0, 0, 1, 1, 0));
        Kit.none("21 to buy", x.lasts(0, 0, 1, 1, 21));
        for (int never : Kit.NEVER) {
            Kit.none("lasts(" + never + ", ..)", x.lasts(never, 0, 1, 1, 1));
            Kit.none("lasts(0, " + never + ", ..)", x.lasts(0, never, 1, 1, 1));
            Kit.none("lasts(0, 0, " + never + ", ..)", x.lasts(0, 0, never, 1, 1));
            Kit.none("lasts(0, 0, 1, " + never + ", 1)", x.lasts(0, 0, 1, never, 1));
            Kit.none("lasts(0, 0, 1, 1, " + never + ")", x.lasts(0, 0, 1, 1, never));
        }
        Kit.refused("asking", x, 0, 0, 0);
        Kit.none("who has no SHARE", Kit.village("who p fair 1;").lasts(0, 0, 1, 1, 1));
    }
}
