/** Terms of sayings, names, filling and years, promises 38 to 42: each sentence that names a boundary has a test of its own. */
public final class EdgesOfSayingsTest {
    public static void main(String[] args) {
        top();
        setsOfTheLeast();
        atRest();
        leastCostOfTruth();
        liars();
        liarsNone();
        honest();
        honestNone();
        nameIsAbove();
        laterYears();
        lowestTerms();
        name();
        nameNone();
        fillsBest();
        fill();
        fillNone();
        drawn();
        firstThingAbove();
        bringsRestOrKept();
        years();
        yearsNone();
        Kit.end();
    }

    // ---- sayings ----

    private static void top() {
        Kit.sentence(0, "SAYINGS of who fills, in a MONTH, with a COST of being found false: TOP: the greatest WORTH of those with a SHARE");
        NailedBoxes x = Kit.village("thing z 999 1 1;thing a 60 1 1;thing b 90 1 1 spoils 20;thing c 80 1 1;who p fair 1;fills p 9 a,1 b,1 c;");
        Kit.due("z has no SHARE", x.honest(0, 0, 1), 2);
        Kit.due("in MONTH 1 b has 70", x.honest(0, 1, 1), 3);
        Kit.sentence(0, "(of several the least number).");
        NailedBoxes y = Kit.village("thing a 60 1 1;thing b 90 1 1 spoils 10;thing c 80 1 1;thing d 80 1 1;who p fair 1;who q fair 1;fills q 1 d;");
        Kit.due("b, c and d have 80", y.honest(0, 1, 1), 1);
        Kit.due("c and d have 80", y.honest(0, 2, 1), 2);
        Kit.due("q has d alone", y.honest(1, 0, 1), 3);
        NailedBoxes z = Kit.village("thing a 0 1 1;thing b 0 1 1;who p fair 1;");
        Kit.due("all have 0", z.honest(0, 0, 1), 0);
    }

    private static void setsOfTheLeast() {
        Kit.sentence(0, "LIARS say they've TOP: sets of the least WORTHS (of several the least numbers first; without TOP):");
        // of 100 and 40, 40, 10: the means are 100, 55, 50, 47.5
        NailedBoxes x = Kit.village("thing a 40 1 1;thing b 100 1 1;thing c 10 1 1;thing d 40 1 1;who p fair 1;");
        Kit.due("all but TOP", x.liars(0, 0, 0), 13);
        Kit.due("47 less 6 is above 40", x.liars(0, 0, 6), 13);
        Kit.none("47 less 7 isn't; 55 less 7 is above 40", x.liars(0, 0, 7));
        Kit.none("50 less 10 isn't above 40", x.liars(0, 0, 10));
        Kit.none("55 less 14 is above 40", x.liars(0, 0, 14));
        Kit.due("55 less 15 isn't: the least alone", x.liars(0, 0, 15), 4);
        NailedBoxes y = Kit.village("thing a 100 1 1;thing b 100 1 1;thing c 10 1 1;who p fair 1;");
        Kit.due("as much WORTH as TOP", y.liars(0, 0, 0), 4);
        NailedBoxes z = Kit.village("thing a 100 1 1;thing b 100 1 1;who p fair 1;who q fair 1;fills q 1 b;");
        Kit.due("nobody has less than TOP", z.liars(0, 0, 0), 0);
        Kit.due("TOP alone", z.liars(1, 0, 0), 0);
    }

    private static void atRest() {
        Kit.sentence(0, "at rest, if the mean WORTH (cut) of TOP and them less COST is above the WORTH of each one of them,");
        // 100 and 1: 50.5, cut
        NailedBoxes x = Kit.village("thing a 100 1 1;thing b 1 1 1;who p fair 1;who q fair 1;fills q 1 a,98 b;");
        Kit.due("50 less 48 is above 1", x.liars(0, 0, 48), 2);
        Kit.none("50 less 49 isn't", x.liars(0, 0, 49));
        Kit.due("(100 and 98) by 99 is 2", x.liars(1, 0, 0), 2);
        Kit.none("2 less 1 isn't above 1", x.liars(1, 0, 1));
        Kit.sentence(0, "and isn't above that of each other one; the largest such.");
        Kit.none("100 less 98 is above 1", x.liars(0, 0, 98));
        Kit.due("100 less 99 isn't above 1: nobody lies", x.liars(0, 0, 99), 0);
        Kit.due("nor is 100 less 999", x.liars(0, 0, 999), 0);
        // 100, 10, 55: with 10 alone the mean is 55
        NailedBoxes y = Kit.village("thing a 100 1 1;thing b 10 1 1;thing c 55 1 1;who p fair 1;");
        Kit.due("55 isn't above 55", y.liars(0, 0, 0), 2);
        NailedBoxes z = Kit.village("thing a 100 1 1;thing b 10 1 1;thing c 54 1 1;who p fair 1;");
        Kit.none("55 is above 54, 54.6 isn't", z.liars(0, 0, 0));
        Kit.due("54 isn't above 54", z.liars(0, 0, 1), 2);
        NailedBoxes u = Kit.village("thing a 100 1 1;thing b 10 1 1;thing c 52 1 1;who p fair 1;");
        Kit.due("54 is above 52", u.liars(0, 0, 0), 6);
    }

    private static void leastCostOfTruth() {
        Kit.sentence(0, "TRUE: the least COST with which nobody lies: TOP less the least WORTH.");
        NailedBoxes x = Kit.village("thing a 100 1 1 spoils 10;thing b 1 1 1;thing c 40 1 1;thing z 0 1 1;who p fair 1;fills p 1 a,9 b,9 c;who q fair 1;fills q 1 c;");
        Kit.due("100 less 1", x.honest(0, 0, 0), 99);
        Kit.due("nobody lies", x.liars(0, 0, 99), 0);
        Kit.due("somebody would", x.liars(0, 0, 98) != 0, true);
        Kit.due("in June 50 less 1", x.honest(0, 5, 0), 49);
        Kit.due("one alone", x.honest(1, 0, 0), 0);
        NailedBoxes y = Kit.village("thing a 999 1 1;thing b 0 1 1;who p fair 1;");
        Kit.due("999", y.honest(0, 0, 0), 999);
        Kit.due("nobody lies at 999", y.liars(0, 0, 999), 0);
    }

    private static void liars() {
        Kit.sentence(38, "LIARS as bits (COST 0 to 999).");
        NailedBoxes x = Kit.village("thing a 10 1 1;thing b 10 1 1;thing c 10 1 1;thing d 10 1 1;thing e 10 1 1;thing f 10 1 1;thing g 10 1 1;thing h 999 1 1;who p fair 1;");
        Kit.due("seven", x.liars(0, 0, 0), 127);
        Kit.due("nobody at 999", x.liars(0, 0, 999), 0);
        NailedBoxes y = Kit.village("thing a 999 1 1;thing b 10 1 1;thing c 10 1 1;thing d 10 1 1;thing e 10 1 1;thing f 10 1 1;thing g 10 1 1;thing h 10 1 1;who p fair 1;");
        Kit.due("seven", y.liars(0, 0, 0), 254);
        Kit.due("in June", y.liars(0, 5, 0), 254);
    }

    private static void liarsNone() {
        Kit.sentence(38, "NONE: none such, no such set.");
        NailedBoxes x = Kit.village("thing a 100 1 1;thing b 1 1 1;who p fair 1;");
        Kit.none("no such set", x.liars(0, 0, 49));
        Kit.none("liars(1, 0, 0)", x.liars(1, 0, 0));
        Kit.none("liars(0, 6, 0)", x.liars(0, 6, 0));
        Kit.none("liars(0, 0, 1000)", x.liars(0, 0, 1000));
        for (int never : Kit.NEVER) {
            Kit.none("liars(" + never + ", 0, 0)", x.liars(never, 0, 0));
            Kit.none("liars(0, " + never + ", 0)", x.liars(0, never, 0));
            Kit.none("liars(0, 0, " + never + ")", x.liars(0, 0, never));
        }
        Kit.refused("asking", x, 0, 0, 0);
        Kit.none("who has no SHARE", Kit.village("who p fair 1;").liars(0, 0, 0));
    }

    private static void honest() {
        Kit.sentence(39, "TRUE: the COST (what 0), TOP (1).");
        NailedBoxes x = Kit.village("thing a 1 1 1;thing b 100 1 1;who p fair 1;");
        Kit.due("COST", x.honest(0, 0, 0), 99);
        Kit.due("TOP", x.honest(0, 0, 1), 1);
    }

    private static void honestNone() {
        Kit.sentence(39, "NONE: none such.");
        NailedBoxes x = Kit.village("thing a 1 1 1;thing b 100 1 1;who p fair 1;");
        Kit.none("honest(1, 0, 0)", x.honest(1, 0, 0));
        Kit.none("honest(0, 6, 0)", x.honest(0, 6, 0));
        Kit.none("honest(0, 0, 2)", x.honest(0, 0, 2));
        for (int never : Kit.NEVER) {
            Kit.none("honest(" + never + ", 0, 0)", x.honest(never, 0, 0));
            Kit.none("honest(0, " + never + ", 0)", x.honest(0, never, 0));
            Kit.none("honest(0, 0, " + never + ")", x.honest(0, 0, never));
        }
        Kit.refused("asking", x, 0, 0, 0);
        NailedBoxes y = Kit.village("who p fair 1;");
        Kit.none("who has no SHARE", y.honest(0, 0, 0));
        Kit.none("who has no SHARE", y.honest(0, 0, 1));
    }

    // ---- names ----

    /** p has a alone, q has b alone; nothing is KEPT, so that the sealed pool has the mean. */
    private static NailedBoxes named(int a, int b) {
        return Kit.village("thing a " + a + " 1 1 spoils 1;thing b " + b + " 1 1;who p fair 1;who q fair 1;fills p 1 a;fills q 1 b;keeps 0;");
    }

    private static void worth(String where, NailedBoxes x, int who, int tenths, int upper, int lower) {
        Kit.due(where + ": name(" + who + ", " + tenths + ", 0)", x.name(who, tenths, 0), upper);
        Kit.due(where + ": name(" + who + ", " + tenths + ", 1)", x.name(who, tenths, 1), lower);
    }

    private static void nameIsAbove() {
        Kit.sentence(0, "NAME's worth: what REST by name is above that of the sealed pool in MONTH 0 (0, if it isn't), each year,");
        worth("100 above 50", named(100, 0), 0, 0, 50, 1);
        worth("0 isn't above 50", named(100, 0), 1, 0, 0, 1);
        worth("50 isn't above 50", named(50, 50), 0, 0, 0, 1);
        worth("51 above 50", named(51, 50), 0, 0, 1, 1);
        worth("50 isn't above 50.5, cut", named(51, 50), 1, 0, 0, 1);
        NailedBoxes x = named(100, 0);
        Kit.toJune(x);
        worth("MONTH 0 in June, too", x, 0, 0, 50, 1);
    }

    private static void laterYears() {
        Kit.sentence(0, "a later one by tenths (0 to 9) of the one ahead: 10 times that by 10 less tenths,");
        NailedBoxes x = named(14, 0);
        worth("7, no later year", x, 0, 0, 7, 1);
        worth("70 by 9", x, 0, 1, 70, 9);
        worth("70 by 3", x, 0, 7, 70, 3);
        worth("70 by 1", x, 0, 9, 70, 1);
        worth("9990 by 1", named(999, 0), 0, 9, 5000, 1);
    }

    private static void lowestTerms() {
        Kit.sentence(0, "in lowest terms.");
        NailedBoxes x = named(14, 0);
        worth("70 by 8", x, 0, 2, 35, 4);
        worth("70 by 7", x, 0, 3, 10, 1);
        worth("70 by 6", x, 0, 4, 35, 3);
        worth("70 by 5", x, 0, 5, 14, 1);
        worth("70 by 4", x, 0, 6, 35, 2);
        worth("70 by 2", x, 0, 8, 35, 1);
        for (int tenths = 0; tenths < 10; tenths++) {
            worth("0 by any", x, 1, tenths, 0, 1);
        }
    }

    private static void name() {
        Kit.sentence(40, "NAME's worth: the upper number (what 0), the lower one (1).");
        worth("25 by 2, of 10 by 8", named(20, 0), 0, 2, 25, 2);
    }

    private static void nameNone() {
        Kit.sentence(40, "NONE: none such.");
        NailedBoxes x = named(20, 0);
        Kit.none("name(2, 0, 0)", x.name(2, 0, 0));
        Kit.none("name(0, 10, 0)", x.name(0, 10, 0));
        Kit.none("name(0, 10, 1)", x.name(0, 10, 1));
        Kit.none("name(0, 11, 0)", x.name(0, 11, 0));
        Kit.none("name(0, 0, 2)", x.name(0, 0, 2));
        for (int never : Kit.NEVER) {
            Kit.none("name(" + never + ", 0, 0)", x.name(never, 0, 0));
            Kit.none("name(0, " + never + ", 0)", x.name(0, never, 0));
            Kit.none("name(0, 0, " + never + ")", x.name(0, 0, never));
        }
        Kit.refused("asking", x, 0, 0, 0);
        NailedBoxes y = Kit.village("who p fair 1;");
        Kit.none("who has no SHARE", y.name(0, 0, 0));
        Kit.none("who has no SHARE", y.name(0, 0, 1));
    }

    // ---- filling ----

    private static void fills(String where, NailedBoxes x, int who, int law, int month, int thing, int brings) {
        Kit.due(where + ", the THING", x.fill(who, law, month, 0), thing);
        Kit.due(where + ", what it brings", x.fill(who, law, month, 1), brings);
    }

    private static void fillsBest() {
        Kit.sentence(0, "FILL: of THINGS with a SHARE the one with the most by a LAW in a MONTH:");
        NailedBoxes x = Kit.village("thing a 100 1 1;thing b 80 1 2;thing c 0 1 2;who p fair 1;fills p 5 a,5 b;who q fair 1;fills q 1 a;");
        fills("90 for what is KEPT for 64, c has no SHARE", x, 0, 1, 0, 1, 26);
        fills("the price of its own pool", x, 0, 2, 0, 0, 20);
        fills("sealed: 1.5 of 100, 0.5 of 80 are 95", x, 0, 0, 0, 1, 31);
        fills("q has a alone", x, 1, 0, 0, 0, 15);
        Kit.sentence(0, "the price of its pool less KEPT, if it's SOLD there, else 0 (of several the least).");
        NailedBoxes y = Kit.village("thing a 100 1 1;thing b 10 1 1;thing c 10 1 1;who p fair 1;who q fair 1;fills q 1 a,9 b;keeps 9;");
        fills("a isn't SOLD; b and c at 10 are KEPT for 9", y, 0, 1, 0, 1, 1);
        NailedBoxes z = Kit.village("thing a 100 1 1;thing b 10 1 1;who p fair 1;keeps 10;");
        fills("a isn't SOLD; b at 10 is KEPT for 10", z, 0, 1, 0, 0, 0);
        NailedBoxes u = Kit.village("thing a 10 1 1;thing b 10 1 1;who p fair 1;keeps 0;");
        fills("both alike", u, 0, 1, 0, 0, 10);
    }

    private static void fill() {
        Kit.sentence(41, "FILL: the THING (what 0), what it brings (1).");
        NailedBoxes x = Kit.village("thing a 100 1 1 spoils 20;thing b 50 2 2;who p fair 1;keeps 5;");
        fills("in MONTH 0 at 75", x, 0, 1, 0, 1, 50);
        fills("in MONTH 4 at 35", x, 0, 1, 4, 0, 25);
        fills("in June a is KEPT for 0", x, 0, 1, 5, 0, 25);
        fills("by weight in MONTH 0", x, 0, 3, 0, 0, 50);
    }

    private static void fillNone() {
        Kit.sentence(41, "NONE: none such.");
        NailedBoxes x = Kit.village("thing a 100 1 1;thing b 1 1 1;who p fair 1;");
        Kit.none("fill(1, 0, 0, 0)", x.fill(1, 0, 0, 0));
        Kit.none("fill(0, 4, 0, 0)", x.fill(0, 4, 0, 0));
        Kit.none("fill(0, 0, 6, 0)", x.fill(0, 0, 6, 0));
        Kit.none("fill(0, 0, 0, 2)", x.fill(0, 0, 0, 2));
        for (int never : Kit.NEVER) {
            Kit.none("fill(" + never + ", 0, 0, 0)", x.fill(never, 0, 0, 0));
            Kit.none("fill(0, " + never + ", 0, 0)", x.fill(0, never, 0, 0));
            Kit.none("fill(0, 0, " + never + ", 0)", x.fill(0, 0, never, 0));
            Kit.none("fill(0, 0, 0, " + never + ")", x.fill(0, 0, 0, never));
        }
        Kit.refused("asking", x, 0, 0, 0);
        NailedBoxes y = Kit.village("who p fair 1;");
        Kit.none("who has no SHARE", y.fill(0, 0, 0, 0));
        Kit.none("who has no SHARE", y.fill(0, 0, 0, 1));
    }

    // ---- years ----

    /** By 3, 6 and 1: what is drawn modulo 10 is a below 3, b below 9, c at 9. */
    private static NailedBoxes tenShares() {
        return Kit.village("thing a 100 1 1;thing b 10 1 1;thing c 1 1 1;who p fair 1;fills p 3 a,6 b,1 c;who q fair 1;fills q 1 c;who r fair 1;fills r 9 a;");
    }

    private static void often(NailedBoxes x, int n, int a, int b, int c) {
        Kit.due(n + " years, a", x.years(0, n, 10), a);
        Kit.due(n + " years, b", x.years(0, n, 11), b);
        Kit.due(n + " years, c", x.years(0, n, 12), c);
    }

    private static void drawn() {
        Kit.sentence(0, "YEARS: so many, drawn: for each z becomes z times 6364136223846793005 and 1442695040888963407 (64 bits, wrapping),");
        NailedBoxes x = tenShares();
        // modulo 10: 4, 3, 6, 0, 4, 5, 0, 2, 9, ..
        often(x, 1, 0, 1, 0);
        often(x, 3, 0, 3, 0);
        often(x, 4, 1, 3, 0);
        often(x, 8, 3, 5, 0);
        often(x, 9, 3, 5, 1);
        often(x, 1000, 284, 599, 117);
        x.seed(0);
        often(x, 1000, 301, 606, 93);
        x.seed(999999999);
        often(x, 1, 1, 0, 0);
        often(x, 1000, 289, 609, 102);
        Kit.sentence(0, "z shifted to the right by 33 (0 comes in) modulo all SHARES of somebody:");
        // these have the highest of 64 bits: 1649717740, 1724882992, 1800048244, 1134330529, 1209495781
        int[] seeds = {2, 5, 8, 10, 13};
        int[] thing = {0, 0, 1, 2, 0};
        for (int k = 0; k < seeds.length; k++) {
            x.seed(seeds[k]);
            Kit.due("of seed " + seeds[k], x.years(0, 1, 10 + thing[k]), 1);
        }
        Kit.due("all SHARES of q", x.years(1, 1000, 12), 1000);
        Kit.due("all SHARES of r", x.years(2, 1000, 10), 1000);
    }

    private static void firstThingAbove() {
        Kit.sentence(0, "the first THING with which SHARES by numbers are above that;");
        NailedBoxes x = tenShares();
        // modulo 10: 0, 2, 3, 8, 9
        int[] seeds = {2, 5, 9, 7, 3};
        int[] thing = {0, 0, 1, 1, 2};
        for (int k = 0; k < seeds.length; k++) {
            x.seed(seeds[k]);
            for (int t = 0; t < 3; t++) {
                Kit.due("of seed " + seeds[k] + ", how often " + t, x.years(0, 1, 10 + t), t == thing[k] ? 1 : 0);
            }
        }
        NailedBoxes y = Kit.village("thing a 1 1 1;thing b 1 1 1;thing c 1 1 1;who p fair 1;fills p 10 c;");
        y.seed(2);
        Kit.due("one without a SHARE is never the first", y.years(0, 1000, 12), 1000);
    }

    private static void bringsRestOrKept() {
        Kit.sentence(0, "it brings REST by name in MONTH 0, if SOLD, else KEPT.");
        NailedBoxes x = tenShares();
        // c and b are SOLD at 8: 61 by 7; a is KEPT for 80
        Kit.due("REST", x.rest(1, 0, 0, 0, 0), 8);
        x.seed(2);
        Kit.due("a", x.years(0, 1, 0), 80);
        x.seed(7);
        Kit.due("b", x.years(0, 1, 0), 8);
        x.seed(3);
        Kit.due("c", x.years(0, 1, 0), 8);
        x.seed(1);
        Kit.due("284 a and 716 others", x.years(0, 1000, 0), 284 * 80 + 716 * 8);
        Kit.toJune(x);
        Kit.due("in June as in MONTH 0", x.years(0, 1000, 0), 284 * 80 + 716 * 8);
        NailedBoxes y = Kit.village("thing a 100 1 1 spoils 50;thing b 10 1 1;who p fair 1;fills p 3 a,7 b;");
        y.seed(2);
        Kit.due("KEPT in MONTH 0", y.years(0, 1, 0), 80);
        y.month();
        Kit.due("KEPT in MONTH 0", y.years(0, 1, 0), 80);
        NailedBoxes u = Kit.village("thing a 100 1 1 spoils 50;who p fair 1;");
        Kit.due("REST in MONTH 0", u.years(0, 3, 0), 300);
        NailedBoxes z = Kit.village("thing a 999 1 1;who p fair 1;");
        Kit.due("the most", z.years(0, 1000, 0), 999000);
    }

    private static void years() {
        Kit.sentence(42, "YEARS (1 to 1,000; z stays): all that is brought (what 0), 10 + t how often THING t.");
        NailedBoxes x = tenShares();
        Kit.due("one year", x.years(0, 1, 11), 1);
        Kit.due("a thousand", x.years(0, 1000, 11), 599);
        Kit.due("z stays", x.years(0, 1, 11), 1);
        Kit.due("z stays", x.years(0, 1000, 12), 117);
        Kit.due("brought in four", x.years(0, 4, 0), 80 + 3 * 8);
        NailedBoxes y = Kit.village("thing a 1 1 1;thing b 1 1 1;thing c 1 1 1;thing d 1 1 1;thing e 1 1 1;thing f 1 1 1;thing g 1 1 1;thing h 1 1 1;"
                + "who p fair 1;fills p 1 h;");
        Kit.due("the eighth", y.years(0, 1000, 17), 1000);
        Kit.due("the seventh", y.years(0, 1000, 16), 0);
    }

    private static void yearsNone() {
        Kit.sentence(42, "NONE: none such.");
        NailedBoxes x = tenShares();
        Kit.none("no year", x.years(0, 0, 0));
        Kit.none("1001", x.years(0, 1001, 0));
        Kit.none("years(3, 1, 0)", x.years(3, 1, 0));
        for (int what : new int[] {1, 2, 9, 13, 17, 18}) {
            Kit.none("years(0, 1, " + what + ")", x.years(0, 1, what));
        }
        for (int never : Kit.NEVER) {
            Kit.none("years(" + never + ", 1, 0)", x.years(never, 1, 0));
            Kit.none("years(0, " + never + ", 0)", x.years(0, never, 0));
            Kit.none("years(0, 1, " + never + ")", x.years(0, 1, never));
        }
        Kit.refused("asking", x, 0, 0, 0);
        Kit.none("who has no SHARE", Kit.village("who p fair 1;").years(0, 1, 0));
    }
}
