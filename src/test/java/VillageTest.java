/** Promises 1 to 6 and 46: a new object, the tape, the text and its faults, what it tells. */
public final class VillageTest {
    public static void main(String[] args) {
        aNewObject();
        feed();
        village();
        faults();
        limits();
        faultAnswers();
        things();
        people();
        counts();
        nothingOfFormerTexts();
        manyTokens();
        Kit.end();
    }

    private static void aNewObject() {
        NailedBoxes x = new NailedBoxes();
        Kit.due("NONE", NailedBoxes.NONE, -1);
        for (int what = 0; what <= 13; what++) {
            Kit.due("new: count(" + what + ")", x.count(what), 0);
        }
        Kit.due("new: fault()", x.fault(), -1);
        Kit.due("new: thing(0, 0)", x.thing(0, 0), -1);
        Kit.due("new: who(0, 0)", x.who(0, 0), -1);
        Kit.due("new: lost(0, 0)", x.lost(0, 0), -1);
        Kit.due("new: law(0)", x.law(0), -1);
        Kit.due("new: month()", x.month(), -1);
        Kit.refused("new: month()", x, 1, 0, 0);
    }

    private static void feed() {
        NailedBoxes x = new NailedBoxes();
        for (int k = 1; k <= 45; k++) {
            Kit.due("feed " + k, x.feed(0x20202020, 0x20202020, 0x20202020, 0x20202020, 0x20202020), 20 * k);
        }
        Kit.due("feed 46", x.feed(0, 0, 0, 0, 0), -1);
        Kit.due("full tape", x.count(7), 900);
        Kit.refused("full tape", x, 0, 0, 0);
        Kit.due("village(900)", x.village(900), 0);
        Kit.due("feed behind it", x.feed(-1, -1, -1, -1, -1), 20);
        Kit.due("village(1) of byte 255", x.village(1), -1);
        Kit.due("fault", x.fault(), 0);
        // "keep" "s 7;" and blanks: of each number the highest byte first
        x.feed(0x6b656570, 0x7320373b, 0x20202020, 0x0a0a0a0a, 0x20202020);
        Kit.due("keeps 7;", x.village(20), 1);
    }

    private static void village() {
        NailedBoxes x = new NailedBoxes();
        Kit.due("village(1) of nothing", x.village(1), -2);
        Kit.due("village(-1)", x.village(-1), -2);
        Kit.refused("village(-1)", x, 2, 0, 0);
        Kit.due("village(0)", x.village(0), 0);
        Kit.due("fault() of it", x.fault(), -1);
        Kit.lay(x, "keeps 7; what comes then");
        Kit.due("the first 8 alone", x.village(8), 1);
        Kit.due("the tape then", x.count(7), 0);
        Kit.due("STATEMENTS", x.count(9), 1);

        Kit.due("FAIRS", Kit.tell(x, Kit.FAIRS), 18);
        x.box(0, 0);
        x.sell(0, 1, 20);
        x.row(0, 0, 1, 1);
        x.lend(0, 0, 1, 1);
        x.month();
        x.seed(77);
        x.image();
        Kit.due("a FAULT", Kit.tell(x, "keeps 7;keeps"), -1);
        Kit.due("fault()", x.fault(), 13);
        Kit.due("what was stays: STATEMENTS", x.count(9), 18);
        Kit.due("what was stays: BOXES", x.count(3), 1);
        Kit.due("what was stays: MONTH", x.count(5), 1);
        Kit.due("what was stays: IMAGES", x.count(8), 1);
        Kit.due("what was stays: KEPT", x.thing(0, 20), 80);
        Kit.due("the tape then", x.count(7), 0);
        int years = x.years(1, 9, 0);
        Kit.lay(x, "keeps");
        Kit.due("village(21)", x.village(21), -2);
        Kit.due("doing nothing: the tape", x.count(7), 20);
        Kit.due("doing nothing: fault()", x.fault(), 13);
        x.village(0);
        Kit.due("FAIRS again", Kit.tell(x, Kit.FAIRS), 18);
        for (int what : new int[] {3, 4, 5, 6, 7, 8, 13}) {
            Kit.due("gone: count(" + what + ")", x.count(what), 0);
        }
        Kit.due("PURSE as told", x.who(0, 1), 200);
        Kit.due("z stays", x.years(1, 9, 0), years);
        Kit.due("no HOLDERS of a new BOX", x.box(0, 0), 0);
        Kit.refused("REFUSED stays", x, 3, 0, 1);
    }

    private static void fault(String text, int place) {
        NailedBoxes x = new NailedBoxes();
        Kit.due("village() of '" + text + "'", Kit.tell(x, text), -1);
        Kit.due("fault() of '" + text + "'", x.fault(), place);
        Kit.refused("FAULT of '" + text + "'", x, 0, 0, 1);
    }

    private static void fine(String text, int statements) {
        NailedBoxes x = new NailedBoxes();
        Kit.due("village() of '" + text + "'", Kit.tell(x, text), statements);
        Kit.due("fault() of '" + text + "'", x.fault(), -1);
    }

    private static void faults() {
        fine("", 0);
        fine(" \n ", 0);
        fine("thing a1 2 3;", 1);
        fine("keeps10;weigh0;shake\n0005\n;", 3);
        fine("keeps 0;weigh 10;shake 0;shake 10;thing a 0 0 0 spoils 0;", 5);
        fault("weigh 11;", 6);
        fault("shake 11;", 6);
        fine("thing abcdefgh 999 99 9 spoils 99;who things sworn 9999;", 2);
        fault("thing", 5);
        fault("thing  ", 7);
        fault("thing a 1 2", 11);
        fault("thing a 1 2 3", 13);
        fault("thing a 1 2 3 ", 14);
        fault("thing a 1 2 3,", 13);
        fault("thing a 1 2 3 4;", 14);
        fault("thing a 1000 2 3;", 8);
        fault("thing a 00001 2 3;", 8);
        fault("thing a 1 100 3;", 10);
        fault("thing a 1 2 10;", 12);
        fault("thing a 1 2 3 spoils;", 20);
        fault("thing a 1 2 3 spoils 100;", 21);
        fault("thing a x 2 3;", 8);
        fault("thing a 12b 2 3;", 10);
        fault("thing 5 1 2 3;", 6);
        fault("thing abcdefghi 1 2 3;", 6);
        fault("thing shake 1 2 3;", 6);
        fault("thing spoils 1 2 3;", 6);
        fault("thing name 1 2 3;", 6);
        fault("thing A 1 2 3;", 6);
        fault("thing a\t1 2 3;", 7);
        fault("thing a 1 2 3;thing a 1 2 3;", 20);
        fault("thing a 1 2 3;who a fair 3;", 18);
        fault("who a fair 3;thing a 1 2 3;", 19);
        fault("things a 1 2 3;", 0);
        fault(";", 0);
        fault("keeps 5;;", 8);
        fault("keeps 5;?", 8);
        fault("keeps 11;", 6);
        fault("weigh 00010;", 6);
        fault("shake ;", 6);
        fault("who a 1;", 6);
        fault("who a good 1;", 6);
        fault("who a fair;", 10);
        fault("who a fair 10000;", 11);
        fault("thing abcdefgh 999 99 9 spoils 99;who things worn 0;", 45);
        String two = "thing a 1 2 3;thing b 1 2 3;who w fair 3;";
        fine(two + "fills w 1 a,99 b;fills w 5 b;pair a b 999;pair a b 1;", 7);
        fault(two + "fills a 1 a;", two.length() + 6);
        fault(two + "fills x 1 a;", two.length() + 6);
        fault(two + "fills w a;", two.length() + 8);
        fault(two + "fills w 0 a;", two.length() + 8);
        fault(two + "fills w 100 a;", two.length() + 8);
        fault(two + "fills w 1 w;", two.length() + 10);
        fault(two + "fills w 1 a,1 a;", two.length() + 14);
        fault(two + "fills w 1 a,1 b,1 b;", two.length() + 18);
        fault(two + "fills w 1 a 1 b;", two.length() + 12);
        fault(two + "fills w 1 a,;", two.length() + 12);
        fault(two + "fills w 1 a,", two.length() + 12);
        fault(two + "fills w;", two.length() + 7);
        fault(two + "pair a a 1;", two.length() + 7);
        fault(two + "pair a w 1;", two.length() + 7);
        fault(two + "pair x b 1;", two.length() + 5);
        fault(two + "pair a b 0;", two.length() + 9);
        fault(two + "pair a b 1000;", two.length() + 9);
        fault("pair c d 1;", 5);
    }

    private static void limits() {
        StringBuilder things = new StringBuilder();
        for (char c = 'a'; c < 'i'; c++) {
            things.append("thing ").append(c).append(" 1 1 1;");
        }
        fine(things.toString(), 8);
        fault(things + "thing i 1 1 1;", things.length() + 6);
        fault(things + "thing", things.length() + 5);
        StringBuilder people = new StringBuilder();
        for (char c = 'a'; c < 'm'; c++) {
            people.append("who ").append(c).append(" fair 1;");
        }
        fine(people.toString(), 12);
        fault(people + "who m fair 1;", people.length() + 4);
        StringBuilder all = new StringBuilder(things + "who w fair 1;fills w 1 a");
        for (char c = 'b'; c < 'i'; c++) {
            all.append(",1 ").append(c);
        }
        fine(all + ";", 10);
        fault(all + ",1 a;", all.length() + 3);
        String two = "thing a 1 2 3;thing b 1 2 3;";
        String six = two + "pair a b 1;".repeat(6);
        fine(six, 8);
        fault(six + "pair a b 1;", six.length());
        fault(six + "pair", six.length());
        String fifty = "keeps 1;".repeat(50);
        fine(fifty, 50);
        fine(fifty + "  \n", 50);
        fault(fifty + " keeps 1;", 401);
        fault(fifty + ";", 400);
    }

    private static void faultAnswers() {
        NailedBoxes x = new NailedBoxes();
        Kit.tell(x, "bad");
        Kit.due("a fault at 0", x.fault(), 0);
        x.village(500);
        Kit.due("-2 leaves it", x.fault(), 0);
        Kit.tell(x, "keeps 1;");
        Kit.due("none then", x.fault(), -1);
    }

    private static void things() {
        NailedBoxes x = Kit.village("thing a 100 30 2 spoils 30;thing b 7 8 9;keeps 3;keeps 7;");
        Kit.due("WEIGHT", x.thing(0, 0), 30);
        Kit.due("SOUND", x.thing(0, 1), 2);
        int[] worth = {100, 70, 40, 10, 0, 0};
        int[] kept = {70, 49, 28, 7, 0, 0};
        for (int m = 0; m < 6; m++) {
            Kit.due("WORTH in " + m, x.thing(0, 10 + m), worth[m]);
            Kit.due("KEPT in " + m, x.thing(0, 20 + m), kept[m]);
            Kit.due("WORTH of b", x.thing(1, 10 + m), 7);
            Kit.due("KEPT of b", x.thing(1, 20 + m), 4);
        }
        for (int what : new int[] {-1, 2, 9, 16, 19, 26, Integer.MIN_VALUE, Integer.MAX_VALUE}) {
            Kit.due("thing(0, " + what + ")", x.thing(0, what), -1);
        }
        Kit.due("thing(2, 0)", x.thing(2, 0), -1);
        Kit.due("thing(-1, 0)", x.thing(-1, 0), -1);
        NailedBoxes y = Kit.village("thing a 100 30 2;");
        Kit.due("keeps without", y.thing(0, 20), 80);
    }

    private static void people() {
        NailedBoxes x = Kit.village("thing a 1 1 1;who p fair 1;who q name 2;who r lemon 3;who s best 4;"
                + "who t chain 5;who u sworn 9999;fills q 5 a;thing b 1 1 1;fills p 9 a,8 b;fills p 3 b;");
        for (int who = 0; who < 6; who++) {
            Kit.due("MANNER", x.who(who, 0), who);
            Kit.due("PURSE", x.who(who, 1), who == 5 ? 9999 : who + 1);
            Kit.due("BOXES", x.who(who, 2), 0);
        }
        Kit.due("told again: a", x.who(0, 10), 0);
        Kit.due("told again: b", x.who(0, 11), 3);
        Kit.due("told ahead of b: a", x.who(1, 10), 5);
        Kit.due("told ahead of b: b", x.who(1, 11), 0);
        Kit.due("without: a", x.who(2, 10), 1);
        Kit.due("without: b", x.who(2, 11), 1);
        for (int what : new int[] {-1, 3, 9, 12, 17, 18, Integer.MIN_VALUE, Integer.MAX_VALUE}) {
            Kit.due("who(0, " + what + ")", x.who(0, what), -1);
        }
        Kit.due("who(6, 0)", x.who(6, 0), -1);
        Kit.due("who(-1, 0)", x.who(-1, 0), -1);
        x.box(0, 1);
        x.box(0, 1);
        x.into(0, 1);
        Kit.due("BOXES in BOXES, too", x.who(0, 2), 2);
        x.sell(1, 5, 9);
        Kit.due("they go along", x.who(0, 2), 0);
        Kit.due("to another one", x.who(5, 2), 2);
        Kit.due("PURSE less", x.who(5, 1), 9990);
        Kit.due("PURSE more", x.who(0, 1), 10);
    }

    private static void counts() {
        NailedBoxes x = Kit.village(Kit.FAIRS);
        x.box(0, 0);
        x.box(0, 1);
        x.say(0, 1);
        x.sign(0, 0, 1);
        x.sell(0, 5, 2);
        x.lend(0, 1, 2, 2);
        x.row(0, 0, 1, 1);
        x.row(0, 0, 1, 1);
        x.image();
        x.month();
        x.feed(1, 2, 3, 4, 5);
        x.back(3);
        x.village(99);
        int[] due = {5, 6, 1, 2, 3, 1, 2, 20, 1, 18, 2, 0, 0, 1};
        for (int what = 0; what < due.length; what++) {
            Kit.due("count(" + what + ")", x.count(what), due[what]);
        }
        for (int what : new int[] {-1, 14, Integer.MIN_VALUE, Integer.MAX_VALUE}) {
            Kit.due("count(" + what + ")", x.count(what), -1);
        }
    }

    private static void nothingOfFormerTexts() {
        NailedBoxes x = new NailedBoxes();
        String busy = "thing a 10 3 1;thing b 20 3 2;who p fair 5;who q best 7;fills p 1 a;fills q 2 b;pair a b 4;keeps 1;weigh 1;shake 1;";
        for (int k = 0; k < 3; k++) {
            Kit.due("busy", Kit.tell(x, busy), 10);
            Kit.due("a FAULT", Kit.tell(x, busy + "pair a b 0;"), -1);
        }
        Kit.due("plain", Kit.tell(x, "thing c 100 3 1;thing d 20 4 2;who r fair 5;"), 3);
        Kit.due("pairs", x.count(2), 0);
        Kit.due("keeps", x.thing(0, 20), 80);
        Kit.due("SHARE of c", x.who(0, 10), 1);
        Kit.due("SHARE of d", x.who(0, 11), 1);
        x.box(0, 0);
        x.sign(0, 0, 3);
        Kit.due("weigh 8", x.think(0, 0), 800000);
        x.box(0, 0);
        x.sign(1, 1, 1);
        Kit.due("shake 6", x.think(1, 0), 600000);
        Kit.due("again", Kit.tell(x, "who r fair 5;thing c 100 3 1;"), 2);
        Kit.due("keeps again", x.thing(0, 20), 80);
        Kit.due("SHARE again", x.who(0, 10), 1);
    }

    private static void manyTokens() {
        NailedBoxes x = new NailedBoxes();
        for (String text : new String[] {";".repeat(900), "a,".repeat(450), "1".repeat(900), "a".repeat(900), "a1".repeat(450)}) {
            Kit.lay(x, text);
            Kit.due("village(900)", x.village(900), -1);
            Kit.due("fault()", x.fault(), 0);
        }
        Kit.lay(x, "keeps" + " ".repeat(895));
        Kit.due("village(900)", x.village(900), -1);
        Kit.due("fault() at the end", x.fault(), 900);
    }
}
