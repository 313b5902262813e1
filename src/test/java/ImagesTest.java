/** Promises 43 to 45: the seed, images and going back to them. */
public final class ImagesTest {
    public static void main(String[] args) {
        seed();
        image();
        back();
        Kit.end();
    }

    private static void seed() {
        NailedBoxes x = Kit.village(Kit.FAIRS);
        int atFirst = x.years(1, 50, 0) * 1000 + x.years(1, 50, 12);
        Kit.due("below 0", x.seed(-1), false);
        Kit.due("above", x.seed(1000000000), false);
        Kit.refused("seed()", x, 2, 0, 0);
        Kit.due("0", x.seed(0), true);
        Kit.due("the most", x.seed(999999999), true);
        int other = x.years(1, 50, 0) * 1000 + x.years(1, 50, 12);
        Kit.due("another z", other != atFirst, true);
        Kit.due("1", x.seed(1), true);
        Kit.due("1 at first", x.years(1, 50, 0) * 1000 + x.years(1, 50, 12), atFirst);
    }

    private static void image() {
        NailedBoxes x = new NailedBoxes();
        Kit.due("none such", x.back(0), false);
        for (int k = 0; k < 3; k++) {
            Kit.due("image " + k, x.image(), k);
        }
        Kit.due("the fourth", x.image(), -1);
        Kit.refused("image()", x, 1, 1, 0);
        Kit.due("none such", x.back(3), false);
        Kit.due("none such", x.back(-1), false);
        Kit.refused("back()", x, 3, 1, 0);
        Kit.due("back", x.back(2), true);
        Kit.due("IMAGES stay", x.count(8), 3);
        Kit.tell(x, "keeps 1;");
        Kit.due("gone with the VILLAGE", x.back(0), false);
        Kit.due("the first again", x.image(), 0);
    }

    /** All that can be asked, in one number. */
    private static long all(NailedBoxes x) {
        long all = 0;
        for (int box = -1; box < 5; box++) {
            for (int what = 0; what < 7; what++) {
                all = all * 31 + x.told(box, what);
            }
            for (int k = 0; k < 3; k++) {
                all = all * 31 + x.record(box, k, 0) * 77 + x.record(box, k, 3) + x.record(box, k, 4) * 5;
            }
            all = all * 31 + x.mean(box) + x.heavy(box);
        }
        for (int who = 0; who < 6; who++) {
            all = all * 31 + x.who(who, 1) * 1000 + x.who(who, 2) + x.june(who);
        }
        for (int what : new int[] {3, 4, 5, 6, 13}) {
            all = all * 31 + x.count(what);
        }
        all = all * 31 + x.loan(0, 3) + x.loan(0, 5) + x.loan(1, 0);
        all = all * 31 + x.wrong(0) * 50 + x.wrong(1);
        return all * 31 + x.years(1, 20, 0) + x.years(1, 20, 11) * 3;
    }

    private static NailedBoxes busy() {
        NailedBoxes x = Kit.village(Kit.FAIRS);
        x.box(0, 0);
        x.box(0, 1);
        x.box(1, 2);
        x.say(0, 1);
        x.into(0, 1);
        x.lend(2, 5, 30, 4);
        x.row(0, 0, 1, 9);
        x.holds(1, 2, 60);
        x.month();
        x.seed(99);
        return x;
    }

    private static void change(NailedBoxes x) {
        x.box(4, 3);
        x.sell(1, 3, 100);
        x.open(1);
        x.bring(0);
        x.lend(1, 4, 5, 0);
        x.row(0, 2, 1, 9);
        x.holds(1, 2, 0);
        x.holds(1, 3, 20);
        x.sign(1, 0, 30);
        x.month();
        x.seed(5);
    }

    /** Busy, then changed, an IMAGE of each. */
    private static NailedBoxes changed() {
        NailedBoxes x = busy();
        x.image();
        change(x);
        x.image();
        return x;
    }

    /** Several objects, for all() asks too much for one to be asked often. */
    private static void back() {
        long first = all(busy());
        long second = all(changed());
        Kit.due("it's another", first != second, true);
        NailedBoxes x = changed();
        Kit.due("back", x.back(0), true);
        Kit.due("all as it was", all(x), first);
        change(x);
        Kit.due("the same again", all(x), second);
        NailedBoxes y = changed();
        Kit.toJune(y);
        long june = all(y);
        y.back(1);
        Kit.due("the second IMAGE", all(y), second);
        NailedBoxes z = changed();
        z.back(1);
        z.back(0);
        Kit.due("the first IMAGE still", all(z), first);
        Kit.toJune(z);
        Kit.due("HOLDERS as they were", z.june(2), 6);
        z.back(1);
        Kit.toJune(z);
        Kit.due("June of the second", all(z), june);
        // dot: 300, less 100, 5 for lending it on, 20 hundredths of 10
        Kit.due("HOLDERS of the second", z.june(3), 207);
    }
}
