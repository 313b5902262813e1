import java.util.function.Consumer;
import java.util.function.ToIntFunction;

/** Terms of images and of what is refused, promises 43 to 46: each sentence that names a boundary has a test of its own. */
public final class EdgesOfImagesTest {
    private static final String TWO = "thing a 100 10 1;thing b 50 20 2;who p fair 100;who q name 100;pair a b 7;";

    public static void main(String[] args) {
        constants();
        whatImagesHold();
        whatImagesDoNotHold();
        upToThree();
        notAsTold();
        noMoreRoom();
        aFault();
        seed();
        seedAtFirst();
        seedNotAsTold();
        image();
        imageFull();
        back();
        backNone();
        counts();
        countsOfNone();
        Kit.end();
    }

    private static void constants() {
        Kit.sentence(0, "The constants: `NONE = -1`: There is none.");
        Kit.due("NONE", NailedBoxes.NONE, -1);
        Kit.due("there is none", new NailedBoxes().fault(), NailedBoxes.NONE);
    }

    /** Two BOXES, one of each sort of thing told. */
    private static NailedBoxes busy() {
        NailedBoxes x = Kit.village(TWO);
        x.box(0, 0);
        x.box(1, 1);
        x.say(0, 0);
        x.sell(0, 1, 5);
        x.lend(1, 0, 5, 0);
        x.holds(1, 0, 10);
        x.row(0, 0, 1, 1);
        return x;
    }

    /** What was told behind the IMAGE is gone with it, and comes again with the next one. */
    private static void held(String what, Consumer<NailedBoxes> telling, ToIntFunction<NailedBoxes> asking) {
        NailedBoxes x = busy();
        int before = asking.applyAsInt(x);
        Kit.due("IMAGE 0", x.image(), 0);
        telling.accept(x);
        int behind = asking.applyAsInt(x);
        Kit.due(what + " isn't as it was", before != behind, true);
        Kit.due("IMAGE 1", x.image(), 1);
        Kit.due("back(0)", x.back(0), true);
        Kit.due(what + " of IMAGE 0", asking.applyAsInt(x), before);
        Kit.due("back(1)", x.back(1), true);
        Kit.due(what + " of IMAGE 1", asking.applyAsInt(x), behind);
        Kit.due("back(0) again", x.back(0), true);
        Kit.due(what + " of IMAGE 0 again", asking.applyAsInt(x), before);
        Kit.refused(what, x, 0, 0, 0);
    }

    private static int inJune(NailedBoxes x, int who) {
        Kit.toJune(x);
        return x.june(who);
    }

    private static void whatImagesHold() {
        Kit.sentence(0, "IMAGES, up to 3: BOXES, records, PURSES, MONTH, HOLDERS, BOOK, LENT ones, z.");
        held("BOXES", x -> x.box(0, 0), x -> x.count(3));
        held("in whose hands", x -> x.sell(0, 0, 0), x -> x.told(0, 1));
        held("in which BOX", x -> {
            x.bring(0);
            x.into(0, 1);
        }, x -> x.told(0, 2));
        held("who KNOWS", x -> x.open(0), x -> x.told(0, 5));
        held("records", x -> x.sign(0, 0, 10), x -> x.told(0, 3));
        held("rows of all", x -> x.sign(0, 0, 10), x -> x.count(4));
        held("what is thought", x -> x.sign(0, 0, 10), x -> x.mean(0));
        held("PURSE of who pays", x -> x.sell(0, 0, 9), x -> x.who(0, 1));
        held("PURSE of who is paid", x -> x.sell(0, 0, 9), x -> x.who(1, 1));
        held("MONTH", x -> x.month(), x -> x.count(5));
        held("BOOK", x -> x.row(0, 1, 0, 1), x -> x.count(6));
        held("who hadn't it", x -> x.row(0, 0, 1, 1), x -> x.wrong(0));
        held("who paid too much", x -> x.row(0, 1, 0, 999), x -> x.wrong(1));
        held("LENT ones", x -> x.lend(0, 0, 1, 0), x -> x.count(13));
        held("BROUGHT BACK", x -> x.bring(0), x -> x.loan(0, 5));
        held("z", x -> x.seed(5), x -> x.years(0, 99, 10));
        NailedBoxes x = busy();
        x.image();
        x.holds(1, 0, 90);
        x.holds(0, 1, 50);
        x.image();
        x.back(0);
        Kit.due("HOLDERS of IMAGE 0: a tenth of b", inJune(x, 0), 100 + 5 - 5 + 5);
        x.back(1);
        Kit.due("HOLDERS of IMAGE 1: 9 tenths of b", inJune(x, 0), 100 + 5 - 5 + 45);
        Kit.due("HOLDERS of IMAGE 1: half of a", x.june(1), 100 - 5 + 5 + 50);
        x.back(0);
        Kit.due("HOLDERS of IMAGE 0: nobody's a is in hands", inJune(x, 1), 100 - 5 + 5 + 100);
    }

    private static void whatImagesDoNotHold() {
        Kit.sentence(45, "All is as in an IMAGE: true;");
        NailedBoxes x = busy();
        x.image();
        x.image();
        x.sell(0, 5, 5);
        x.feed(1, 2, 3, 4, 5);
        Kit.due("back(0)", x.back(0), true);
        Kit.due("the tape stays", x.count(7), 20);
        Kit.due("IMAGES stay", x.count(8), 2);
        Kit.refused("REFUSED stays", x, 1, 0, 0);
        Kit.due("the VILLAGE stays", x.count(9), 5);
    }

    private static void upToThree() {
        Kit.sentence(0, "IMAGES, up to 3:");
        NailedBoxes x = busy();
        for (int k = 0; k < 3; k++) {
            Kit.due("IMAGE " + k, x.image(), k);
            x.month();
        }
        Kit.none("the fourth", x.image());
        for (int k = 2; k >= 0; k--) {
            Kit.due("back(" + k + ")", x.back(k), true);
            Kit.due("its MONTH", x.count(5), k);
        }
        Kit.none("going back gives no room", x.image());
    }

    private static void notAsTold() {
        Kit.sentence(0, "REFUSED: calls that tell something and don't do it, by reason: 0 not as told,");
        NailedBoxes x = busy();
        x.box(9, 0);
        x.into(0, 9);
        x.sell(9, 0, 0);
        x.say(9, 0);
        x.sign(9, 0, 0);
        x.open(9);
        x.holds(9, 0, 0);
        x.lend(9, 0, 1, 0);
        x.bring(9);
        x.row(9, 0, 1, 0);
        x.seed(-1);
        x.back(9);
        x.village(-1);
        Kit.refused("thirteen calls", x, 13, 0, 0);
        Kit.toJune(x);
        x.month();
        Kit.refused("fourteen", x, 14, 0, 0);
        asked(x);
        Kit.refused("asking tells nothing", x, 14, 0, 0);
    }

    /** All questions, each so that its answer is NONE. */
    private static void asked(NailedBoxes x) {
        Kit.none("thing", x.thing(9, 0));
        Kit.none("who", x.who(9, 0));
        Kit.none("told", x.told(9, 0));
        Kit.none("record", x.record(9, 0, 0));
        Kit.none("think", x.think(9, 0));
        Kit.none("mean", x.mean(9));
        Kit.none("june", x.june(9));
        Kit.none("loan", x.loan(9, 0));
        Kit.none("known", x.known(9, 0));
        Kit.none("heavy", x.heavy(9));
        Kit.none("came", x.came(9));
        Kit.none("wanted", x.wanted(9, 0));
        Kit.none("wrong", x.wrong(9));
        Kit.none("rest", x.rest(9, 0, 0, 0, 0));
        Kit.none("lost", x.lost(9, 0));
        Kit.none("law", x.law(9));
        Kit.none("best", x.best(9, 0));
        Kit.none("little", x.little(9, 0, 0));
        Kit.none("weight", x.weight(9, 0));
        Kit.none("hours", x.hours(9, 0, 0, 0));
        Kit.none("lasts", x.lasts(9, 0, 0, 0, 1));
        Kit.none("liars", x.liars(9, 0, 0));
        Kit.none("honest", x.honest(9, 0, 0));
        Kit.none("name", x.name(9, 0, 0));
        Kit.none("fill", x.fill(9, 0, 0, 0));
        Kit.none("years", x.years(9, 1, 0));
        Kit.none("count", x.count(99));
        Kit.none("fault", x.fault());
        Kit.none("apart of a new object", new NailedBoxes().apart());
    }

    private static void noMoreRoom() {
        Kit.sentence(0, "1 no more room (if as told),");
        NailedBoxes x = Kit.village(TWO);
        for (int k = 0; k < 40; k++) {
            x.box(0, 0);
            x.row(0, 0, 1, 0);
        }
        for (int k = 0; k < 20; k++) {
            x.lend(0, 1 - k % 2, 1, 0);
        }
        for (int k = 0; k < 300; k++) {
            x.sign(0, 0, 1);
        }
        for (int k = 0; k < 3; k++) {
            x.image();
        }
        Kit.refused("all is full", x, 0, 0, 0);
        x.box(0, 0);
        x.row(0, 0, 1, 0);
        x.lend(0, 1, 1, 0);
        x.sign(0, 0, 1);
        x.say(0, 0);
        x.sell(0, 1, 1);
        x.image();
        Kit.refused("seven calls", x, 0, 7, 0);
        x.box(0, 9);
        x.row(0, 0, 0, 0);
        x.lend(0, 0, 1, 0);
        x.sign(0, 2, 1);
        x.say(0, 9);
        x.sell(0, 0, 1);
        Kit.refused("six that aren't as told", x, 6, 7, 0);
    }

    private static void aFault() {
        Kit.sentence(0, "2 a FAULT.");
        NailedBoxes x = new NailedBoxes();
        Kit.tell(x, "bad");
        Kit.refused("one", x, 0, 0, 1);
        Kit.tell(x, "keeps 11;");
        Kit.refused("two", x, 0, 0, 2);
        Kit.tell(x, "keeps 10;");
        Kit.refused("none", x, 0, 0, 2);
    }

    private static void seed() {
        Kit.sentence(43, "z is that (0 to 999,999,999;");
        NailedBoxes x = Kit.village("thing a 1 1 1;thing b 1 1 1;thing c 1 1 1;who p fair 1;fills p 3 a,6 b,1 c;");
        int[] seeds = {0, 999999999, 1};
        int[][] due = {{301, 606, 93}, {289, 609, 102}, {284, 599, 117}};
        for (int k = 0; k < due.length; k++) {
            Kit.due("seed(" + seeds[k] + ")", x.seed(seeds[k]), true);
            for (int thing = 0; thing < 3; thing++) {
                Kit.due("how often " + thing, x.years(0, 1000, 10 + thing), due[k][thing]);
            }
        }
        Kit.refused("seed()", x, 0, 0, 0);
    }

    private static void seedAtFirst() {
        Kit.sentence(43, "1 at first): true;");
        NailedBoxes x = Kit.village("thing a 1 1 1;thing b 1 1 1;thing c 1 1 1;who p fair 1;fills p 3 a,6 b,1 c;");
        Kit.due("a", x.years(0, 1000, 10), 284);
        Kit.due("c", x.years(0, 1000, 12), 117);
        NailedBoxes y = new NailedBoxes();
        Kit.due("without a VILLAGE", y.seed(0), true);
        Kit.tell(y, "thing a 1 1 1;thing b 1 1 1;thing c 1 1 1;who p fair 1;fills p 3 a,6 b,1 c;");
        Kit.due("it stays", y.years(0, 1000, 10), 301);
    }

    private static void seedNotAsTold() {
        Kit.sentence(43, "false, doing nothing but REFUSED: not as told.");
        NailedBoxes x = busy();
        x.seed(77);
        Refusals refused = new Refusals(x, 0);
        refused.no("seed(1000000000)", x.seed(1000000000));
        for (int never : Kit.NEVER) {
            refused.no("seed(" + never + ")", x.seed(never));
        }
        refused.end();
    }

    private static void image() {
        Kit.sentence(44, "An IMAGE: its number.");
        NailedBoxes x = new NailedBoxes();
        Kit.due("without a VILLAGE", x.image(), 0);
        Kit.due("the next", x.image(), 1);
        Kit.due("IMAGES", x.count(8), 2);
        Kit.tell(x, TWO);
        Kit.due("the first of a VILLAGE", x.image(), 0);
        Kit.toJune(x);
        Kit.due("in June", x.image(), 1);
        Kit.due("the last", x.image(), 2);
        Kit.refused("image()", x, 0, 0, 0);
    }

    private static void imageFull() {
        Kit.sentence(44, "NONE, doing nothing but REFUSED: 3 are there.");
        NailedBoxes x = busy();
        for (int k = 0; k < 3; k++) {
            x.image();
        }
        x.month();
        Refusals refused = new Refusals(x, 1);
        refused.none("the fourth", x.image());
        refused.none("the fifth", x.image());
        refused.end();
        x.back(2);
        Kit.due("the third is as it was", x.count(5), 0);
    }

    private static void back() {
        Kit.sentence(45, "All is as in an IMAGE: true;");
        NailedBoxes x = busy();
        x.image();
        Kit.toJune(x);
        x.seed(9);
        Kit.due("back(0)", x.back(0), true);
        Kit.due("MONTH", x.count(5), 0);
        Kit.due("a BOX ahead of June", x.box(0, 0), 2);
        Kit.due("back(0) once more", x.back(0), true);
        x.box(0, 0);
        x.lend(2, 1, 1, 0);
        x.bring(1);
        x.holds(2, 0, 50);
        x.holds(2, 1, 50);
        x.into(2, 1);
        x.back(0);
        Kit.due("the same number", x.box(1, 1), 2);
        Kit.due("of another one", x.told(2, 0), 1);
        Kit.due("who alone KNOWS", x.told(2, 5), 2);
        Kit.none("in no BOX", x.told(2, 2));
        Kit.due("its HOLDERS are none", x.holds(2, 1, 100), true);
        Kit.due("LENT", x.lend(2, 0, 1, 0), 1);
        Kit.due("not BROUGHT BACK yet", x.loan(1, 5), 0);
        Kit.due("in no record", x.told(2, 3), 0);
    }

    private static void backNone() {
        Kit.sentence(45, "false, doing nothing but REFUSED: none such.");
        NailedBoxes x = busy();
        Kit.due("none yet", x.back(0), false);
        Kit.refused("none yet", x, 1, 0, 0);
        x.image();
        x.month();
        Refusals refused = new Refusals(x, 0);
        refused.no("back(1)", x.back(1));
        refused.no("back(3)", x.back(3));
        for (int never : Kit.NEVER) {
            refused.no("back(" + never + ")", x.back(never));
        }
        refused.end();
        Kit.tell(x, TWO);
        Kit.due("gone with the VILLAGE", x.back(0), false);
        Kit.none("a FAULT", Kit.tell(x, "bad"));
        x.image();
        Kit.none("a FAULT", Kit.tell(x, "bad"));
        Kit.due("stays with a FAULT", x.back(0), true);
    }

    private static void counts() {
        Kit.sentence(46, "0 THINGS, 1 PEOPLE, 2 pairs, 3 BOXES, 4 rows of all records, 5 MONTH, 6 rows of the BOOK, 7 bytes on the tape, 8 IMAGES,");
        NailedBoxes x = Kit.village("thing a 1 1 1;thing b 1 1 1;who p fair 9;who q fair 9;who r fair 9;pair a b 1;keeps 5;");
        for (int k = 0; k < 4; k++) {
            x.box(0, 0);
        }
        for (int k = 0; k < 5; k++) {
            x.sign(k % 4, 0, 1);
        }
        x.month();
        for (int k = 0; k < 6; k++) {
            x.row(0, 0, 1, 0);
        }
        for (int k = 0; k < 8; k++) {
            x.lend(k % 4, k < 4 ? 1 : 2, 1, 0);
        }
        x.image();
        x.image();
        Kit.tell(x, "bad");
        for (int k = 0; k < 7; k++) {
            x.feed(0, 0, 0, 0, 0);
        }
        for (int k = 0; k < 9; k++) {
            x.back(9);
        }
        x.image();
        x.image();
        int[] due = {2, 3, 1, 4, 5, 1, 6, 140, 3, 7, 9, 1, 1, 8};
        for (int what = 0; what < 9; what++) {
            Kit.due("count(" + what + ")", x.count(what), due[what]);
        }
        Kit.sentence(46, "9 STATEMENTS, 10 to 12 REFUSED by reason, 13 LENT ones.");
        for (int what = 9; what < 14; what++) {
            Kit.due("count(" + what + ")", x.count(what), due[what]);
        }
    }

    private static void countsOfNone() {
        Kit.sentence(46, "NONE for others.");
        NailedBoxes x = busy();
        Kit.none("count(14)", x.count(14));
        for (int never : Kit.NEVER) {
            Kit.none("count(" + never + ")", x.count(never));
        }
        Kit.refused("asking", x, 0, 0, 0);
    }
}
