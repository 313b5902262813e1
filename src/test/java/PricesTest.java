import java.util.List;
import java.util.Random;

/** Promises 30 to 42 on drawn villages, against the plainest counting. */
public final class PricesTest {
    public static void main(String[] args) {
        Random draw = new Random(20261119);
        for (int round = 0; round < 300; round++) {
            PlainVillage plain = new PlainVillage(draw);
            NailedBoxes x = new NailedBoxes();
            if (plain.text.length() > 900) {
                continue;
            }
            Kit.due("village() of " + plain.text, Kit.tell(x, plain.text) > 0, true);
            int w = draw.nextInt(plain.people);
            int month = draw.nextInt(6);
            rest(plain, x, w, month);
            laws(plain, x, month);
            ofSomebody(plain, x, w, month, draw);
            hours(plain, x, w, month);
            sayings(plain, x, w, month, draw);
            Kit.refused(plain.text, x, 0, 0, 0);
        }
        Kit.end();
    }

    private static void rest(PlainVillage plain, NailedBoxes x, int w, int month) {
        for (int law = 0; law < 4; law++) {
            for (int t = 0; t < plain.things; t++) {
                long[] pool = plain.pool(law, w, t);
                int price = plain.share[w][t] == 0 ? -1 : plain.rest(pool, month);
                String call = plain.text + " rest(" + law + ", " + w + ", " + t + ", " + month + ", ";
                Kit.due(call + "0)", x.rest(law, w, t, month, 0), price);
                Kit.due(call + "1)", x.rest(law, w, t, month, 1), price == -1 ? -1 : plain.sold(pool, month, price));
            }
        }
    }

    private static void laws(PlainVillage plain, NailedBoxes x, int month) {
        for (int law = 0; law < 4; law++) {
            Kit.due(plain.text + " lost(" + law + ", " + month + ")", x.lost(law, month), plain.lost(law, month));
        }
        Kit.due(plain.text + " law(" + month + ")", x.law(month), plain.law(month));
    }

    private static void ofSomebody(PlainVillage plain, NailedBoxes x, int w, int month, Random draw) {
        String of = plain.text + " of " + w + " in " + month + ": ";
        int best = plain.best(w);
        Kit.due(of + "best 0", x.best(w, 0), best);
        Kit.due(of + "best 1", x.best(w, 1), plain.rest(plain.pool(1, w, 0), best));
        int price = draw.nextInt(draw.nextBoolean() ? 1000 : 20);
        int coins = draw.nextInt(draw.nextBoolean() ? 1000 : 60);
        int n = 1 + draw.nextInt(20);
        Kit.due(of + "little at " + price, x.little(w, month, price), plain.little(w, month, price));
        Kit.due(of + "weight", x.weight(w, month), plain.byWeight(w, month));
        Kit.due(of + "lasts " + coins + " at " + price + ", " + n,
                x.lasts(w, month, coins, price, n), plain.lasts(w, month, coins, price, n));
        int tenths = draw.nextInt(10);
        Kit.due(of + "name 0", x.name(w, tenths, 0), plain.name(w, tenths)[0]);
        Kit.due(of + "name 1", x.name(w, tenths, 1), plain.name(w, tenths)[1]);
        for (int law = 0; law < 4; law++) {
            Kit.due(of + "fill 0 by " + law, x.fill(w, law, month, 0), plain.fill(w, law, month)[0]);
            Kit.due(of + "fill 1 by " + law, x.fill(w, law, month, 1), plain.fill(w, law, month)[1]);
        }
    }

    private static void hours(PlainVillage plain, NailedBoxes x, int w, int month) {
        String of = plain.text + " hours of " + w + " in " + month + ": ";
        List<int[]> hours = plain.hours(w, month);
        Kit.due(of + "how many", x.hours(w, month, -1, 0), hours.size());
        for (int k = 0; k < hours.size(); k++) {
            Kit.due(of + k + " 0", x.hours(w, month, k, 0), hours.get(k)[0]);
            Kit.due(of + k + " 1", x.hours(w, month, k, 1), hours.get(k)[1]);
        }
        Kit.due(of + "none such", x.hours(w, month, hours.size(), 0), -1);
    }

    private static void sayings(PlainVillage plain, NailedBoxes x, int w, int month, Random draw) {
        String of = plain.text + " sayings of " + w + " in " + month + ": ";
        for (int k = 0; k < 4; k++) {
            int cost = k == 0 ? 0 : draw.nextInt(k == 1 ? 1000 : 30);
            Kit.due(of + "liars " + cost, x.liars(w, month, cost), plain.liars(w, month, cost));
        }
        Kit.due(of + "honest 0", x.honest(w, month, 0), plain.honest(w, month));
        Kit.due(of + "honest 1", x.honest(w, month, 1), plain.top(w, month));
        int n = 1 + draw.nextInt(300);
        int seed = draw.nextInt(1000000000);
        int first = plain.years(w, n, 1)[0];
        Kit.due(of + "years by 1", x.years(w, n, 0), first);
        x.seed(seed);
        int[] years = plain.years(w, n, seed);
        Kit.due(of + "years", x.years(w, n, 0), years[0]);
        for (int t = 0; t < plain.things; t++) {
            Kit.due(of + "how often " + t, x.years(w, n, 10 + t), years[1 + t]);
        }
        Kit.due(of + "z stays", x.years(w, n, 0), years[0]);
    }
}
