import java.math.BigInteger;
import java.util.ArrayList;
import java.util.List;
import java.util.Random;
import java.util.TreeSet;

/** A drawn village, and what the document's words say of it, by the plainest counting: prices tried one by one, great integers. */
final class PlainVillage {
    private static final String[] MANNERS = {"fair", "name", "lemon", "best", "chain", "sworn"};

    final int things;
    final int people;
    final int[] worth;
    final int[] weight;
    final int[] sound;
    final int[] spoils;
    final int[][] share;
    final int[] manner;
    final int[] purse;
    final List<int[]> pairs = new ArrayList<>();
    final int keeps;
    final int weigh;
    final int shake;
    final String text;

    PlainVillage(Random draw) {
        things = 1 + draw.nextInt(8);
        people = 1 + draw.nextInt(12);
        worth = new int[things];
        weight = new int[things];
        sound = new int[things];
        spoils = new int[things];
        share = new int[people][things];
        manner = new int[people];
        purse = new int[people];
        keeps = draw.nextInt(11);
        weigh = draw.nextInt(11);
        shake = draw.nextInt(11);
        int most = draw.nextBoolean() ? 999 : 20;
        int mostShare = draw.nextBoolean() ? 99 : 4;
        StringBuilder all = new StringBuilder();
        for (int t = 0; t < things; t++) {
            worth[t] = draw.nextInt(most + 1);
            weight[t] = draw.nextInt(draw.nextBoolean() ? 100 : 3);
            sound[t] = draw.nextInt(draw.nextBoolean() ? 10 : 2);
            spoils[t] = draw.nextBoolean() ? draw.nextInt(100) : 0;
            all.append("thing t").append((char) ('a' + t)).append(' ').append(worth[t]).append(' ').append(weight[t])
                    .append(' ').append(sound[t]).append(spoils[t] > 0 ? " spoils " + spoils[t] : "").append(';');
        }
        for (int w = 0; w < people; w++) {
            manner[w] = draw.nextInt(6);
            purse[w] = draw.nextInt(draw.nextBoolean() ? 10000 : 99);
            all.append("who p").append((char) ('a' + w)).append(' ').append(MANNERS[manner[w]]).append(' ').append(purse[w]).append(';');
            drawShares(draw, w, mostShare, all);
        }
        drawPairs(draw, all);
        text = all.append("keeps ").append(keeps).append(";weigh ").append(weigh).append(";shake ").append(shake).append(';').toString();
    }

    private void drawPairs(Random draw, StringBuilder all) {
        for (int k = draw.nextInt(7); k > 0 && things > 1; k--) {
            int one = draw.nextInt(things);
            int other = (one + 1 + draw.nextInt(things - 1)) % things;
            int brings = 1 + draw.nextInt(999);
            pairs.add(new int[] {one, other, brings});
            all.append("pair t").append((char) ('a' + one)).append(" t").append((char) ('a' + other)).append(' ').append(brings).append(';');
        }
    }

    private void drawShares(Random draw, int w, int mostShare, StringBuilder all) {
        boolean fills = draw.nextInt(4) > 0;
        String between = "fills p" + (char) ('a' + w) + " ";
        for (int t = 0; t < things; t++) {
            share[w][t] = fills ? 0 : 1;
            if (fills && (draw.nextInt(3) > 0 || t == things - 1 && !between.equals(","))) {
                share[w][t] = 1 + draw.nextInt(mostShare);
                all.append(between).append(share[w][t]).append(" t").append((char) ('a' + t));
                between = ",";
            }
        }
        if (fills) {
            all.append(';');
        }
    }

    int worth(int t, int month) {
        return Math.max(0, worth[t] - spoils[t] * month);
    }

    int kept(int t, int month) {
        return worth(t, month) * keeps / 10;
    }

    int all(int w) {
        int all = 0;
        for (int s : share[w]) {
            all += s;
        }
        return all;
    }

    long[] own(int w) {
        long[] own = new long[things];
        for (int t = 0; t < things; t++) {
            own[t] = share[w][t];
        }
        return own;
    }

    /** The pool by a law in which thing t of w is. */
    long[] pool(int law, int w, int t) {
        long[] pool = new long[things];
        for (int p = 0; p < people; p++) {
            for (int u = 0; u < things; u++) {
                boolean in = law == 0 || law == 1 && p == w || law == 2 && sound[u] == sound[t] || law == 3 && weight[u] == weight[t];
                pool[u] += in ? 1000000L * share[p][u] / all(p) : 0;
            }
        }
        return pool;
    }

    int rest(long[] pool, int month) {
        for (int price = 999; price >= 0; price--) {
            long shares = 0;
            long worths = 0;
            for (int t = 0; t < things; t++) {
                if (pool[t] > 0 && kept(t, month) <= price) {
                    shares += pool[t];
                    worths += pool[t] * worth(t, month);
                }
            }
            if (shares > 0 && price <= worths / shares) {
                return price;
            }
        }
        return -1;
    }

    int sold(long[] pool, int month, int price) {
        int bits = 0;
        for (int t = 0; t < things; t++) {
            bits |= pool[t] > 0 && kept(t, month) <= price ? 1 << t : 0;
        }
        return bits;
    }

    int lost(int law, int month) {
        List<long[]> pools = new ArrayList<>();
        if (law == 0) {
            pools.add(pool(0, 0, 0));
        }
        for (int w = 0; w < people && law == 1; w++) {
            pools.add(pool(1, w, 0));
        }
        TreeSet<Integer> readings = new TreeSet<>();
        for (int t = 0; t < things && law > 1; t++) {
            if (readings.add(law == 2 ? sound[t] : weight[t])) {
                pools.add(pool(law, 0, t));
            }
        }
        BigInteger lost = BigInteger.ZERO;
        BigInteger shares = BigInteger.ZERO;
        for (long[] pool : pools) {
            int price = rest(pool, month);
            for (int t = 0; t < things; t++) {
                shares = shares.add(BigInteger.valueOf(pool[t]));
                if (price == -1 || (sold(pool, month, price) >> t & 1) == 0) {
                    lost = lost.add(BigInteger.valueOf(pool[t] * (worth(t, month) - kept(t, month))));
                }
            }
        }
        return lost.multiply(BigInteger.valueOf(100)).divide(shares).intValueExact();
    }

    int law(int month) {
        int best = 0;
        for (int law = 1; law < 4; law++) {
            best = lost(law, month) < lost(best, month) ? law : best;
        }
        return best;
    }

    int best(int w) {
        int best = 0;
        for (int month = 1; month < 5; month++) {
            best = rest(pool(1, w, 0), month) > rest(pool(1, w, 0), best) ? month : best;
        }
        return best;
    }

    int little(int w, int month, int price) {
        long above = 0;
        long worths = 0;
        for (int t = 0; t < things; t++) {
            above += share[w][t] * Math.max(0, worth(t, month) - price);
            worths += share[w][t] * worth(t, month);
        }
        long mean = 100 * worths / all(w) - 100L * price;
        return (int) (100 * above / all(w) - Math.max(0, mean));
    }

    int byWeight(int w, int month) {
        for (int price = 999; price >= 0; price--) {
            long worths = 0;
            long weights = 0;
            boolean sold = false;
            for (int t = 0; t < things; t++) {
                if (share[w][t] > 0 && kept(t, month) <= price * weight[t]) {
                    sold = true;
                    worths += share[w][t] * worth(t, month);
                    weights += share[w][t] * weight[t];
                }
            }
            if (sold && worths >= price * weights) {
                return price;
            }
        }
        return -1;
    }

    /** Pairs of a price and what is sold at it. */
    List<int[]> hours(int w, int month) {
        List<int[]> hours = new ArrayList<>();
        long[] left = pool(1, w, 0);
        for (int price = rest(left, month); price != -1; price = rest(left, month)) {
            int sold = sold(left, month, price);
            hours.add(new int[] {price, sold});
            for (int t = 0; t < things; t++) {
                left[t] = (sold >> t & 1) == 1 ? 0 : left[t];
            }
        }
        return hours;
    }

    int lasts(int w, int month, int coins, int price, int n) {
        BigInteger[] now = new BigInteger[1000];
        java.util.Arrays.fill(now, BigInteger.ZERO);
        now[coins] = BigInteger.TEN.pow(14);
        for (int k = 0; k < n; k++) {
            BigInteger[] then = new BigInteger[1000];
            java.util.Arrays.fill(then, BigInteger.ZERO);
            for (int c = price; c < 1000; c++) {
                for (int t = 0; t < things; t++) {
                    int left = Math.min(999, c - price + worth(t, month));
                    then[left] = then[left].add(now[c].multiply(BigInteger.valueOf(share[w][t])).divide(BigInteger.valueOf(all(w))));
                }
            }
            now = then;
        }
        BigInteger all = BigInteger.ZERO;
        for (BigInteger b : now) {
            all = all.add(b);
        }
        return all.multiply(BigInteger.valueOf(1000000)).divide(BigInteger.TEN.pow(14)).intValueExact();
    }

    int top(int w, int month) {
        int top = -1;
        for (int t = 0; t < things; t++) {
            top = share[w][t] > 0 && (top == -1 || worth(t, month) > worth(top, month)) ? t : top;
        }
        return top;
    }

    int honest(int w, int month) {
        int least = worth(top(w, month), month);
        for (int t = 0; t < things; t++) {
            least = share[w][t] > 0 ? Math.min(least, worth(t, month)) : least;
        }
        return worth(top(w, month), month) - least;
    }

    int liars(int w, int month, int cost) {
        int top = top(w, month);
        List<Integer> others = new ArrayList<>();
        for (int t = 0; t < things; t++) {
            if (share[w][t] > 0 && t != top) {
                others.add(t);
            }
        }
        others.sort((a, b) -> worth(a, month) != worth(b, month) ? worth(a, month) - worth(b, month) : a - b);
        for (int size = others.size(); size >= 0; size--) {
            long worths = share[w][top] * worth(top, month);
            long shares = share[w][top];
            int bits = 0;
            for (int t : others.subList(0, size)) {
                worths += share[w][t] * worth(t, month);
                shares += share[w][t];
                bits |= 1 << t;
            }
            long lie = worths / shares - cost;
            boolean rests = true;
            for (int t : others.subList(0, size)) {
                rests &= lie > worth(t, month);
            }
            for (int t : others.subList(size, others.size())) {
                rests &= lie <= worth(t, month);
            }
            if (rests) {
                return bits;
            }
        }
        return -1;
    }

    int[] name(int w, int tenths) {
        int more = Math.max(0, rest(pool(1, w, 0), 0) - rest(pool(0, w, 0), 0));
        BigInteger upper = BigInteger.valueOf(10L * more);
        BigInteger lower = BigInteger.valueOf(10 - tenths);
        BigInteger common = upper.gcd(lower);
        return new int[] {upper.divide(common).intValue(), lower.divide(common).intValue()};
    }

    int[] fill(int w, int law, int month) {
        int[] best = {-1, -1};
        for (int t = 0; t < things; t++) {
            if (share[w][t] > 0) {
                long[] pool = pool(law, w, t);
                int price = rest(pool, month);
                int brings = (sold(pool, month, price) >> t & 1) == 1 ? price - kept(t, month) : 0;
                best = brings > best[1] ? new int[] {t, brings} : best;
            }
        }
        return best;
    }

    /** All that is brought, then how often each thing. */
    int[] years(int w, int n, long seed) {
        int[] years = new int[1 + things];
        BigInteger z = BigInteger.valueOf(seed);
        BigInteger wrap = BigInteger.TWO.pow(64);
        int price = rest(pool(1, w, 0), 0);
        int sold = sold(pool(1, w, 0), 0, price);
        for (int k = 0; k < n; k++) {
            z = z.multiply(new BigInteger("6364136223846793005")).add(new BigInteger("1442695040888963407")).mod(wrap);
            int left = z.shiftRight(33).mod(BigInteger.valueOf(all(w))).intValue();
            int t = 0;
            for (int sum = share[w][0]; sum <= left; sum += share[w][t]) {
                t++;
            }
            years[1 + t]++;
            years[0] += (sold >> t & 1) == 1 ? price : kept(t, 0);
        }
        return years;
    }
}
