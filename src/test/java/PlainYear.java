import java.math.BigInteger;
import java.util.ArrayList;
import java.util.List;

/** What is told in a drawn village: all that was done stands in one list, and each answer is found by doing it again from the first. */
final class PlainYear {
    private final PlainVillage village;
    private final List<List<int[]>> images = new ArrayList<>();
    private final int[] refused = new int[3];

    // what was done: a letter for the call, then what was told
    private List<int[]> done = new ArrayList<>();

    // what follows from it
    private final List<int[]> boxes = new ArrayList<>();
    private final List<int[]> record = new ArrayList<>();
    private final List<int[]> loans = new ArrayList<>();
    private final List<int[]> book = new ArrayList<>();
    private int[][] hundredths;
    private int[] purse;
    private int month;
    private int seed;

    private static final int FILLER = 0;
    private static final int THING = 1;
    private static final int HANDS = 2;
    private static final int OUTER = 3;
    private static final int KNOWS = 4;
    private static final int MONTH = 5;

    PlainYear(PlainVillage village) {
        this.village = village;
        doAgain();
    }

    private void doAgain() {
        boxes.clear();
        record.clear();
        loans.clear();
        book.clear();
        hundredths = new int[40][village.people];
        purse = village.purse.clone();
        month = 0;
        seed = 1;
        for (int[] d : done) {
            apply(d);
        }
    }

    private void apply(int[] d) {
        switch (d[0]) {
            case 'x':
                boxes.add(new int[] {d[1], d[2], d[1], -1, 1 << d[1], month});
                break;
            case 'i':
                boxes.get(d[1])[OUTER] = d[2];
                break;
            case 'm':
                month++;
                break;
            case 's':
                addRecord(0, d[1], d[2], d[3]);
                move(d[1], d[2], d[3]);
                break;
            case 'y':
                addRecord(1, d[1], -1, d[2]);
                break;
            case 'g':
                addRecord(2 + d[2], d[1], -1, d[3]);
                break;
            case 'o':
                boxes.get(d[1])[KNOWS] |= 1 << hands(d[1]);
                break;
            case 'h':
                hundredths[d[1]][d[2]] = d[3];
                break;
            case 'l':
                loans.add(new int[] {d[1], hands(d[1]), d[2], d[3], d[3] * d[4] / 10, 0});
                move(d[1], d[2], d[3]);
                break;
            case 'b':
                int[] loan = loans.get(d[1]);
                loan[5] = 1;
                move(loan[0], loan[1], loan[3] + loan[4]);
                break;
            case 'r':
                book.add(new int[] {d[1], d[2], d[3], d[4]});
                break;
            default:
                seed = d[1];
                break;
        }
    }

    /** Kind, by, to, value, month as they are asked for; then the box, and whether who tells it knows. */
    private void addRecord(int kind, int box, int to, int value) {
        int by = kind < 2 ? hands(box) : -1;
        int knew = by >= 0 ? boxes.get(box)[KNOWS] >> by & 1 : 0;
        record.add(new int[] {kind, by, to, value, month, box, knew});
    }

    private void move(int box, int to, int coins) {
        purse[to] -= coins;
        purse[hands(box)] += coins;
        boxes.get(box)[HANDS] = to;
    }

    private int hands(int box) {
        int[] b = boxes.get(box);
        return b[OUTER] == -1 ? b[HANDS] : hands(b[OUTER]);
    }

    private int tell(boolean can, boolean room, int answer, int... what) {
        if (!can || !room) {
            refused[can ? 1 : 0]++;
            return -1;
        }
        done.add(what);
        doAgain();
        return answer;
    }

    private int yes(boolean can, boolean room, int... what) {
        return tell(can, room, 1, what) == 1 ? 1 : 0;
    }

    private boolean isBox(int box) {
        return box >= 0 && box < boxes.size();
    }

    private boolean isSomebody(int who) {
        return who >= 0 && who < village.people;
    }

    private boolean isThing(int thing) {
        return thing >= 0 && thing < village.things;
    }

    private boolean ahead() {
        return month < 5;
    }

    private boolean outermost(int box) {
        return isBox(box) && boxes.get(box)[OUTER] == -1;
    }

    private boolean canGo(int box, int to, int coins) {
        return ahead() && outermost(box) && isSomebody(to) && hands(box) != to && purse[to] >= coins;
    }

    int call(String name, int... a) {
        switch (name) {
            case "who":
                return isSomebody(a[0]) ? who(a[0], a[1]) : -1;
            case "box":
                return tell(ahead() && isSomebody(a[0]) && isThing(a[1]) && village.share[a[0]][a[1]] > 0,
                        boxes.size() < 40, boxes.size(), 'x', a[0], a[1]);
            case "into":
                return yes(ahead() && outermost(a[0]) && outermost(a[1]) && a[0] != a[1] && hands(a[0]) == hands(a[1]),
                        true, 'i', a[0], a[1]);
            case "month":
                return tell(ahead(), true, month + 1, 'm');
            case "sell":
                return yes(a[2] >= 0 && a[2] <= 9999 && canGo(a[0], a[1], a[2]), record.size() < 300, 's', a[0], a[1], a[2]);
            case "say":
                return yes(ahead() && isBox(a[0]) && isThing(a[1]), record.size() < 300, 'y', a[0], a[1]);
            case "sign":
                boolean reads = a[1] == 0 && a[2] >= 0 && a[2] < 100 || a[1] == 1 && a[2] >= 0 && a[2] < 10;
                return yes(ahead() && isBox(a[0]) && reads, record.size() < 300, 'g', a[0], a[1], a[2]);
            case "open":
                return tell(ahead() && isBox(a[0]), true, isBox(a[0]) ? boxes.get(a[0])[THING] : -1, 'o', a[0]);
            case "holds":
                return holds(a[0], a[1], a[2]);
            case "lend":
                return tell(a[2] >= 1 && a[2] <= 9999 && a[3] >= 0 && a[3] <= 10 && canGo(a[0], a[1], a[2]),
                        loans.size() < 20, loans.size(), 'l', a[0], a[1], a[2], a[3]);
            case "bring":
                return yes(ahead() && canComeBack(a[0]), true, 'b', a[0]);
            case "row":
                return tell(isBox(a[0]) && isSomebody(a[1]) && isSomebody(a[2]) && a[1] != a[2] && a[3] >= 0 && a[3] <= 9999,
                        book.size() < 40, book.size() + 1, 'r', a[0], a[1], a[2], a[3]);
            case "seed":
                return yes(a[0] >= 0 && a[0] <= 999999999, true, 'z', a[0]);
            case "image":
                return image();
            case "back":
                return back(a[0]);
            default:
                return asked(name, a);
        }
    }

    private int holds(int box, int who, int part) {
        boolean can = isBox(box) && isSomebody(who) && part >= 0 && part <= 100;
        if (can) {
            int all = part;
            for (int other = 0; other < village.people; other++) {
                all += other == who ? 0 : hundredths[box][other];
            }
            can = all <= 100;
        }
        return yes(can, true, 'h', box, who, part);
    }

    private boolean canComeBack(int loan) {
        if (loan < 0 || loan >= loans.size()) {
            return false;
        }
        int[] l = loans.get(loan);
        return l[5] == 0 && outermost(l[0]) && hands(l[0]) == l[2] && purse[l[1]] >= l[3] + l[4];
    }

    private int image() {
        if (images.size() == 3) {
            refused[1]++;
            return -1;
        }
        images.add(new ArrayList<>(done));
        return images.size() - 1;
    }

    private int back(int image) {
        if (image < 0 || image >= images.size()) {
            refused[0]++;
            return 0;
        }
        done = new ArrayList<>(images.get(image));
        doAgain();
        return 1;
    }

    private int asked(String name, int[] a) {
        switch (name) {
            case "told":
                return isBox(a[0]) ? told(a[0], a[1]) : -1;
            case "record":
                List<int[]> rows = rows(a[0]);
                return a[1] >= 0 && a[1] < rows.size() && a[2] >= 0 && a[2] < 5 ? rows.get(a[1])[a[2]] : -1;
            case "think":
                return isBox(a[0]) && isThing(a[1]) ? think(a[0], a[1]) : -1;
            case "mean":
                return isBox(a[0]) ? mean(a[0]) : -1;
            case "june":
                return ahead() || !isSomebody(a[0]) ? -1 : june(a[0]);
            case "apart":
                return ahead() ? -1 : apart();
            case "loan":
                return a[0] >= 0 && a[0] < loans.size() && a[1] >= 0 && a[1] < 6 ? loans.get(a[0])[a[1]] : -1;
            case "known":
                return ahead() || !isSomebody(a[0]) ? -1 : known(a[0], a[1]);
            case "heavy":
                return ahead() || !isBox(a[0]) ? -1 : heavy(a[0]);
            case "came":
                return came(a[0]);
            case "wanted":
                return ahead() || !isBox(a[0]) || held(a[0]) || a[1] < 0 || a[1] > 1 ? -1 : wanted(a[0])[a[1]];
            case "wrong":
                return a[0] == 0 || a[0] == 1 ? wrong()[a[0]] : -1;
            case "years":
                boolean isYears = isSomebody(a[0]) && a[1] > 0 && a[1] < 1001 && (a[2] == 0 || isThing(a[2] - 10));
                return isYears ? village.years(a[0], a[1], seed)[Math.max(0, a[2] - 9)] : -1;
            default:
                return count(a[0]);
        }
    }

    private int who(int who, int what) {
        if (what == 2) {
            int in = 0;
            for (int box = 0; box < boxes.size(); box++) {
                in += hands(box) == who ? 1 : 0;
            }
            return in;
        }
        if (isThing(what - 10)) {
            return village.share[who][what - 10];
        }
        return what == 0 ? village.manner[who] : what == 1 ? purse[who] : -1;
    }

    private List<int[]> rows(int box) {
        List<int[]> rows = new ArrayList<>();
        for (int[] r : record) {
            if (r[5] == box) {
                rows.add(r);
            }
        }
        return rows;
    }

    private int told(int box, int what) {
        int[] b = boxes.get(box);
        int[] all = {b[FILLER], hands(box), b[OUTER], rows(box).size(), ahead() ? -1 : b[THING], b[KNOWS], b[MONTH]};
        return what >= 0 && what < all.length ? all[what] : -1;
    }

    private BigInteger likely(int box, int thing) {
        int filler = boxes.get(box)[FILLER];
        BigInteger likely = BigInteger.TEN.pow(14).multiply(BigInteger.valueOf(village.share[filler][thing]))
                .divide(BigInteger.valueOf(village.all(filler)));
        List<int[]> rows = rows(box);
        for (int k = 0; k < rows.size(); k++) {
            int tenths = tenths(rows, k, thing);
            if (tenths >= 0) {
                likely = likely.multiply(BigInteger.valueOf(tenths)).divide(BigInteger.TEN);
            }
        }
        return likely;
    }

    /** -1: nothing. */
    private int tenths(List<int[]> rows, int k, int thing) {
        int[] r = rows.get(k);
        int value = r[3];
        if (r[0] == 2) {
            return village.weight[thing] == value ? village.weigh : 10 - village.weigh;
        }
        if (r[0] == 3) {
            return village.sound[thing] == value ? village.shake : 10 - village.shake;
        }
        if (r[6] == 0) {
            return -1;
        }
        String manner = List.of("fair", "name", "lemon", "best", "chain", "sworn").get(village.manner[r[1]]);
        switch (manner + r[0]) {
            case "fair1":
                return value == thing ? 9 : 1;
            case "name1":
                return value == thing ? 8 : 2;
            case "sworn1":
                return value == thing ? 10 : 0;
            case "lemon0":
                return village.worth(thing, r[4]) < value ? 9 : 1;
            case "best0":
                return village.kept(thing, r[4]) > value ? 1 : 9;
            case "name0":
                for (int j = k - 1; j >= 0; j--) {
                    if (rows.get(j)[0] == 1 && rows.get(j)[1] == r[1]) {
                        return rows.get(j)[3] == thing ? 8 : 2;
                    }
                }
                return -1;
            default:
                return -1;
        }
    }

    private BigInteger allLikely(int box) {
        BigInteger all = BigInteger.ZERO;
        for (int thing = 0; thing < village.things; thing++) {
            all = all.add(likely(box, thing));
        }
        return all;
    }

    private int think(int box, int thing) {
        BigInteger all = allLikely(box);
        return all.signum() == 0 ? -1 : likely(box, thing).multiply(BigInteger.valueOf(1000000)).divide(all).intValueExact();
    }

    private int mean(int box) {
        BigInteger all = allLikely(box);
        BigInteger worths = BigInteger.ZERO;
        for (int thing = 0; thing < village.things; thing++) {
            worths = worths.add(likely(box, thing).multiply(BigInteger.valueOf(100 * village.worth(thing, 5))));
        }
        return all.signum() == 0 ? -1 : worths.divide(all).intValueExact();
    }

    private boolean held(int box) {
        for (int part : hundredths[box]) {
            if (part > 0) {
                return true;
            }
        }
        return false;
    }

    private int worth(int box) {
        return village.worth(boxes.get(box)[THING], 5);
    }

    /** How many of each thing are in somebody's hands (-1: in anybody's) and make pairs; one box more, if it's a number. */
    private int pairs(int who, int more) {
        int[] has = new int[village.things];
        for (int box = 0; box < boxes.size(); box++) {
            if (!held(box) && (who == -1 || hands(box) == who || box == more)) {
                has[boxes.get(box)[THING]]++;
            }
        }
        int all = 0;
        for (int[] p : village.pairs) {
            all += p[2] * Math.min(has[p[0]], has[p[1]]);
        }
        return all;
    }

    private int june(int who) {
        int all = purse[who] + pairs(who, -1);
        for (int box = 0; box < boxes.size(); box++) {
            all += held(box) ? hundredths[box][who] * worth(box) / 100 : hands(box) == who ? worth(box) : 0;
        }
        return all;
    }

    private int apart() {
        int all = pairs(-1, -1);
        for (int who = 0; who < village.people; who++) {
            all -= pairs(who, -1);
        }
        return all;
    }

    private int sales(int box) {
        int sales = 0;
        for (int[] r : rows(box)) {
            sales += r[0] == 0 ? 1 : 0;
        }
        return sales;
    }

    private int known(int who, int what) {
        int sold = 0;
        int worths = 0;
        for (int box = 0; box < boxes.size(); box++) {
            if (boxes.get(box)[FILLER] == who && sales(box) > 0) {
                sold++;
                worths += worth(box);
            }
        }
        int so = 0;
        int notSo = 0;
        for (int[] r : record) {
            if (r[0] == 1 && r[1] == who) {
                so += boxes.get(r[5])[THING] == r[3] ? 1 : 0;
                notSo += boxes.get(r[5])[THING] == r[3] ? 0 : 1;
            }
        }
        int[] all = {sold == 0 ? -1 : 100 * worths / sold, sold, so, notSo};
        return what >= 0 && what < 4 ? all[what] : -1;
    }

    private int heavy(int box) {
        int all = village.weight[boxes.get(box)[THING]];
        for (int in = 0; in < boxes.size(); in++) {
            all += boxes.get(in)[OUTER] == box ? heavy(in) : 0;
        }
        return all;
    }

    private int came(int what) {
        int[] all = {0, 0, -1};
        for (int box = 0; box < boxes.size(); box++) {
            all[0] += sales(box) > 0 && hands(box) == boxes.get(box)[FILLER] ? 1 : 0;
            all[1] = Math.max(all[1], sales(box));
            for (int[] r : rows(box)) {
                all[2] = r[0] == 0 ? Math.max(all[2], r[3]) : all[2];
            }
        }
        return what >= 0 && what < 3 ? all[what] : -1;
    }

    private int[] wanted(int box) {
        int[] wanted = {-1, -1};
        for (int who = village.people - 1; who >= 0; who--) {
            int more = hands(box) == who ? 0 : pairs(who, box) - pairs(who, -1);
            if (more > 0 && more >= wanted[1]) {
                wanted = new int[] {who, more};
            }
        }
        return wanted;
    }

    private int[] wrong() {
        int[] wrong = {-1, -1};
        int[] has = new int[boxes.size()];
        for (int box = 0; box < has.length; box++) {
            has[box] = boxes.get(box)[FILLER];
        }
        int[] purses = village.purse.clone();
        for (int k = 0; k < book.size(); k++) {
            int[] b = book.get(k);
            boolean his = has[b[0]] == b[1];
            if (!his && wrong[0] == -1) {
                wrong[0] = k;
            }
            if (his && b[3] > purses[b[2]] && wrong[1] == -1) {
                wrong[1] = k;
            }
            if (his) {
                has[b[0]] = b[2];
                purses[b[2]] -= b[3];
                purses[b[1]] += b[3];
            }
        }
        return wrong;
    }

    private int count(int what) {
        switch (what) {
            case 2:
                return village.pairs.size();
            case 3:
                return boxes.size();
            case 4:
                return record.size();
            case 5:
                return month;
            case 6:
                return book.size();
            case 8:
                return images.size();
            case 10:
            case 11:
                return refused[what - 10];
            case 13:
                return loans.size();
            default:
                return -1;
        }
    }
}
