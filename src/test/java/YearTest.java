import java.lang.reflect.Method;
import java.util.Arrays;
import java.util.HashMap;
import java.util.Map;
import java.util.Random;

/** Promises 6 to 29 and 43 to 46 on drawn villages with drawn calls, against doing all again from the first. */
public final class YearTest {
    // how often each call is drawn; b: a box, w: somebody, t: a thing, c: coins, l: a LENT one, others: a number below
    private static final String[][] CALLS = {
        {"box", "6", "w", "t"}, {"into", "2", "b", "b"}, {"month", "1"}, {"sell", "8", "b", "w", "c"}, {"say", "6", "b", "t"},
        {"sign", "3", "b", "2", "10"}, {"open", "4", "b"}, {"told", "3", "b", "8"}, {"record", "3", "b", "6", "6"},
        {"think", "5", "b", "t"}, {"mean", "4", "b"}, {"holds", "2", "b", "w", "101"}, {"june", "3", "w"}, {"apart", "2"},
        {"lend", "4", "b", "w", "c", "12"}, {"bring", "4", "l"}, {"loan", "2", "l", "7"}, {"known", "3", "w", "5"}, {"heavy", "2", "b"},
        {"came", "2", "4"}, {"wanted", "4", "b", "2"}, {"row", "3", "b", "w", "w", "c"}, {"wrong", "4", "3"}, {"who", "3", "w", "19"},
        {"image", "1"}, {"back", "2", "4"}, {"seed", "1", "999"}, {"years", "1", "w", "20", "19"}, {"count", "3", "14"}
    };
    private static final int MOST_CALLS = 512;
    private static final Map<String, Method> FACE = new HashMap<>();
    private static int calls = 0;

    public static void main(String[] args) throws Exception {
        for (Method call : NailedBoxes.class.getMethods()) {
            FACE.put(call.getName(), call);
        }
        Random draw = new Random(20261120);
        for (int round = 0; round < 1500; round++) {
            PlainVillage village = new PlainVillage(draw);
            if (village.text.length() <= 900) {
                run(village, draw);
            }
        }
        Kit.end();
    }

    private static void run(PlainVillage village, Random draw) throws Exception {
        NailedBoxes x = new NailedBoxes();
        PlainYear plain = new PlainYear(village);
        Kit.due("village() of " + village.text, Kit.tell(x, village.text) > 0, true);
        int mostMonths = draw.nextInt(6);
        int mostCoins = draw.nextInt(3) == 0 ? 10001 : 30;
        StringBuilder former = new StringBuilder(village.text);
        calls = village.text.length() / 20 + 2;
        int drawnCalls = 50 + draw.nextInt(300);
        for (int k = 0; k < drawnCalls; k++) {
            String[] drawn = drawCall(draw);
            if (drawn[0].equals("month") && plain.call("count", 5) >= mostMonths || isRare(drawn[0]) && draw.nextInt(3) > 0) {
                continue;
            }
            int[] with = new int[drawn.length - 2];
            for (int a = 0; a < with.length; a++) {
                with[a] = drawArgument(drawn[a + 2], village, plain, mostCoins, draw);
            }
            ask(x, plain, drawn[0], with, former);
        }
        for (int k = 0; k < 6; k++) {
            ask(x, plain, "month", new int[0], former);
        }
        atLast(x, plain, village, former);
    }

    /** Or the year would never go on. */
    private static boolean isRare(String call) {
        return call.equals("image") || call.equals("back");
    }

    private static String[] drawCall(Random draw) {
        int all = 0;
        for (String[] call : CALLS) {
            all += Integer.parseInt(call[1]);
        }
        int left = draw.nextInt(all);
        int k = 0;
        for (left -= Integer.parseInt(CALLS[0][1]); left >= 0; left -= Integer.parseInt(CALLS[k][1])) {
            k++;
        }
        return CALLS[k];
    }

    private static int drawArgument(String kind, PlainVillage village, PlainYear plain, int mostCoins, Random draw) {
        if (draw.nextInt(60) == 0) {
            return draw.nextBoolean() ? -1 : draw.nextInt(200);
        }
        switch (kind) {
            case "b":
                return draw.nextInt(1 + plain.call("count", 3));
            case "w":
                return draw.nextInt(village.people);
            case "t":
                return draw.nextInt(village.things);
            case "l":
                return draw.nextInt(1 + plain.call("count", 13));
            case "c":
                return draw.nextInt(mostCoins);
            default:
                return draw.nextInt(Integer.parseInt(kind));
        }
    }

    private static void ask(NailedBoxes x, PlainYear plain, String call, int[] with, StringBuilder former) throws Exception {
        boolean isOfText = call.equals("count") && (with[0] < 2 || with[0] == 7 || with[0] == 9 || with[0] == 12);
        // what later calls answer is free
        if (isOfText || calls == MOST_CALLS) {
            return;
        }
        calls++;
        Object got = FACE.get(call).invoke(x, Arrays.stream(with).boxed().toArray());
        int answer = got instanceof Boolean ? (Boolean) got ? 1 : 0 : (Integer) got;
        former.append(' ').append(call).append(Arrays.toString(with));
        int due = plain.call(call, with);
        if (answer != due) {
            Kit.due(former.toString(), answer, due);
        }
    }

    private static void atLast(NailedBoxes x, PlainYear plain, PlainVillage village, StringBuilder former) throws Exception {
        for (int who = 0; who < village.people; who++) {
            ask(x, plain, "june", new int[] {who}, former);
            ask(x, plain, "who", new int[] {who, 1}, former);
            for (int what = 0; what < 4; what++) {
                ask(x, plain, "known", new int[] {who, what}, former);
            }
        }
        for (int box = 0; box < plain.call("count", 3); box++) {
            ask(x, plain, "mean", new int[] {box}, former);
            ask(x, plain, "heavy", new int[] {box}, former);
            ask(x, plain, "wanted", new int[] {box, 0}, former);
            ask(x, plain, "wanted", new int[] {box, 1}, former);
            for (int what = 0; what < 7; what++) {
                ask(x, plain, "told", new int[] {box, what}, former);
            }
            for (int thing = 0; thing < village.things; thing++) {
                ask(x, plain, "think", new int[] {box, thing}, former);
            }
        }
        ask(x, plain, "apart", new int[0], former);
        for (int what = 0; what < 14; what++) {
            ask(x, plain, "came", new int[] {what}, former);
            ask(x, plain, "wrong", new int[] {what}, former);
            ask(x, plain, "count", new int[] {what}, former);
        }
    }
}
