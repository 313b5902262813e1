import java.util.ArrayList;
import java.util.List;

/** Calls REFUSED for one reason: behind them all is as it was, but how many were REFUSED. Small villages alone, for it asks much. */
final class Refusals {
    private final NailedBoxes x;
    private final int reason;
    private final List<String> before;
    private final int[] refusedBefore = new int[3];
    private int calls = 0;

    Refusals(NailedBoxes x, int reason) {
        this.x = x;
        this.reason = reason;
        for (int k = 0; k < 3; k++) {
            refusedBefore[k] = x.count(10 + k);
        }
        before = look(x);
    }

    void none(String call, int got) {
        Kit.due(call, got, -1);
        calls++;
    }

    void no(String call, boolean got) {
        Kit.due(call, got, false);
        calls++;
    }

    void noText(String call, int got) {
        Kit.due(call, got, -2);
        calls++;
    }

    void end() {
        List<String> after = look(x);
        for (int k = 0; k < Math.max(before.size(), after.size()); k++) {
            String was = k < before.size() ? before.get(k) : "not there";
            String is = k < after.size() ? after.get(k) : "not there";
            Kit.due("doing nothing: it was " + was + ", it is " + is + ": the same", was.equals(is), true);
        }
        for (int k = 0; k < 3; k++) {
            Kit.due("REFUSED " + k, x.count(10 + k) - refusedBefore[k], k == reason ? calls : 0);
        }
    }

    private static List<String> look(NailedBoxes x) {
        List<String> seen = new ArrayList<>();
        for (int what : new int[] {0, 1, 2, 3, 4, 5, 6, 7, 8, 9, 13}) {
            seen.add("count(" + what + ") " + x.count(what));
        }
        int things = x.count(0);
        for (int thing = 0; thing < things; thing++) {
            seen.add("thing(" + thing + ", ..) " + x.thing(thing, 0) + " " + x.thing(thing, 10) + " " + x.thing(thing, 20));
        }
        int people = x.count(1);
        for (int who = 0; who < people; who++) {
            seen.add("who(" + who + ", ..) " + x.who(who, 0) + " " + x.who(who, 1) + " " + x.who(who, 2) + " " + x.who(who, 10));
            seen.add("june(" + who + ") " + x.june(who));
        }
        int boxes = Math.min(3, x.count(3));
        for (int box = 0; box < boxes; box++) {
            lookAtBox(x, box, seen);
        }
        int loan = x.count(13) - 1;
        seen.add("loan(" + loan + ", ..) " + x.loan(loan, 0) + " " + x.loan(loan, 2) + " " + x.loan(loan, 3) + " " + x.loan(loan, 5));
        seen.add("wrong(..) " + x.wrong(0) + " " + x.wrong(1));
        seen.add("fault() " + x.fault());
        seen.add("years(0, 9, ..) " + x.years(0, 9, 0) + " " + x.years(0, 9, 10));
        return seen;
    }

    private static void lookAtBox(NailedBoxes x, int box, List<String> seen) {
        StringBuilder told = new StringBuilder("told(" + box + ", ..)");
        for (int what = 0; what < 7; what++) {
            told.append(' ').append(x.told(box, what));
        }
        seen.add(told.toString());
        int row = x.told(box, 3) - 1;
        seen.add("record(" + box + ", " + row + ", ..) " + x.record(box, row, 0) + " " + x.record(box, row, 3));
        seen.add("mean(" + box + ") " + x.mean(box));
    }
}
