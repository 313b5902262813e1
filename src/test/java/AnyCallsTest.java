import java.lang.reflect.Method;
import java.util.Arrays;
import java.util.Comparator;
import java.util.Random;

/** No call throws and all end, for any arguments in any state; the same calls give the same answers. */
public final class AnyCallsTest {
    private static final int[] EDGES = {Integer.MIN_VALUE, Integer.MAX_VALUE, -2, -1, 0, 1, 2, 5, 8, 12, 39, 40, 99, 999, 1000, 9999};

    public static void main(String[] args) throws Exception {
        Method[] calls = NailedBoxes.class.getDeclaredMethods();
        calls = Arrays.stream(calls).filter(m -> java.lang.reflect.Modifier.isPublic(m.getModifiers())).toArray(Method[]::new);
        Arrays.sort(calls, Comparator.comparing(Method::getName));
        Kit.due("methods of the face", calls.length, 45);
        Random draw = new Random(5);
        for (int round = 0; round < 400; round++) {
            run(calls, draw, round);
        }
        Kit.end();
    }

    private static void run(Method[] calls, Random draw, int round) throws Exception {
        NailedBoxes x = new NailedBoxes();
        NailedBoxes y = new NailedBoxes();
        if (round % 5 > 0) {
            String text = round % 5 == 1 ? Kit.FAIRS : smudged(draw);
            Kit.tell(x, text);
            Kit.tell(y, text);
        }
        for (int k = 0; k < 440; k++) {
            Method call = calls[draw.nextInt(calls.length)];
            if (call.getName().equals("village") && draw.nextInt(20) > 0) {
                continue;
            }
            Object[] with = new Object[call.getParameterCount()];
            for (int a = 0; a < with.length; a++) {
                with[a] = draw.nextInt(4) == 0 ? EDGES[draw.nextInt(EDGES.length)] : draw.nextInt(draw.nextInt(3) == 0 ? 40 : 6);
            }
            try {
                Object one = call.invoke(x, with);
                Object other = call.invoke(y, with);
                Kit.due(call.getName() + Arrays.toString(with) + " again", one.equals(other), true);
            } catch (java.lang.reflect.InvocationTargetException e) {
                Kit.due(call.getName() + Arrays.toString(with) + " threw " + e.getCause(), 1, 0);
            }
        }
    }

    private static String smudged(Random draw) {
        StringBuilder text = new StringBuilder(Kit.FAIRS);
        for (int k = draw.nextInt(4); k > 0; k--) {
            int at = draw.nextInt(text.length());
            switch (draw.nextInt(3)) {
                case 0:
                    text.deleteCharAt(at);
                    break;
                case 1:
                    text.setCharAt(at, (char) draw.nextInt(256));
                    break;
                default:
                    text.insert(at, " ;,a9".charAt(draw.nextInt(5)));
                    break;
            }
        }
        return text.toString();
    }
}
