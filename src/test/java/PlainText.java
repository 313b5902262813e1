import java.util.ArrayList;
import java.util.List;
import java.util.Set;
import java.util.TreeMap;
import java.util.regex.Matcher;
import java.util.regex.Pattern;

/** A text read as the document tells it, word by word; what doesn't fit is thrown, with its place. */
final class PlainText {
    private static final List<String> MANNERS = List.of("fair", "name", "lemon", "best", "chain", "sworn");
    private static final Set<String> WORDS = Set.of("thing", "who", "fills", "pair", "keeps", "weigh", "shake", "spoils",
            "fair", "name", "lemon", "best", "chain", "sworn");

    private static final class Unfit extends RuntimeException {
        private static final long serialVersionUID = 1L;
    }

    private final List<String> tokens = new ArrayList<>();
    private final List<Integer> places = new ArrayList<>();
    private int at = 0;
    int fault = -1;
    int statements = 0;

    /** By names: WORTH, WEIGHT, SOUND, "spoils". */
    final TreeMap<String, int[]> things = new TreeMap<>();
    final List<String> thingNames = new ArrayList<>();
    final List<String> whoNames = new ArrayList<>();
    final List<int[]> people = new ArrayList<>();
    final TreeMap<String, TreeMap<String, Integer>> fills = new TreeMap<>();
    int pairs = 0;
    int keeps = 8;

    PlainText(String text) {
        Matcher token = Pattern.compile("[a-z]+|[0-9]+|[^ \n]").matcher(text);
        while (token.find()) {
            tokens.add(token.group());
            places.add(token.start());
        }
        places.add(text.length());
        try {
            while (at < tokens.size()) {
                need(statements < 50);
                statement(next());
                literal(";");
                statements++;
            }
        } catch (Unfit e) {
            fault = places.get(at);
        }
    }

    private void need(boolean fits) {
        if (!fits) {
            throw new Unfit();
        }
    }

    /** What is next, and isn't taken yet. */
    private String next() {
        need(at < tokens.size());
        return tokens.get(at);
    }

    private void literal(String token) {
        need(next().equals(token));
        at++;
    }

    private int number(int least, int most) {
        need(next().matches("[0-9]{1,4}"));
        int number = Integer.parseInt(next());
        need(number >= least && number <= most);
        at++;
        return number;
    }

    private String newName(int told, int most) {
        need(next().matches("[a-z]{1,8}") && !WORDS.contains(next()));
        need(!thingNames.contains(next()) && !whoNames.contains(next()) && told < most);
        return tokens.get(at++);
    }

    private String oneOf(List<String> names) {
        need(names.contains(next()));
        return tokens.get(at++);
    }

    private void statement(String first) {
        need(Set.of("thing", "who", "fills", "pair", "keeps", "weigh", "shake").contains(first));
        need(!first.equals("pair") || pairs < 6);
        at++;
        switch (first) {
            case "thing":
                thing();
                break;
            case "who":
                String who = newName(whoNames.size(), 12);
                int manner = MANNERS.indexOf(oneOf(MANNERS));
                people.add(new int[] {manner, number(0, 9999)});
                whoNames.add(who);
                break;
            case "fills":
                fills();
                break;
            case "pair":
                String one = oneOf(thingNames);
                need(!next().equals(one));
                oneOf(thingNames);
                number(1, 999);
                pairs++;
                break;
            case "keeps":
                keeps = number(0, 10);
                break;
            default:
                number(0, 10);
                break;
        }
    }

    private void thing() {
        String name = newName(thingNames.size(), 8);
        int[] thing = {number(0, 999), number(0, 99), number(0, 9), 0};
        if (next().equals("spoils")) {
            at++;
            thing[3] = number(0, 99);
        }
        things.put(name, thing);
        thingNames.add(name);
    }

    private void fills() {
        String who = oneOf(whoNames);
        TreeMap<String, Integer> shares = new TreeMap<>();
        do {
            if (!shares.isEmpty()) {
                literal(",");
            }
            int share = number(1, 99);
            need(!shares.containsKey(next()));
            shares.put(oneOf(thingNames), share);
        } while (next().equals(","));
        fills.put(who, shares);
    }

    int share(int who, int thing) {
        TreeMap<String, Integer> shares = fills.get(whoNames.get(who));
        return shares == null ? 1 : shares.getOrDefault(thingNames.get(thing), 0);
    }
}
