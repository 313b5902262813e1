import java.util.ArrayList;
import java.util.List;
import java.util.Random;

/** Promises 2 to 6 and 46 on drawn texts, whole and spoilt, against the plainest reading. */
public final class TextTest {
    private static final String[] ANY = {"thing", "who", "fills", "pair", "keeps", "weigh", "shake", "spoils", "fair", "name", "lemon",
        "best", "chain", "sworn", ";", ",", "0", "1", "10", "11", "99", "100", "999", "1000", "9999", "00000", "0009", "a", "b", "p", "q",
        "abcdefgh", "abcdefghi", "A", "\u00e9", "\t", "-", "\u0000", "things", "a1"};

    public static void main(String[] args) {
        Random draw = new Random(20261120);
        for (int round = 0; round < 20000; round++) {
            String text = joined(draw, spoilt(draw, drawTokens(draw)));
            if (text.length() <= 900) {
                read(text);
            }
        }
        Kit.end();
    }

    private static void read(String text) {
        PlainText plain = new PlainText(text);
        NailedBoxes x = new NailedBoxes();
        Kit.tell(x, "who formerly fair 7;");
        int answer = Kit.tell(x, text);
        if (plain.fault != -1) {
            Kit.due("village of " + text, answer, -1);
            Kit.due("fault of " + text, x.fault(), plain.fault);
            Kit.due("what was stays with " + text, x.who(0, 1), 7);
            Kit.refused(text, x, 0, 0, 1);
            return;
        }
        Kit.due("village of " + text, answer, plain.statements);
        Kit.due("no fault of " + text, x.fault(), -1);
        Kit.due("things of " + text, x.count(0), plain.thingNames.size());
        Kit.due("people of " + text, x.count(1), plain.whoNames.size());
        Kit.due("pairs of " + text, x.count(2), plain.pairs);
        Kit.due("statements of " + text, x.count(9), plain.statements);
        for (int t = 0; t < plain.thingNames.size(); t++) {
            int[] thing = plain.things.get(plain.thingNames.get(t));
            Kit.due("weight in " + text, x.thing(t, 0), thing[1]);
            Kit.due("sound in " + text, x.thing(t, 1), thing[2]);
            for (int month = 0; month < 6; month++) {
                int worth = Math.max(0, thing[0] - thing[3] * month);
                Kit.due("worth in " + text, x.thing(t, 10 + month), worth);
                Kit.due("kept in " + text, x.thing(t, 20 + month), worth * plain.keeps / 10);
            }
        }
        for (int w = 0; w < plain.whoNames.size(); w++) {
            Kit.due("manner in " + text, x.who(w, 0), plain.people.get(w)[0]);
            Kit.due("purse in " + text, x.who(w, 1), plain.people.get(w)[1]);
            for (int t = 0; t < plain.thingNames.size(); t++) {
                Kit.due("share in " + text, x.who(w, 10 + t), plain.share(w, t));
            }
        }
    }

    private static List<String> drawTokens(Random draw) {
        List<String> tokens = new ArrayList<>();
        List<String> things = new ArrayList<>();
        List<String> people = new ArrayList<>();
        int most = draw.nextInt(10) == 0 ? 52 : draw.nextInt(24);
        for (int k = 0; k < most; k++) {
            int kind = draw.nextInt(most > 30 ? 40 : 9);
            if (kind < 2 || kind < 4 && things.isEmpty()) {
                things.add("t" + (char) ('a' + things.size()));
                add(tokens, "thing", things.get(things.size() - 1), draw.nextInt(1000), draw.nextInt(100), draw.nextInt(10));
                if (draw.nextBoolean()) {
                    add(tokens, "spoils", draw.nextInt(100));
                }
            } else if (kind < 4) {
                people.add("p" + (char) ('a' + people.size()));
                add(tokens, "who", people.get(people.size() - 1), ANY[8 + draw.nextInt(6)], draw.nextInt(10000));
            } else if (kind == 4 && things.size() > 1) {
                add(tokens, "pair", things.get(0), things.get(1 + draw.nextInt(things.size() - 1)), 1 + draw.nextInt(999));
            } else if (kind < 7 && !people.isEmpty()) {
                add(tokens, "fills", people.get(draw.nextInt(people.size())));
                for (int from = draw.nextInt(things.size()), t = from; t == from || t < things.size() && draw.nextBoolean(); t++) {
                    add(tokens, t > from ? "," : "", 1 + draw.nextInt(99), things.get(t));
                }
            } else {
                add(tokens, ANY[4 + draw.nextInt(3)], draw.nextInt(11));
            }
            tokens.add(";");
        }
        return tokens;
    }

    private static void add(List<String> tokens, Object... more) {
        for (Object token : more) {
            if (!token.equals("")) {
                tokens.add(token.toString());
            }
        }
    }

    private static List<String> spoilt(Random draw, List<String> tokens) {
        for (int k = draw.nextInt(3); k > 0 && !tokens.isEmpty(); k--) {
            int at = draw.nextInt(tokens.size());
            String other = draw.nextBoolean() ? ANY[draw.nextInt(ANY.length)] : tokens.get(draw.nextInt(tokens.size()));
            switch (draw.nextInt(4)) {
                case 0:
                    tokens.remove(at);
                    break;
                case 1:
                    tokens.add(at, other);
                    break;
                case 2:
                    tokens.subList(at, tokens.size()).clear();
                    break;
                default:
                    tokens.set(at, other);
                    break;
            }
        }
        return tokens;
    }

    /** Blanks where two words, or two numbers, would be one. */
    private static String joined(Random draw, List<String> tokens) {
        StringBuilder text = new StringBuilder();
        int former = ' ';
        for (String token : tokens) {
            int next = token.charAt(0);
            boolean oneWord = isLetter(former) && isLetter(next) || isDigit(former) && isDigit(next);
            if (oneWord || draw.nextInt(3) == 0) {
                text.append(draw.nextInt(5) == 0 ? "\n" : draw.nextInt(9) == 0 ? "  " : " ");
            }
            text.append(token);
            former = token.charAt(token.length() - 1);
        }
        return text.append(draw.nextInt(5) == 0 ? " \n" : "").toString();
    }

    private static boolean isLetter(int sign) {
        return sign >= 'a' && sign <= 'z';
    }

    private static boolean isDigit(int sign) {
        return sign >= '0' && sign <= '9';
    }
}
