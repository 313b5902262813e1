/** What the tests share: telling a village its text, and counting answers that are not due. */
final class Kit {
    static final String FAIRS = "thing ham 100 30 2;thing stone 10 30 1;thing cake 60 8 2 spoils 5;"
            + "thing left 20 3 4;thing right 20 3 4;"
            + "who ann fair 200;who bob lemon 50;who cid best 0;who dot name 300;who eve chain 100;who fay sworn 500;"
            + "fills ann 1 ham,3 stone;fills bob 1 ham,1 stone,2 cake;fills eve 1 left,1 right;"
            + "pair left right 50;keeps 8;weigh 9;shake 6;";

    /** What no number of a box, a thing, a row, a question is, however many there are. */
    static final int[] NEVER = {-1, -2, Integer.MIN_VALUE, Integer.MAX_VALUE};

    private static int wrong = 0;
    private static String sentence = "";

    private Kit() {
    }

    /** The document's words that are tested from now on; promise 0 is its Terms. SentencesTest looks them up in it. */
    static void sentence(int promise, String words) {
        sentence = (promise == 0 ? "Terms" : "promise " + promise) + " '" + words + "': ";
    }

    static void due(String call, long got, long want) {
        if (got != want) {
            wrong++;
            System.out.println(sentence + call + " answered " + got + ", due is " + want);
        }
    }

    static void due(String call, boolean got, boolean want) {
        due(call, got ? 1 : 0, want ? 1 : 0);
    }

    static void none(String call, long got) {
        due(call, got, NailedBoxes.NONE);
    }

    /** The text is laid on the tape with blanks behind it, and its own length is told. */
    static int tell(NailedBoxes x, String text) {
        lay(x, text);
        return x.village(text.length());
    }

    static void lay(NailedBoxes x, String text) {
        for (int at = 0; at < text.length(); at += 20) {
            int[] numbers = new int[5];
            for (int k = 0; k < 20; k++) {
                int sign = at + k < text.length() ? text.charAt(at + k) : ' ';
                numbers[k / 4] = numbers[k / 4] << 8 | sign;
            }
            x.feed(numbers[0], numbers[1], numbers[2], numbers[3], numbers[4]);
        }
    }

    static NailedBoxes village(String text) {
        NailedBoxes x = new NailedBoxes();
        int statements = tell(x, text);
        due("village() of " + text, statements, text.chars().filter(c -> c == ';').count());
        return x;
    }

    static void refused(String where, NailedBoxes x, int notAsTold, int noRoom, int faults) {
        due(where + ": REFUSED 0", x.count(10), notAsTold);
        due(where + ": REFUSED 1", x.count(11), noRoom);
        due(where + ": REFUSED 2", x.count(12), faults);
    }

    static void toJune(NailedBoxes x) {
        for (int k = x.count(5); k < 5; k++) {
            x.month();
        }
        due("MONTH", x.count(5), 5);
    }

    static void end() {
        System.out.println(wrong == 0 ? "all answers are as due" : wrong + " answers are not as due");
        if (wrong != 0) {
            System.exit(1);
        }
    }
}
