/** The text's Terms and promises 1 to 6: each sentence that names a boundary has a test of its own. */
public final class EdgesOfTextTest {
    // two things and one of the people, so that "fills" and "pair" can be told
    private static final String TOLD = "thing t 1 1 1;thing u 1 1 1;who w fair 1;";
    private static final String[] WORDS = {"thing", "who", "fills", "pair", "keeps", "weigh", "shake", "spoils",
        "fair", "name", "lemon", "best", "chain", "sworn"};
    private static final int BLANKS = 0x20202020;

    public static void main(String[] args) {
        atMostFiftyStatements();
        eachStatement();
        manners();
        lettersOfNames();
        newNames();
        namesBehindFills();
        noneTwiceBehindFills();
        twoUnlikeOnes();
        leastAndMostOfNumbers();
        mostThingsPeoplePairs();
        oneToFourDigits();
        tokens();
        blanks();
        faultAtTheFirstUnfit();
        faultAtWhatIsNotSo();
        faultAtTheEnd();
        faultAtTheFiftyFirst();
        numbersAsTold();
        fillsToldAgain();
        withoutFills();
        lastTenthsHold();
        withoutTenths();
        months();
        worthInAMonth();
        kept();
        newObject();
        twentyBytes();
        fullTape();
        firstBytesAlone();
        howManyStatements();
        allIsGone();
        whatWasStays();
        noSuchLength();
        faultOfTheLatest();
        faultOfNone();
        ofAThing();
        noSuchThing();
        ofSomebody();
        noSuchPerson();
        Kit.end();
    }

    private static void fine(String text) {
        NailedBoxes x = new NailedBoxes();
        Kit.due("village() of '" + text + "'", Kit.tell(x, text), text.chars().filter(c -> c == ';').count());
        Kit.none("fault() of '" + text + "'", x.fault());
        Kit.refused("'" + text + "'", x, 0, 0, 0);
    }

    /** The FAULT is due where the '^' is, which is no part of the text. */
    private static void fault(String marked) {
        int place = marked.indexOf('^');
        String text = marked.substring(0, place) + marked.substring(place + 1);
        NailedBoxes x = new NailedBoxes();
        Kit.none("village() of '" + text + "'", Kit.tell(x, text));
        Kit.due("fault() of '" + text + "'", x.fault(), place);
        Kit.refused("'" + text + "'", x, 0, 0, 1);
    }

    // ---- Terms ----

    private static void atMostFiftyStatements() {
        Kit.sentence(0, "A VILLAGE is a text: {STATEMENT \";\"}, at most 50.");
        fine("");
        fine("keeps 1;");
        fine("keeps 1;".repeat(49));
        fine("keeps 1;".repeat(50));
        fine("keeps 1;".repeat(50) + " \n ");
        fault("keeps 1;".repeat(50) + "^keeps 1;");
        fault("keeps 1 ^keeps 1;");
    }

    /** Each form, cut behind each token, and with a sign that is none of the text's in place of each. */
    private static void eachStatement() {
        Kit.sentence(0, "STATEMENT: \"thing\" NAME WORTH WEIGHT SOUND [\"spoils\" N] | \"who\" NAME MANNER PURSE |");
        forms("thing a 1 2 3 ;", "thing a 1 2 3 spoils 4 ;", "who p fair 5 ;");
        Kit.sentence(0, "\"fills\" NAME SHARE NAME {\",\" SHARE NAME} | \"pair\" NAME NAME N |");
        forms("fills w 1 t ;", "fills w 1 t , 2 u ;", "pair t u 5 ;");
        fault(TOLD + "fills w ^;");
        fault(TOLD + "fills w 1 t ^1 u;");
        fault(TOLD + "pair t^, u 5;");
        Kit.sentence(0, "\"keeps\" TENTHS | \"weigh\" TENTHS | \"shake\" TENTHS.");
        forms("keeps 5 ;", "weigh 5 ;", "shake 5 ;");
        fault("keeps 5 ^5;");
        fault("weigh 5^, 5;");
    }

    private static void forms(String... forms) {
        for (String form : forms) {
            fine(TOLD + form);
            String[] tokens = form.split(" ");
            String read = TOLD;
            for (int k = 0; k < tokens.length; k++) {
                String behind = form.split(" ", k + 2).length > k + 1 ? form.split(" ", k + 2)[k + 1] : "";
                fault(read + "^? " + behind);
                fault(read + "^" + (Character.isLetter(tokens[k].charAt(0)) ? "7 " : "sworn ") + behind);
                read += tokens[k] + " ";
                if (k < tokens.length - 1) {
                    fault(read + "^");
                }
            }
        }
    }

    private static void manners() {
        Kit.sentence(0, "MANNER: fair, name, lemon, best, chain, sworn (0 to 5).");
        NailedBoxes x = Kit.village("who a fair 1;who b name 1;who c lemon 1;who d best 1;who e chain 1;who f sworn 1;");
        for (int who = 0; who < 6; who++) {
            Kit.due("who(" + who + ", 0)", x.who(who, 0), who);
        }
        fault("who a ^spoils 1;");
        fault("who a ^thing 1;");
        fault("who a ^good 1;");
        fault("who a ^fairs 1;");
        fault("who a ^0 1;");
    }

    private static void lettersOfNames() {
        Kit.sentence(0, "NAME: 1 to 8 letters, none of the words in this text;");
        fine("thing a 1 1 1;who z fair 1;");
        fine("thing abcdefgh 1 1 1;who stuvwxyz fair 1;fills stuvwxyz 1 abcdefgh;");
        fault("thing ^abcdefghi 1 1 1;");
        fault("who ^abcdefghi fair 1;");
        fault("thing ^1 1 1 1;");
        fault("who ^; fair 1;");
        for (String word : WORDS) {
            fault("thing ^" + word + " 1 1 1;");
            fault("who ^" + word + " fair 1;");
            fault(TOLD + "fills ^" + word + " 1 t;");
            fault(TOLD + "fills w 1 ^" + word + ";");
            fault(TOLD + "pair ^" + word + " t 1;");
            fault(TOLD + "pair t ^" + word + " 1;");
            fine("thing " + word + "s 1 1 1;who a" + word + " fair 1;");
            fine("thing " + word.substring(1) + " 1 1 1;");
        }
    }

    private static void newNames() {
        Kit.sentence(0, "behind \"thing\", \"who\" a new one,");
        fault("thing a 1 1 1;thing ^a 1 1 1;");
        fault("thing a 1 1 1;thing b 1 1 1;thing ^a 1 1 1;");
        fault("who a fair 1;who ^a fair 1;");
        fault("thing a 1 1 1;who ^a fair 1;");
        fault("who a fair 1;thing ^a 1 1 1;");
        fine("thing a 1 1 1;thing aa 1 1 1;who aaa fair 1;");
    }

    private static void namesBehindFills() {
        Kit.sentence(0, "the first behind \"fills\" one of a \"who\", the others things");
        fine(TOLD + "fills w 1 t,1 u;pair u t 1;");
        fault(TOLD + "fills ^t 1 t;");
        fault(TOLD + "fills ^x 1 t;who x fair 1;");
        fault(TOLD + "fills w 1 ^w;");
        fault(TOLD + "fills w 1 ^x;thing x 1 1 1;");
        fault(TOLD + "fills w 1 t,1 ^w;");
        fault(TOLD + "pair ^w t 1;");
        fault(TOLD + "pair t ^w 1;");
        fault(TOLD + "pair ^x t 1;");
        fault(TOLD + "pair t ^x 1;");
    }

    private static void noneTwiceBehindFills() {
        Kit.sentence(0, "(of one \"fills\" none twice;");
        fault(TOLD + "fills w 1 t,1 ^t;");
        fault(TOLD + "fills w 1 t,1 u,1 ^t;");
        fault(TOLD + "fills w 1 t,1 u,1 ^u;");
        fault(things(8) + "who w fair 1;fills w 1 ta,1 tb,1 tc,1 td,1 te,1 tf,1 tg,1 th,1 ^ta;");
        fine(things(8) + "who w fair 1;fills w 1 th,1 tg,1 tf,1 te,1 td,1 tc,1 tb,1 ta;");
        fine(TOLD + "fills w 1 t;fills w 1 t;");
        fine(TOLD + "who v fair 1;fills w 1 t;fills v 1 t;");
    }

    private static void twoUnlikeOnes() {
        Kit.sentence(0, "of \"pair\" two unlike ones).");
        fault(TOLD + "pair t ^t 1;");
        fault(TOLD + "pair u ^u 1;");
        fine(TOLD + "pair t u 1;pair u t 1;pair t u 1;");
    }

    private static void leastAndMostOfNumbers() {
        Kit.sentence(0, "WORTH 0 to 999,");
        number("thing a ", 0, 999, " 1 1;");
        Kit.sentence(0, "WEIGHT 0 to 99,");
        number("thing a 1 ", 0, 99, " 1;");
        Kit.sentence(0, "SOUND 0 to 9,");
        number("thing a 1 1 ", 0, 9, ";");
        Kit.sentence(0, "N of \"spoils\" 0 to 99,");
        number("thing a 1 1 1 spoils ", 0, 99, ";");
        Kit.sentence(0, "PURSE 0 to 9999,");
        number("who a fair ", 0, 9999, ";");
        Kit.sentence(0, "SHARE 1 to 99,");
        number(TOLD + "fills w ", 1, 99, " t;");
        number(TOLD + "fills w 1 t,", 1, 99, " u;");
        Kit.sentence(0, "N of \"pair\" 1 to 999,");
        number(TOLD + "pair t u ", 1, 999, ";");
        Kit.sentence(0, "TENTHS 0 to 10.");
        number("keeps ", 0, 10, ";");
        number("weigh ", 0, 10, ";");
        number("shake ", 0, 10, ";");
    }

    private static void number(String ahead, int least, int most, String behind) {
        fine(ahead + least + behind);
        fine(ahead + most + behind);
        fault(ahead + "^" + (most + 1) + behind);
        // one below the least: a 0, or a sign that begins no number
        fault(ahead + "^" + (least - 1) + behind);
    }

    private static String things(int many) {
        StringBuilder text = new StringBuilder();
        for (int k = 0; k < many; k++) {
            text.append("thing t").append((char) ('a' + k)).append(" 1 1 1;");
        }
        return text.toString();
    }

    private static String people(int many) {
        StringBuilder text = new StringBuilder();
        for (int k = 0; k < many; k++) {
            text.append("who p").append((char) ('a' + k)).append(" fair 1;");
        }
        return text.toString();
    }

    private static String pairs(int many) {
        return things(2) + "pair ta tb 1;".repeat(many);
    }

    private static void mostThingsPeoplePairs() {
        Kit.sentence(0, "At most 8 things, 12 people, 6 pairs.");
        fine(things(8) + people(12) + "pair ta tb 1;".repeat(6));
        Kit.due("things", Kit.village(things(8)).count(0), 8);
        Kit.due("people", Kit.village(people(12)).count(1), 12);
        Kit.due("pairs", Kit.village(pairs(6)).count(2), 6);
        Kit.none("nine things", Kit.tell(new NailedBoxes(), things(9)));
        Kit.none("thirteen people", Kit.tell(new NailedBoxes(), people(13)));
        Kit.none("seven pairs", Kit.tell(new NailedBoxes(), pairs(7)));
    }

    private static void oneToFourDigits() {
        Kit.sentence(0, "Each number of one to four digits.");
        fine("keeps 5;keeps 05;keeps 005;keeps 0005;");
        fault("keeps ^00005;");
        fault("keeps ^00000;");
        fault("keeps ^99999;");
        fault("thing a ^00999 1 1;");
        fault("thing a 1 1 1 spoils ^00001;");
        // what would wrap around to a number that fits
        fault("keeps ^4294967301;");
        fault("keeps ^18446744073709551621;");
        Kit.due("0010", Kit.village("who a fair 0010;").who(0, 1), 10);
    }

    private static void tokens() {
        Kit.sentence(0, "Tokens as long as they go: words of letters a to z, digits, signs;");
        fine("keeps5;weigh10;shake0;");
        fine("thing a1 2 3spoils4;");
        fine("thing a 10 2 3;");
        fault("^keepsa 5;");
        fault("^thinga 1 2 3;");
        fault("thing a 123^;");
        fault("thing a 1 2 3^ab 4;");
        fault("keeps 5;^;");
        fault("^;;");
        // what lies beside the letters and the digits
        fault("thing a^` 1 2 3;");
        fault("thing a^{ 1 2 3;");
        fault("thing ^Z 1 2 3;");
        fault("thing a^A 1 2 3;");
        fault("keeps 5^/;");
        fault("keeps 5^:;");
        fine("thing az 1 2 3;who za fair 9;keeps 09;");
    }

    private static void blanks() {
        Kit.sentence(0, "between them blanks (bytes 32 and 10).");
        fine(" \n keeps \n\n 5 \n ; \n ");
        fine("\nkeeps\n5\n;\n");
        for (int sign = 0; sign < 256; sign++) {
            boolean isOfTokens = sign >= 'a' && sign <= 'z' || sign >= '0' && sign <= '9' || sign == ';';
            if (sign != 32 && sign != 10 && !isOfTokens) {
                fault("keeps 5^" + (char) sign + ";");
                fault("^" + (char) sign + "keeps 5;");
            }
        }
    }

    private static void faultAtTheFirstUnfit() {
        Kit.sentence(0, "FAULT: the place of the first byte of the first token (or byte that begins none) with which no such text goes on");
        fault("^things a 1 2 3;");
        fault("thing a 1 2 3;  ^bad ! bad");
        fault("thing a 1 2 3 ^4;");
        fault("thing a 1 2 3^!bad;");
        fault("keeps 5;^!");
        fault("keeps 5;^\u00ff\u00ff");
        fault("^spoils 5;");
        fault("^fair;");
        fault("keeps 5 \n ^weigh 5;");
    }

    private static void faultAtWhatIsNotSo() {
        Kit.sentence(0, "(a number that isn't so, a NAME that isn't so, the ninth thing's, the thirteenth's NAME, the seventh \"pair\", too);");
        fault("keeps ^11;");
        fault("keeps ^11");
        fault("pair ^a b 1;");
        fault("fills ^a 1 b;");
        fault("thing a 1 2 3;pair a ^b 1;");
        fault(things(8) + "thing ^ti 1 1 1;");
        fault(things(8) + "thing ^ta 1 1 1;");
        fault(people(12) + "who ^pm fair 1;");
        fault(pairs(6) + "^pair ta tb 1;");
        fault(pairs(6) + "^pair");
        fine(pairs(6) + "keeps 1;");
    }

    private static void faultAtTheEnd() {
        Kit.sentence(0, "the text's length, if more must come;");
        fault("keeps^");
        fault("keeps 5^");
        fault("keeps 5 \n ^");
        fault("thing^");
        fault("pair ^");
        fault("fills^");
        fault(things(8) + "thing^");
        fault(people(12) + "who ^");
        fault(TOLD + "fills w 1 t,^");
        fault(TOLD + "fills w 1 t^");
        fault("keeps 5" + " ".repeat(893) + "^");
        fault("^keep");
    }

    private static void faultAtTheFiftyFirst() {
        Kit.sentence(0, "the 51st STATEMENT: where it begins.");
        String fifty = "keeps 1;".repeat(50);
        fault(fifty + "^weigh 1;");
        fault(fifty + " \n ^weigh 1;");
        fault(fifty + "^weigh");
        fault(fifty + "^weigh 99;");
        fault(fifty + "^;");
        fault("keeps 1;".repeat(49) + "^;");
    }

    private static void numbersAsTold() {
        Kit.sentence(0, "THINGS, PEOPLE by numbers from 0, as they are told.");
        NailedBoxes x = Kit.village("who z fair 5;thing y 1 1 1;thing a 2 1 1;who b fair 6;thing c 3 1 1;");
        for (int k = 0; k < 3; k++) {
            Kit.due("thing(" + k + ", 10)", x.thing(k, 10), k + 1);
        }
        Kit.due("who(0, 1)", x.who(0, 1), 5);
        Kit.due("who(1, 1)", x.who(1, 1), 6);
    }

    private static void fillsToldAgain() {
        Kit.sentence(0, "\"fills\" told again: the last holds;");
        NailedBoxes x = Kit.village(TOLD + "who v fair 1;fills w 9 t,8 u;fills v 7 t;fills w 3 u;");
        Kit.due("t of w", x.who(0, 10), 0);
        Kit.due("u of w", x.who(0, 11), 3);
        Kit.due("t of v", x.who(1, 10), 7);
    }

    private static void withoutFills() {
        Kit.sentence(0, "without: all things by 1.");
        NailedBoxes x = Kit.village("thing t 1 1 1;who w fair 1;who v fair 1;fills v 5 t;thing u 1 1 1;");
        Kit.due("t of w", x.who(0, 10), 1);
        Kit.due("u, told behind w", x.who(0, 11), 1);
        Kit.due("t of v", x.who(1, 10), 5);
        Kit.due("u of v", x.who(1, 11), 0);
        Kit.none("no things", Kit.village("who w fair 1;").who(0, 10));
    }

    private static void lastTenthsHold() {
        Kit.sentence(0, "\"keeps\", \"weigh\", \"shake\": the last holds;");
        NailedBoxes x = Kit.village("keeps 1;weigh 1;shake 1;thing t 100 1 1;thing u 100 2 2;who w fair 1;keeps 5;weigh 10;shake 7;keeps 3;");
        Kit.due("KEPT by 3", x.thing(0, 20), 30);
        x.box(0, 0);
        x.sign(0, 0, 1);
        Kit.due("weigh 10", x.think(0, 0), 1000000);
        x.box(0, 0);
        x.sign(1, 1, 1);
        Kit.due("shake 7", x.think(1, 0), 700000);
        Kit.due("keeps 0", Kit.village("thing t 100 1 1;keeps 4;keeps 0;").thing(0, 20), 0);
    }

    private static void withoutTenths() {
        Kit.sentence(0, "without: 8, 8, 6.");
        NailedBoxes x = Kit.village("thing t 100 1 1;thing u 100 2 2;who w fair 1;");
        Kit.due("keeps 8", x.thing(0, 20), 80);
        x.box(0, 0);
        x.sign(0, 0, 1);
        Kit.due("weigh 8", x.think(0, 0), 800000);
        x.box(0, 0);
        x.sign(1, 1, 1);
        Kit.due("shake 6", x.think(1, 0), 600000);
        // more than once, for what a text tells may be kept until the text behind the next one
        for (int k = 0; k < 3; k++) {
            Kit.tell(x, "thing t 100 1 1;keeps 2;weigh 2;shake 2;");
        }
        Kit.tell(x, "thing t 100 1 1;thing u 100 2 2;who w fair 1;");
        Kit.due("KEPT by nothing of former texts", x.thing(0, 20), 80);
        x.box(0, 0);
        x.sign(0, 0, 1);
        Kit.due("weighed by nothing of former texts", x.think(0, 0), 800000);
        x.box(0, 0);
        x.sign(1, 1, 1);
        Kit.due("shaken by nothing of former texts", x.think(1, 0), 600000);
    }

    private static void months() {
        Kit.sentence(0, "MONTHS 0 to 5, at first 0; 5 is June.");
        NailedBoxes x = Kit.village(TOLD);
        Kit.due("at first", x.count(5), 0);
        for (int month = 0; month < 5; month++) {
            Kit.none("ahead of June, in MONTH " + month, x.june(0));
            x.month();
        }
        Kit.due("MONTH", x.count(5), 5);
        Kit.due("in June", x.june(0), 1);
        Kit.none("no more MONTHS", x.month());
        Kit.due("MONTH", x.count(5), 5);
    }

    private static void worthInAMonth() {
        Kit.sentence(0, "WORTH of a thing in a MONTH: less \"spoils\" times MONTH, at least 0.");
        NailedBoxes x = Kit.village("thing a 10 1 1 spoils 3;thing b 10 1 1 spoils 5;thing c 0 1 1 spoils 99;thing d 10 1 1 spoils 0;thing e 10 1 1;");
        int[][] due = {{10, 7, 4, 1, 0, 0}, {10, 5, 0, 0, 0, 0}, {0, 0, 0, 0, 0, 0}, {10, 10, 10, 10, 10, 10}, {10, 10, 10, 10, 10, 10}};
        for (int thing = 0; thing < due.length; thing++) {
            for (int month = 0; month < 6; month++) {
                Kit.due("thing(" + thing + ", 1" + month + ")", x.thing(thing, 10 + month), due[thing][month]);
            }
        }
    }

    private static void kept() {
        Kit.sentence(0, "KEPT: WORTH times \"keeps\" by 10 (cut).");
        int[][] due = {{19, 5, 9}, {1, 9, 0}, {11, 9, 9}, {999, 10, 999}, {999, 0, 0}, {999, 9, 899}, {0, 10, 0}};
        for (int[] d : due) {
            NailedBoxes x = Kit.village("thing a " + d[0] + " 1 1;keeps " + d[1] + ";");
            Kit.due("KEPT of " + d[0] + " by " + d[1], x.thing(0, 20), d[2]);
        }
        NailedBoxes y = Kit.village("thing a 19 1 1 spoils 4;keeps 5;");
        Kit.due("of the WORTH in that MONTH", y.thing(0, 21), 7);
        Kit.due("when nothing is left", y.thing(0, 25), 0);
    }

    // ---- promises 1 to 6 ----

    private static void newObject() {
        Kit.sentence(1, "No VILLAGE.");
        NailedBoxes x = new NailedBoxes();
        for (int what = 0; what <= 13; what++) {
            Kit.due("count(" + what + ")", x.count(what), 0);
        }
        Kit.none("fault()", x.fault());
        Kit.none("thing(0, 0)", x.thing(0, 0));
        Kit.none("who(0, 0)", x.who(0, 0));
        Kit.none("told(0, 0)", x.told(0, 0));
        Kit.none("record(0, 0, 0)", x.record(0, 0, 0));
        Kit.none("think(0, 0)", x.think(0, 0));
        Kit.none("mean(0)", x.mean(0));
        Kit.none("loan(0, 0)", x.loan(0, 0));
        Kit.none("wrong(0)", x.wrong(0));
        Kit.none("rest(0, 0, 0, 0, 0)", x.rest(0, 0, 0, 0, 0));
        Kit.refused("asking", x, 0, 0, 0);
        Kit.none("box(0, 0)", x.box(0, 0));
        Kit.none("month()", x.month());
        Kit.refused("telling", x, 2, 0, 0);
    }

    private static void twentyBytes() {
        Kit.sentence(2, "Twenty bytes come behind those on the tape, of each number the highest first:");
        NailedBoxes x = new NailedBoxes();
        // "keep" "s 10" ";wei" "gh 0" ";sha", then "ke 3" ";" and blanks
        Kit.due("the first twenty", x.feed(0x6b656570, 0x73203130, 0x3b776569, 0x67682030, 0x3b736861), 20);
        Kit.due("twenty behind them", x.feed(0x6b652033, 0x3b202020, BLANKS, BLANKS, BLANKS), 40);
        Kit.due("the text", x.village(40), 3);
        for (int place = 0; place < 20; place++) {
            int[] five = {BLANKS, BLANKS, BLANKS, BLANKS, BLANKS};
            // byte 255 alone at that place: a number below 0, if it is the highest
            five[place / 4] |= 255 << 24 - place % 4 * 8;
            x.feed(five[0], five[1], five[2], five[3], five[4]);
            x.village(20);
            Kit.due("place of the byte 255", x.fault(), place);
        }
        Kit.sentence(2, "how many there are.");
        for (int k = 1; k <= 45; k++) {
            Kit.due("feed " + k, x.feed(BLANKS, BLANKS, BLANKS, BLANKS, BLANKS), 20 * k);
            Kit.due("count(7)", x.count(7), 20 * k);
        }
    }

    private static void fullTape() {
        Kit.sentence(2, "NONE, doing nothing (not REFUSED): there would be more than 900.");
        NailedBoxes x = new NailedBoxes();
        for (int k = 0; k < 44; k++) {
            x.feed(BLANKS, BLANKS, BLANKS, BLANKS, BLANKS);
        }
        Kit.due("900 bytes", x.feed(0x6b656570, 0x73203b20, BLANKS, BLANKS, BLANKS), 900);
        Kit.none("920 bytes", x.feed(0x3b3b3b3b, 0x3b3b3b3b, 0x3b3b3b3b, 0x3b3b3b3b, 0x3b3b3b3b));
        Kit.none("still", x.feed(0, 0, 0, 0, 0));
        Kit.due("count(7)", x.count(7), 900);
        Kit.refused("feed()", x, 0, 0, 0);
        Kit.none("the tape as it was", x.village(900));
        Kit.due("its FAULT", x.fault(), 886);
        Kit.due("room again", x.feed(0, 0, 0, 0, 0), 20);
    }

    private static void firstBytesAlone() {
        Kit.sentence(3, "The first n bytes of the tape (which is empty then, with a FAULT, too) are the VILLAGE:");
        NailedBoxes x = new NailedBoxes();
        Kit.lay(x, "keeps 5;weigh 5;bad");
        Kit.due("8 of them", x.village(8), 1);
        Kit.due("empty then", x.count(7), 0);
        Kit.lay(x, "keeps 5;weigh 5;bad");
        Kit.due("16 of them", x.village(16), 2);
        Kit.lay(x, "keeps 5;weigh 5;bad");
        Kit.none("17 of them", x.village(17));
        Kit.due("the FAULT", x.fault(), 16);
        Kit.due("empty then, too", x.count(7), 0);
        Kit.lay(x, "keeps 5;weigh 5;bad");
        Kit.none("7 of them", x.village(7));
        Kit.due("the FAULT", x.fault(), 7);
        Kit.lay(x, "bad");
        Kit.due("none of them", x.village(0), 0);
        Kit.due("empty then", x.count(7), 0);
        Kit.lay(x, " ".repeat(892) + "keeps 5;");
        Kit.due("all 900", x.village(900), 1);
        for (int k = 0; k < 3; k++) {
            Kit.tell(x, TOLD + "fills w 5 u;pair t u 1;");
        }
        Kit.due("another text", Kit.tell(x, "thing v 1 1 1;who x fair 1;thing t 1 1 1;"), 3);
        Kit.due("THINGS of former texts", x.count(0), 2);
        Kit.due("PEOPLE of former texts", x.count(1), 1);
        Kit.due("pairs of former texts", x.count(2), 0);
        Kit.due("SHARES of former texts", x.who(0, 11), 1);
        Kit.due("no SHARES of former texts", x.who(0, 10), 1);
        Kit.lay(x, "bad!bad!bad!bad!bad!");
        x.village(20);
        Kit.lay(x, "keeps 5;            ");
        Kit.due("nothing of the former tape", x.village(20), 1);
    }

    private static void howManyStatements() {
        Kit.sentence(3, "how many STATEMENTS.");
        NailedBoxes x = new NailedBoxes();
        Kit.due("village(0)", x.village(0), 0);
        Kit.due("count(9)", x.count(9), 0);
        Kit.due("50", Kit.tell(x, "keeps 1;".repeat(50)), 50);
        Kit.due("count(9)", x.count(9), 50);
        Kit.due("blanks alone", Kit.tell(x, "  \n"), 0);
    }

    /** With a BOX, an IMAGE, a row of the BOOK, a LENT one, a MONTH, and a PURSE that isn't as told. */
    private static NailedBoxes busy() {
        NailedBoxes x = Kit.village(TOLD + "who v fair 50;");
        x.box(0, 0);
        x.box(0, 1);
        x.sell(0, 1, 20);
        x.say(0, 1);
        x.lend(0, 0, 5, 5);
        x.holds(0, 0, 50);
        x.holds(1, 1, 50);
        x.row(0, 0, 1, 1);
        x.image();
        x.month();
        x.seed(77);
        return x;
    }

    private static void allIsGone() {
        Kit.sentence(3, "All BOXES, IMAGES, the BOOK are gone, the MONTH is 0 (z stays).");
        NailedBoxes x = busy();
        x.back(0);
        x.bring(0);
        x.month();
        x.seed(77);
        int years = x.years(1, 30, 10);
        NailedBoxes fresh = Kit.village(TOLD + "who v fair 50;");
        Kit.due("z isn't as at first", years != fresh.years(1, 30, 10), true);
        Kit.due("village()", Kit.tell(x, TOLD + "who v fair 50;"), 4);
        for (int what : new int[] {3, 4, 5, 6, 8, 13}) {
            Kit.due("count(" + what + ")", x.count(what), 0);
        }
        Kit.none("BOX 0", x.told(0, 0));
        Kit.none("its record", x.record(0, 0, 0));
        Kit.none("LENT one 0", x.loan(0, 0));
        Kit.due("IMAGE 0", x.back(0), false);
        Kit.due("PURSE of w", x.who(0, 1), 1);
        Kit.due("PURSE of v", x.who(1, 1), 50);
        Kit.due("z stays", x.years(1, 30, 10), years);
        Kit.due("a new BOX", x.box(1, 0), 0);
        Kit.due("who KNOWS it", x.told(0, 5), 2);
        Kit.due("another one", x.box(0, 0), 1);
        Kit.due("has no HOLDERS", x.holds(0, 1, 100), true);
        Kit.due("nor has the other one", x.holds(1, 0, 100), true);
        Kit.due("a new LENT one", x.lend(0, 0, 1, 0), 0);
        Kit.due("isn't BROUGHT BACK", x.loan(0, 5), 0);
    }

    private static void whatWasStays() {
        Kit.sentence(3, "NONE: a FAULT (what was stays);");
        NailedBoxes x = busy();
        Kit.lay(x, "keeps 1;who z best 9;keeps");
        // the tape is empty with a FAULT, and its place is told: all else stays
        int[] was = new int[10];
        for (int what = 0; what < 10; what++) {
            was[what] = x.count(what);
        }
        int mean = x.mean(0);
        Kit.none("village()", x.village(26));
        for (int what = 0; what < 10; what++) {
            Kit.due("count(" + what + ")", x.count(what), what == 7 ? 0 : was[what]);
        }
        Kit.due("MEAN", x.mean(0), mean);
        Kit.due("KEPT by 8", x.thing(0, 20), 0);
        Kit.due("PURSE", x.who(0, 1), 16);
        Kit.due("MANNER", x.who(0, 0), 0);
        Kit.due("the IMAGE", x.back(0), true);
        Kit.due("MONTH of the IMAGE", x.count(5), 0);
        Kit.refused("a FAULT", x, 0, 0, 1);
    }

    private static void noSuchLength() {
        Kit.sentence(3, "-2, doing nothing but REFUSED: n is below 0 or more than there are.");
        NailedBoxes x = busy();
        Kit.lay(x, "keeps 5;");
        Refusals refused = new Refusals(x, 0);
        for (int n : new int[] {-1, 21, 900, 901, Integer.MIN_VALUE, Integer.MAX_VALUE}) {
            refused.noText("village(" + n + ")", x.village(n));
        }
        refused.end();
        Kit.due("as many as there are", x.village(20), 1);
        Kit.due("more than none", x.village(1), -2);
        Kit.due("none of none", x.village(0), 0);
    }

    private static void faultOfTheLatest() {
        Kit.sentence(4, "The FAULT's place of the latest village() that was a number or NONE;");
        NailedBoxes x = new NailedBoxes();
        Kit.tell(x, "keeps 5;bad");
        Kit.due("the place", x.fault(), 8);
        Kit.due("-2", x.village(30), -2);
        Kit.due("the place still", x.fault(), 8);
        Kit.tell(x, "bad");
        Kit.due("the latest", x.fault(), 0);
        Kit.tell(x, "keeps 5;");
        Kit.none("the latest had none", x.fault());
        Kit.due("-2", x.village(30), -2);
        Kit.none("still none", x.fault());
    }

    private static void faultOfNone() {
        Kit.sentence(4, "NONE: it had none.");
        NailedBoxes x = new NailedBoxes();
        Kit.none("no village()", x.fault());
        x.village(-1);
        Kit.none("none but -2", x.fault());
        x.village(0);
        Kit.none("the empty text", x.fault());
        Kit.tell(x, TOLD);
        Kit.none("a whole text", x.fault());
    }

    private static void ofAThing() {
        Kit.sentence(5, "Of a THING: 0 WEIGHT, 1 SOUND, 10 + m WORTH, 20 + m KEPT in MONTH m.");
        NailedBoxes x = Kit.village("thing a 0 0 0;thing b 999 99 9 spoils 99;keeps 9;");
        int[] what = {0, 1, 10, 15, 20, 25};
        int[][] due = {{0, 0, 0, 0, 0, 0}, {99, 9, 999, 504, 899, 453}};
        for (int thing = 0; thing < 2; thing++) {
            for (int k = 0; k < what.length; k++) {
                Kit.due("thing(" + thing + ", " + what[k] + ")", x.thing(thing, what[k]), due[thing][k]);
            }
        }
        Kit.toJune(x);
        Kit.due("in June the WORTH of MONTH 0", x.thing(1, 10), 999);
    }

    private static void noSuchThing() {
        Kit.sentence(5, "NONE: none such.");
        NailedBoxes x = Kit.village(things(8));
        Kit.due("the last thing", x.thing(7, 0), 1);
        Kit.none("thing(8, 0)", x.thing(8, 0));
        for (int never : Kit.NEVER) {
            Kit.none("thing(" + never + ", 0)", x.thing(never, 0));
            Kit.none("thing(0, " + never + ")", x.thing(0, never));
        }
        for (int what : new int[] {2, 9, 16, 19, 26}) {
            Kit.none("thing(0, " + what + ")", x.thing(0, what));
        }
        Kit.none("one of the text that had a FAULT", Kit.tell(x, things(8) + "thing"));
        Kit.tell(x, things(1));
        Kit.none("one of the former text", x.thing(1, 0));
        Kit.refused("asking", x, 0, 0, 1);
    }

    private static void ofSomebody() {
        Kit.sentence(6, "Of somebody: 0 MANNER, 1 PURSE, 2 BOXES in hands (those in BOXES, too), 10 + t SHARE of THING t.");
        NailedBoxes x = Kit.village(things(8) + "who p sworn 9999;who q fair 0;fills p 99 th;");
        Kit.due("MANNER", x.who(0, 0), 5);
        Kit.due("PURSE", x.who(0, 1), 9999);
        Kit.due("no BOXES", x.who(0, 2), 0);
        Kit.due("no SHARE", x.who(0, 10), 0);
        Kit.due("SHARE of the last", x.who(0, 17), 99);
        Kit.due("PURSE of q", x.who(1, 1), 0);
        x.box(0, 7);
        x.box(0, 7);
        x.box(0, 7);
        x.into(0, 1);
        x.into(1, 2);
        Kit.due("a BOX in a BOX in a BOX", x.who(0, 2), 3);
        x.sell(2, 1, 0);
        Kit.due("none are left", x.who(0, 2), 0);
        Kit.due("all went along", x.who(1, 2), 3);
    }

    private static void noSuchPerson() {
        Kit.sentence(6, "NONE: none such.");
        NailedBoxes x = Kit.village(TOLD + people(11));
        Kit.due("the last one", x.who(11, 1), 1);
        Kit.none("who(12, 0)", x.who(12, 0));
        for (int never : Kit.NEVER) {
            Kit.none("who(" + never + ", 0)", x.who(never, 0));
            Kit.none("who(0, " + never + ")", x.who(0, never));
        }
        for (int what : new int[] {3, 9, 12, 17, 18}) {
            Kit.none("who(0, " + what + ")", x.who(0, what));
        }
        Kit.refused("asking", x, 0, 0, 0);
    }
}
