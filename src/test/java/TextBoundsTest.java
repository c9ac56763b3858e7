/** Terms and promises 1 to 5, sentence by sentence: what a text may be at its bounds and just beyond. */
public final class TextBoundsTest {
    private static final Check CHECK = new Check("TextBoundsTest");
    private static final String SACK = "sack 1 of 0 at 0;";
    private static final String[] KEYS = {"light", "heavy", "early", "late", "dear", "due", "turn",
        "same"};

    public static void main(String[] args) {
        mostBytes();
        bytesFed();
        cutShort();
        numbers();
        digits();
        signs();
        words();
        whatMayStandWhere();
        firstAndLeast();
        tooMany();
        withoutText();
        theLaterOne();
        latestText();
        allElseStays();
        CHECK.end();
    }

    /** A text told as it is, with good the answer, or with the fault and its place. */
    private static void good(boolean law, String text, int answer) {
        LightestSack x = new LightestSack();
        CHECK.due(text, law ? Check.law(x, text) : Check.mill(x, text), answer);
        CHECK.due(text + " | fault", x.fault(0), 0);
        CHECK.due(text + " | place", x.fault(1), -1);
        CHECK.due(text + " | tape", x.count(8), 0);
    }

    private static void faulty(boolean law, String text, int fault, int place) {
        LightestSack x = new LightestSack();
        CHECK.due(text, law ? Check.law(x, text) : Check.mill(x, text), -10 - fault);
        CHECK.due(text + " | fault", x.fault(0), fault);
        CHECK.due(text + " | place", x.fault(1), place);
        CHECK.due(text + " | tape", x.count(8), 0);
        int[] counts = {0, 1, 0, 0, 0, 0, 1, 0, 0};
        for (int what = 0; what < counts.length; what++) {
            CHECK.due(text + " | count " + what, x.count(what), counts[what]);
        }
    }

    private static void mostBytes() {
        String mill = " ".repeat(892) + "stone 7;";
        good(false, mill, 1);
        faulty(false, " ".repeat(893) + "stone 7", 2, 900);
        String law = " ".repeat(890) + "by heavy;\n";
        good(true, law, 1);
        faulty(true, " ".repeat(899) + "!", 1, 899);
        good(false, "fee 0;".repeat(150), 150);
        good(false, "fee0;".repeat(180), 180);
        good(true, "small0;".repeat(128), 0);
    }

    private static void bytesFed() {
        LightestSack x = new LightestSack();
        CHECK.due("twenty bytes", x.feed(0x66656520, 0x37373b66, 0x65652038, 0x383b6665, 0x6520393b), 20);
        CHECK.due("all five ints, the highest byte first", x.mill(20), 3);
        CHECK.due("the last one strikes", x.count(3), 9);
        x.feed(0x66656520, 0x37373b66, 0x65652038, 0x383b6665, 0x6520393b);
        CHECK.due("the first n of them", x.mill(7), 1);
        CHECK.due("the first one strikes", x.count(3), 77);
        CHECK.due("the others are gone", x.count(8), 0);
        x.feed(0xffffffff, -1, -1, -1, -1);
        CHECK.due("bytes of 255", x.mill(20), -11);
        x.feed(0x80000000, 0, 0, 0, 0);
        CHECK.due("a byte of 128", x.mill(1), -11);
        for (int i = 1; i <= 44; i++) {
            x.feed(0x20202020, 0x20202020, 0x20202020, 0x20202020, 0x20202020);
        }
        CHECK.due("up to 900", x.feed(0x20202020, 0x20202020, 0x66656520, 0x36363b66, 0x6565357a), 900);
        CHECK.due("above 900", x.feed(0x3b202020, 0, 0, 0, 0), -1);
        CHECK.due("900 of them still", x.count(8), 900);
        CHECK.due("the refused bytes aren't there", x.mill(900), -12);
        CHECK.due("the last byte's token", x.fault(1), 899);
        CHECK.due("as many as at first again", x.feed(0, 0, 0, 0, 0), 20);
        CHECK.due("none of them", x.law(0), 0);
        CHECK.due("nor then", x.count(8), 0);
    }

    /** What was fed behind the n bytes is no part of the text. */
    private static void cutShort() {
        String text = "stone 1;fee 100;";
        int[][] due = {{0, -1}, {2, 0}, {2, 0}, {2, 0}, {2, 0}, {2, 5}, {2, 6}, {2, 7}, {0, -1},
            {2, 8}, {2, 8}, {2, 11}, {2, 12}, {2, 13}, {2, 14}, {3, 12}, {3, 12}};
        for (int n = 0; n < due.length; n++) {
            LightestSack x = new LightestSack();
            Check.feed(x, text);
            int answer = x.mill(n);
            CHECK.due(n + " bytes", answer, due[n][0] != 0 ? -10 - due[n][0] : n == 8 ? 1 : 0);
            CHECK.due(n + " bytes: fault", x.fault(0), due[n][0]);
            CHECK.due(n + " bytes: place", x.fault(1), due[n][1]);
            CHECK.due(n + " bytes: the others are gone", x.count(8), 0);
        }
        LightestSack x = new LightestSack();
        Check.feed(x, "fee 1000;");
        CHECK.due("a number of three digits, cut", x.mill(7), -13);
        Check.feed(x, "fee 999;");
        CHECK.due("a number of one digit, cut", x.mill(5), -12);
        CHECK.due("the end is in its place", x.fault(1), 5);
        Check.feed(x, "by lighter");
        CHECK.due("a word, cut", x.law(8), -12);
        CHECK.due("light stood there, the end can't", x.fault(1), 8);
        Check.feed(x, "stones");
        CHECK.due("stone, cut", x.mill(5), -12);
        CHECK.due("the end behind it", x.fault(1), 5);
    }

    private interface Told {
        int of(LightestSack x);
    }

    private static void numbers() {
        number("stone ", ";" + SACK, 1, 9, x -> x.end(0));
        number("clean ", ";", 0, 60, x -> x.count(2));
        number("fee ", ";", 0, 99, x -> x.count(3));
        number("sack ", " of 0 at 0;", 1, 99, x -> x.sack(0, 0));
        number("sack 1 of ", " at 0;", 0, 7, x -> x.sack(0, 1));
        number("sack 1 of 0 at ", ";", 0, 600, x -> x.sack(0, 2));
        number("sack 1 of 0 at 0 sort ", ";", 0, 3, x -> x.sack(0, 3));
        number("sack 1 of 0 at 0 worth ", ";", 1, 9, x -> x.sack(0, 4));
        number("sack 1 of 0 at 0 home ", ";", 0, 999, x -> x.sack(0, 5));
        number("small ", ";", 0, 99, x -> x.count(7));
        LightestSack x = Check.with(SACK + "sack 1 of 0 at 0 sort 3 worth 9 home 0;");
        int[][] due = {{1, 0, 0, 0, 1, -1}, {1, 0, 0, 3, 9, 0}};
        for (int s = 0; s < 2; s++) {
            for (int what = 0; what < 6; what++) {
                CHECK.due("sack " + s + " " + what + ", told or not", x.sack(s, what), due[s][what]);
            }
        }
    }

    private static void number(String ahead, String behind, int least, int most, Told told) {
        boolean law = ahead.startsWith("small");
        for (int v = 0; v <= 1001; v++) {
            String text = ahead + v + behind;
            if (v >= 1000) {
                faulty(law, text, 1, ahead.length());
            } else if (v < least || v > most) {
                faulty(law, text, 3, ahead.length());
            } else {
                LightestSack x = new LightestSack();
                int answer = law ? Check.law(x, text) : Check.mill(x, text);
                CHECK.due(text, answer, law ? 0 : behind.endsWith(SACK) ? 2 : 1);
                CHECK.due(text + " | as told", told.of(x), v);
            }
        }
    }

    /** N: 1 to 3 digits, as long as they go. */
    private static void digits() {
        good(false, "stone 9;stone 09;stone 009;", 3);
        faulty(false, "stone 0009;", 1, 6);
        faulty(false, "stone 00000000000000000009;", 1, 6);
        faulty(false, "stone 4294967297;", 1, 6);
        faulty(false, "fee 1 1;", 2, 6);
        good(false, "sack007of007at007sort003worth009home007;", 1);
        faulty(false, "sack 1 of 0 at 0600;", 1, 15);
        good(false, "sack 1 of 0 at 060;", 1);
        good(true, "small 000;", 0);
        faulty(true, "small 0000;", 1, 6);
        faulty(true, "small -1;", 1, 6);
        faulty(false, "fee 1.5;", 1, 5);
    }

    /** Each of the 256 bytes between two tokens, and alone. */
    private static void signs() {
        for (int b = 0; b < 256; b++) {
            char c = (char) b;
            boolean blank = b == 10 || b == 32;
            if (blank) {
                good(false, "stone" + c + "5;", 1);
                good(false, "" + c, 0);
                good(true, c + "by" + c + c + "due" + c + ";" + c, 1);
                faulty(false, "sto" + c + "ne 5;", 2, 0);
                faulty(false, "sack 1" + c + "2 of 0 at 0;", 2, 7);
            } else if (c >= 'a' && c <= 'z') {
                faulty(false, "stone" + c + "5;", 2, 0);
                faulty(false, "" + c, 2, 0);
                faulty(true, "by " + c + ";", 2, 3);
            } else if (c >= '0' && c <= '9') {
                if (c == '0') {
                    good(false, "stone" + c + "5;", 1);
                } else {
                    faulty(false, "stone" + c + "5;", 3, 5);
                }
                faulty(false, "" + c, 2, 0);
                faulty(true, "by " + c + ";", 2, 3);
            } else if (c == ';') {
                faulty(false, "stone" + c + "5;", 2, 5);
                faulty(false, "" + c, 2, 0);
                faulty(true, "by " + c + ";", 2, 3);
            } else {
                faulty(false, "stone" + c + "5;", 1, 5);
                faulty(false, "" + c, 1, 0);
                faulty(true, "by " + c + ";", 1, 3);
                faulty(true, "by due;" + c, 1, 7);
            }
        }
    }

    private static void words() {
        for (String word : new String[] {"ston", "stones", "stoned", "cleans", "clea", "fees", "fe",
            "sacks", "sac", "of", "at", "sort", "worth", "home", "by", "then", "small", "light", "a"}) {
            faulty(false, word + " 1;", 2, 0);
            faulty(false, "fee 1;" + word, 2, 6);
        }
        for (String word : new String[] {"lights", "ligh", "heav", "earl", "lates", "dea", "du", "dues",
            "turns", "sam", "by", "then", "small", "stone", "n", "key"}) {
            faulty(true, "by " + word + ";", 2, 3);
            faulty(true, "by due then " + word + ";", 2, 12);
        }
        for (String key : KEYS) {
            good(true, "by " + key + ";", 1);
            faulty(true, key + ";", 2, 0);
            faulty(true, "by " + key.toUpperCase() + ";", 1, 3);
        }
        for (String line : new String[] {"stone 1;", "clean 1;", "fee 1;",
            "sack 1 of 0 at 0 sort 1 worth 1 home 1;"}) {
            oneLetterElse(false, line);
        }
        for (String key : KEYS) {
            oneLetterElse(true, "by " + key + " then " + key + ";");
        }
        oneLetterElse(true, "small 1;");
        faulty(false, "FEE 1;", 1, 0);
        faulty(false, "fEE 1;", 2, 0);
    }

    /** Another letter at each place of each word: the word can't stand there. */
    private static void oneLetterElse(boolean law, String line) {
        int word = 0;
        for (int i = 0; i < line.length(); i++) {
            if (line.charAt(i) >= 'a' && line.charAt(i) <= 'z') {
                faulty(law, line.substring(0, i) + 'z' + line.substring(i + 1), 2, word);
            } else {
                word = i + 1;
            }
        }
    }

    /** Of a good line each token is left out, or put twice. */
    private static void whatMayStandWhere() {
        String[] sack = {"sack", "1", "of", "2", "at", "3", "sort", "1", "worth", "4", "home", "5", ";"};
        for (int i = 0; i < sack.length; i++) {
            leftOut(false, sack, i);
            twice(false, sack, i);
        }
        String[] law = {"by", "due", "then", "late", ";"};
        for (int i = 0; i < law.length; i++) {
            leftOut(true, law, i);
            twice(true, law, i);
        }
        good(false, "sack 1 of 2 at 3 sort 1;", 1);
        good(false, "sack 1 of 2 at 3 worth 1;", 1);
        good(false, "sack 1 of 2 at 3 home 1;", 1);
        good(false, "sack 1 of 2 at 3 sort 1 home 1;", 1);
        good(false, "sack 1 of 2 at 3 sort 1 worth 1;", 1);
        good(false, "sack 1 of 2 at 3 worth 1 home 1;", 1);
        faulty(false, "sack 1 of 2 at 3 worth 1 sort 1;", 2, 25);
        faulty(false, "sack 1 of 2 at 3 home 1 sort 1;", 2, 24);
        faulty(false, "sack 1 of 2 at 3 home 1 worth 1;", 2, 24);
        faulty(false, "sack 1 of 2 at 3 sort 1 sort 1;", 2, 24);
        faulty(false, "sack 1 at 3 of 2;", 2, 7);
        faulty(false, ";", 2, 0);
        faulty(true, ";", 2, 0);
        faulty(true, "then due;", 2, 0);
        faulty(true, "small 1 then due;", 2, 8);
        faulty(true, "by due small 1;", 2, 7);
        faulty(true, "by due by late;", 2, 7);
        good(true, "", 0);
        good(false, "", 0);
        good(true, " \n \n", 0);
    }

    private static void leftOut(boolean law, String[] tokens, int left) {
        StringBuilder text = new StringBuilder();
        int place = 0;
        for (int i = 0; i < tokens.length; i++) {
            place = i == left ? text.length() : place;
            text.append(i == left ? "" : tokens[i] + " ");
        }
        faulty(law, text.toString(), 2, place);
    }

    private static void twice(boolean law, String[] tokens, int twice) {
        StringBuilder text = new StringBuilder();
        int place = 0;
        for (int i = 0; i < tokens.length; i++) {
            text.append(tokens[i]).append(' ');
            place = i == twice ? text.length() : place;
            text.append(i == twice ? tokens[i] + " " : "");
        }
        faulty(law, text.toString(), 2, place);
    }

    /** The first along the text; of one token the least kind. */
    private static void firstAndLeast() {
        faulty(false, "#stone 0;", 1, 0);
        faulty(false, "stone 0;#", 3, 6);
        faulty(false, "stone 0 #", 3, 6);
        faulty(false, "stone # 0;", 1, 6);
        faulty(false, "stone stone 0;", 2, 6);
        faulty(false, "stone 0 stone;", 3, 6);
        faulty(false, "fee 100;fee;#", 3, 4);
        faulty(false, "fee;fee 100;#", 2, 3);
        faulty(false, "1000;", 1, 0);
        faulty(false, "fee 1 1000;", 1, 6);
        faulty(false, "fee 1 100;", 2, 6);
        faulty(false, "sack 1 of 0 at 0 601;", 2, 17);
        faulty(false, "stone 1;stone 1;stone 1;stone 0;#", 4, 24);
        faulty(false, "stone 1;stone 1;stone 1 stone 1;", 2, 24);
        faulty(false, "stone 1;stone 1;stone 0;stone 1;", 3, 22);
        faulty(false, "stone 1;stone 1;stone 1;#stone 1;", 1, 24);
        faulty(true, "by due then late", 2, 16);
        faulty(true, "by due then late  \n ", 2, 20);
        faulty(true, "small 100;by", 3, 6);
        faulty(true, "by;small 100", 2, 2);
    }

    private static void tooMany() {
        good(false, "stone 1;fee 1;stone 2;clean 1;stone 3;", 5);
        faulty(false, "stone 1;fee 1;stone 2;clean 1;stone 3;fee 2;stone 4;", 4, 44);
        faulty(false, "stone 1;stone 2;stone 3;stone", 4, 24);
        faulty(false, "stone 1;stone 2;stone 3; stones", 2, 25);
        String sacks = SACK.repeat(24);
        good(false, sacks, 24);
        good(false, sacks + "fee 1;stone 1;clean 1;", 27);
        faulty(false, sacks + SACK, 4, 408);
        faulty(false, sacks + "fee 1; sack", 4, 415);
        faulty(false, sacks + "sack 0 of 9 at 999;", 4, 408);
        faulty(false, sacks + "sacks", 2, 408);
        String seven = "by light then heavy then early then late then dear then due then turn;";
        good(true, seven, 7);
        good(true, seven + "by same;", 8);
        good(true, seven + "by turn;small 3;", 8);
        faulty(true, seven + "by same then light;", 4, 83);
        faulty(true, seven + "by same;by light;", 4, 81);
        faulty(true, seven + "by same;by", 2, 80);
        faulty(true, seven + "by same then #", 1, 83);
        faulty(true, seven + "by same then small;", 2, 83);
        faulty(true, seven + "by same light;", 2, 78);
        faulty(true, "by due;".repeat(8) + "by due", 4, 59);
        good(true, "by due;".repeat(8), 8);
        good(true, "by due" + " then due".repeat(7) + ";", 8);
        faulty(true, "by due" + " then due".repeat(8) + ";", 4, 75);
    }

    /** Without a text no sacks, one stone of pace 1, and light. */
    private static void withoutText() {
        LightestSack x = new LightestSack();
        CHECK.due("no sacks", x.count(4), 0);
        CHECK.due("the key light", x.count(6), 1);
        Check.mill(x, "sack 3 of 0 at 0;sack 2 of 0 at 0;");
        CHECK.due("light without a law", x.order(0), 1);
        CHECK.due("by the first key", x.ahead(1, 0), 1);
        CHECK.due("one stone", x.count(1), 1);
        CHECK.due("of pace 1", x.end(1), 2);
        CHECK.due("it is stone 0", x.piece(0, 4), 0);
        CHECK.due("one after the other", x.end(0), 5);
        Check.mill(x, "stone 3;sack 3 of 0 at 0;sack 2 of 0 at 0;");
        CHECK.due("one stone told", x.count(1), 1);
        CHECK.due("of pace 3", x.end(1), 6);
        Check.mill(x, "sack 3 of 0 at 0;sack 2 of 0 at 0;");
        CHECK.due("of pace 1 again", x.end(1), 2);
        Check.law(x, "");
        CHECK.due("a law of no keys: the lesser number", x.order(0), 0);
        CHECK.due("by no key", x.ahead(1, 0), 0);
        Check.mill(x, "");
        CHECK.due("a mill of no lines", x.count(4), 0);
        CHECK.due("and one stone", x.count(1), 1);
        CHECK.due("the law stays", x.count(6), 0);
    }

    private static void theLaterOne() {
        LightestSack x = Check.with("clean 60;clean 1;fee 99;fee 2;clean 0;fee 98;clean 59;");
        CHECK.due("the later clean", x.count(2), 59);
        CHECK.due("the later fee", x.count(3), 98);
        CHECK.due("each is a line", x.count(0), 7);
        Check.mill(x, "fee 3;sack 1 of 0 at 0;");
        CHECK.due("none: no clean", x.count(2), 0);
        Check.mill(x, "clean 3;sack 1 of 0 at 0;");
        CHECK.due("none: no fee", x.count(3), 0);
        Check.law(x, "small 99;small 0;small 7;by due;");
        CHECK.due("the later small", x.count(7), 7);
        Check.law(x, "small 7;by due;small 0;");
        CHECK.due("the later small of 0", x.count(7), 0);
        Check.law(x, "small 9;");
        Check.law(x, "by light;");
        CHECK.due("none: no small", x.count(7), 0);
    }

    /** The fault is of the latest text that threw nothing, mill or law. */
    private static void latestText() {
        LightestSack x = new LightestSack();
        dueFault(x, "at first", 0, -1);
        Check.mill(x, "fee 1;fee");
        dueFault(x, "a faulty mill", 2, 9);
        Check.feed(x, "fee 1;");
        CHECK.dueThrow("more than there is", IllegalArgumentException.class, () -> x.mill(21));
        dueFault(x, "behind a throw", 2, 9);
        CHECK.dueThrow("less than none", IllegalArgumentException.class, () -> x.law(-1));
        dueFault(x, "behind another throw", 2, 9);
        x.mill(6);
        dueFault(x, "a good mill", 0, -1);
        Check.law(x, "small 100;");
        dueFault(x, "a faulty law", 3, 6);
        x.mill(0);
        dueFault(x, "a mill of no bytes", 0, -1);
        Check.law(x, "#");
        dueFault(x, "a fault at the first byte", 1, 0);
        x.law(0);
        dueFault(x, "a law of no bytes", 0, -1);
    }

    private static void dueFault(LightestSack x, String name, int fault, int place) {
        CHECK.due(name + ": fault", x.fault(0), fault);
        CHECK.due(name + ": place", x.fault(1), place);
        for (int what : new int[] {-1, 2, 3, Integer.MIN_VALUE, Integer.MAX_VALUE}) {
            CHECK.due(name + ": fault " + what, x.fault(what), -1);
        }
    }

    /** A fault leaves all else, and no trace behind the next good text of the other kind. */
    private static void allElseStays() {
        LightestSack x = Check.with("stone 2;clean 3;fee 4;sack 6 of 1 at 0 worth 2;sack 4 of 0 at 0;",
                "by heavy then due;small 5;");
        Check.part(x, 0, 0, 5, 1);
        String before = stands(x);
        Check.law(x, "by light then early then late;small 0;by");
        CHECK.due("a faulty law", stands(x).equals(before) ? 1 : 0, 1);
        Check.mill(x, "stone 1;stone 1;fee 0;clean 0;sack 9 of 9 at 0;");
        CHECK.due("a faulty mill", stands(x).equals(before) ? 1 : 0, 1);
        Check.mill(x, "sack 6 of 1 at 0;sack 4 of 0 at 0;");
        CHECK.due("keys behind a faulty law and a good mill", x.count(6), 2);
        CHECK.due("small behind them", x.count(7), 5);
        CHECK.due("heavy still", x.ahead(0, 1), 1);
        Check.part(x, 0, 0, 2, 2, 2);
        Check.mill(x, "stone 9;sack 1 of 0 at 0;sack");
        Check.law(x, "by early;");
        CHECK.due("sacks behind a faulty mill and a good law", x.count(4), 2);
        CHECK.due("pieces behind them", x.count(5), 4);
        CHECK.due("pace behind them", x.total(3), 10);
        x.image(0);
        Check.mill(x, "fee 1;");
        x.restore(0);
        Check.law(x, "by due;");
        CHECK.due("a law behind an image: lines", x.count(0), 2);
        CHECK.due("a law behind an image: pieces", x.count(5), 4);
        x.settle(2);
        Check.law(x, "by heavy;");
        x.image(1);
        Check.law(x, "by light;");
        x.restore(1);
        Check.mill(x, "sack 6 of 1 at 0;sack 7 of 0 at 0;");
        CHECK.due("a mill behind an image: the law", x.order(0), 1);
        CHECK.due("a mill makes all whole", x.whole(), 0);
    }

    private static String stands(LightestSack x) {
        StringBuilder all = new StringBuilder();
        for (int what = 0; what < 9; what++) {
            all.append(x.count(what)).append(' ').append(x.total(what)).append(' ');
        }
        for (int p = 0; p < x.count(5); p++) {
            for (int what = 0; what < 5; what++) {
                all.append(x.piece(p, what)).append(' ');
            }
        }
        for (int s = 0; s < x.count(4); s++) {
            for (int what = 0; what < 8; what++) {
                all.append(x.sack(s, what)).append(' ');
            }
        }
        return all.append(x.ahead(0, 1)).toString();
    }
}
