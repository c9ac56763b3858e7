/** Promises 1 to 5 and 39: a new object, the tape, the two texts and their faults. */
public final class TextTest {
    private static final Check CHECK = new Check("TextTest");
    private static final Class<IllegalArgumentException> ARGUMENT = IllegalArgumentException.class;

    public static void main(String[] args) {
        newObject();
        tape();
        mills();
        laws();
        millFaults();
        lawFaults();
        faultsStay();
        CHECK.end();
    }

    private static void newObject() {
        LightestSack x = new LightestSack();
        int[] counts = {0, 1, 0, 0, 0, 0, 1, 0, 0};
        for (int what = 0; what < counts.length; what++) {
            CHECK.due("new count " + what, x.count(what), counts[what]);
        }
        CHECK.due("count(9)", x.count(9), -1);
        CHECK.due("count(-1)", x.count(-1), -1);
        CHECK.due("new fault(0)", x.fault(0), 0);
        CHECK.due("new fault(1)", x.fault(1), -1);
        CHECK.due("fault(2)", x.fault(2), -1);
        CHECK.due("fault(-1)", x.fault(-1), -1);
        for (int i = 0; i < 4; i++) {
            int tray = i;
            CHECK.dueThrow("new tray " + i, IllegalStateException.class, () -> x.pour(tray));
        }
    }

    private static void tape() {
        LightestSack x = new LightestSack();
        for (int i = 1; i <= 45; i++) {
            CHECK.due("feed", x.feed(0, 0, 0, 0, 0), 20 * i);
        }
        CHECK.due("feed beyond 900", x.feed(0, 0, 0, 0, 0), -1);
        CHECK.due("bytes", x.count(8), 900);
        CHECK.dueThrow("mill(901)", ARGUMENT, () -> x.mill(901));
        CHECK.dueThrow("law(901)", ARGUMENT, () -> x.law(901));
        CHECK.dueThrow("mill(-1)", ARGUMENT, () -> x.mill(-1));
        CHECK.dueThrow("law(-1)", ARGUMENT, () -> x.law(-1));
        CHECK.due("bytes stay", x.count(8), 900);
        CHECK.due("mill(900) of zeros", x.mill(900), -11);
        CHECK.due("tape is empty then", x.count(8), 0);
        CHECK.dueThrow("mill(1) of none", ARGUMENT, () -> x.mill(1));
        CHECK.due("fault stays behind a throw", x.fault(0), 1);
        CHECK.due("mill(0)", x.mill(0), 0);
        CHECK.due("no fault", x.fault(0), 0);
        CHECK.due("no place", x.fault(1), -1);
        x.feed(0x73746f6e, 0x6520393b, 0, 0, 0);
        CHECK.due("highest byte first", x.mill(8), 1);
        CHECK.due("tape is empty behind a good text, too", x.count(8), 0);
    }

    private static void mills() {
        LightestSack x = Check.with("stone 9;clean 60;fee 99;sack 99 of 7 at 600 sort 3 worth 9 home 999;"
                + "fee 0;clean 0;stone 1;sack 1 of 0 at 0 sort 0 worth 1 home 0;");
        int[] counts = {8, 2, 0, 0, 2, 2, 1, 0, 0};
        for (int what = 0; what < counts.length; what++) {
            CHECK.due("count " + what, x.count(what), counts[what]);
        }
        CHECK.due("lines", Check.mill(x, "clean 7;fee 5;clean 60;fee 99;"), 4);
        CHECK.due("the later clean", x.count(2), 60);
        CHECK.due("the later fee", x.count(3), 99);
        CHECK.due("sacks are gone", x.count(4), 0);
        CHECK.due("a mill of a sack", Check.mill(x, "sack 5 of 0 at 0;"), 1);
        CHECK.due("no clean without its line", x.count(2), 0);
        CHECK.due("no fee without its line", x.count(3), 0);
        CHECK.due("one stone without any", x.count(1), 1);
        CHECK.due("blanks", Check.mill(x, " \n stone5\n;  sack007of 0at 3home9; \n"), 2);
        CHECK.due("blanks: pounds", x.sack(0, 0), 7);
        CHECK.due("blanks: home", x.sack(0, 5), 9);
        StringBuilder many = new StringBuilder();
        for (int i = 0; i < 24; i++) {
            many.append("sack ").append(i + 1).append(" of 0 at 0;");
        }
        CHECK.due("24 sacks", Check.mill(x, many.toString()), 24);
        CHECK.due("24 pieces", x.count(5), 24);
        CHECK.due("an empty mill", x.mill(0), 0);
        CHECK.due("no sacks", x.count(4), 0);
    }

    private static void laws() {
        LightestSack x = new LightestSack();
        CHECK.due("keys", Check.law(x, "by light then heavy;small 5;by early then late then dear;"
                + "by due;by turn then same;small 99;"), 8);
        CHECK.due("count keys", x.count(6), 8);
        CHECK.due("the later small", x.count(7), 99);
        CHECK.due("one key", Check.law(x, "by same;"), 1);
        CHECK.due("small is gone", x.count(7), 0);
        CHECK.due("no key", Check.law(x, ""), 0);
        CHECK.due("no key at all", x.count(6), 0);
        CHECK.due("a key twice", Check.law(x, "by due then due;by due;"), 3);
        x = Check.with("fee 3;sack 5 of 0 at 0;sack 5 of 0 at 0;");
        Check.lay(x, 0, 3, 2);
        x.part(0, 0);
        Check.law(x, "by heavy;");
        CHECK.due("a law leaves lines", x.count(0), 3);
        CHECK.due("a law leaves fee", x.count(3), 3);
        CHECK.due("a law leaves partings", x.count(5), 3);
        CHECK.due("a mill makes whole", Check.mill(x, "sack 5 of 0 at 0;sack 5 of 0 at 0;"), 2);
        CHECK.due("a mill made whole", x.count(5), 2);
        CHECK.due("a mill leaves the law", x.ahead(0, 1), 0);
        Check.mill(x, "sack 5 of 0 at 0;sack 6 of 0 at 0;");
        CHECK.due("a mill leaves the law: heavy", x.order(0), 1);
    }

    private static void dueFault(boolean law, String text, int fault, int place) {
        LightestSack x = new LightestSack();
        int answer = law ? Check.law(x, text) : Check.mill(x, text);
        CHECK.due(text + " |", answer, -10 - fault);
        CHECK.due(text + " | fault(0)", x.fault(0), fault);
        CHECK.due(text + " | fault(1)", x.fault(1), place);
        CHECK.due(text + " | tape", x.count(8), 0);
    }

    private static void millFaults() {
        dueFault(false, "stone 1", 2, 7);
        dueFault(false, "stone 1  ", 2, 9);
        dueFault(false, "stone 1;;", 2, 8);
        dueFault(false, "stone 0;", 3, 6);
        dueFault(false, "stone 10;", 3, 6);
        dueFault(false, "stone 1 2;", 2, 8);
        dueFault(false, "stone;", 2, 5);
        dueFault(false, "stones 1;", 2, 0);
        dueFault(false, "Stone 1;", 1, 0);
        dueFault(false, "stone 1;zz", 2, 8);
        dueFault(false, "stone 1;stonez 1;", 2, 8);
        dueFault(false, "stone{1;", 1, 5);
        dueFault(false, "stone`1;", 1, 5);
        dueFault(false, "stone/1;", 1, 5);
        dueFault(false, "stone:1;", 1, 5);
        dueFault(false, "stone 1<", 1, 7);
        dueFault(false, "stonE 1;", 2, 0);
        dueFault(false, "stone\t1;", 1, 5);
        dueFault(false, "stone 1234;", 1, 6);
        dueFault(false, "stone 12345", 1, 6);
        dueFault(false, "1234", 1, 0);
        dueFault(false, "123", 2, 0);
        dueFault(false, "stone 1;#", 1, 8);
        dueFault(false, "stone 1;" + (char) 233, 1, 8);
        dueFault(false, "stone 1;" + (char) 0, 1, 8);
        dueFault(false, "clean 61;", 3, 6);
        dueFault(false, "fee 100;", 3, 4);
        dueFault(false, "by light;", 2, 0);
        dueFault(false, "sack 0 of 0 at 0;", 3, 5);
        dueFault(false, "sack 100 of 0 at 0;", 3, 5);
        dueFault(false, "sack 1 of 8 at 0;", 3, 10);
        dueFault(false, "sack 1 of 0 at 601;", 3, 15);
        dueFault(false, "sack 1 of 0 at 0 sort 4;", 3, 22);
        dueFault(false, "sack 1 of 0 at 0 worth 0;", 3, 23);
        dueFault(false, "sack 1 of 0 at 0 worth 10;", 3, 23);
        dueFault(false, "sack 1 of 0 at 0 home 1000;", 1, 22);
        dueFault(false, "sack 1 of 0 at 0 worth 1 sort 1;", 2, 25);
        dueFault(false, "sack 1 of 0 at 0 home 1 worth 1;", 2, 24);
        dueFault(false, "sack 1 at 0;", 2, 7);
        dueFault(false, "sack 1 of 0 at 0 home;", 2, 21);
        dueFault(false, "sack of 0 at 0;", 2, 5);
        dueFault(false, "sack 1 of 0 at 0 small 1;", 2, 17);
        dueFault(false, "stone 1;stone 1;stone 1;fee 1;stone", 4, 30);
        dueFault(false, "stone 1;stone 1;stone 1;stone #", 4, 24);
        StringBuilder many = new StringBuilder();
        for (int i = 0; i < 24; i++) {
            many.append("sack 1 of 0 at 0;");
        }
        dueFault(false, many + "sack 100 of 0 at 0;", 4, 24 * 17);
    }

    private static void lawFaults() {
        dueFault(true, "by", 2, 2);
        dueFault(true, "by ;", 2, 3);
        dueFault(true, "by light", 2, 8);
        dueFault(true, "by light then", 2, 13);
        dueFault(true, "by light then;", 2, 13);
        dueFault(true, "by then;", 2, 3);
        dueFault(true, "light;", 2, 0);
        dueFault(true, "by light heavy;", 2, 9);
        dueFault(true, "by lights;", 2, 3);
        dueFault(true, "by light then 5;", 2, 14);
        dueFault(true, "small 100;", 3, 6);
        dueFault(true, "small light;", 2, 6);
        dueFault(true, "small;", 2, 5);
        dueFault(true, "by due then !;", 1, 12);
        dueFault(true, "by light;then heavy;", 2, 9);
        dueFault(true, "stone 1;", 2, 0);
        String eight = "by light then heavy then early then late;by dear then due then turn then same;";
        dueFault(true, eight + "by light;", 4, eight.length() + 3);
        dueFault(true, eight + "by lamp;", 2, eight.length() + 3);
        dueFault(true, eight + "by 1000;", 1, eight.length() + 3);
    }

    private static void faultsStay() {
        LightestSack x = Check.with("clean 4;sack 5 of 0 at 0;sack 4 of 0 at 0;", "by heavy;small 2;");
        Check.lay(x, 0, 3, 2);
        x.part(0, 0);
        Check.mill(x, "clean 9;sack 7 of 0 at 0;sack");
        CHECK.due("fault leaves lines", x.count(0), 3);
        CHECK.due("fault leaves clean", x.count(2), 4);
        CHECK.due("fault leaves pounds", x.sack(0, 0), 5);
        CHECK.due("fault leaves partings", x.count(5), 3);
        Check.law(x, "small 7;by light then early; by");
        CHECK.due("fault leaves keys", x.count(6), 1);
        CHECK.due("fault leaves small", x.count(7), 2);
        CHECK.due("fault leaves the key", x.order(0), 2);
        CHECK.due("the latest fault", x.fault(1), 31);
        Check.law(x, "by light;");
        CHECK.due("a good text has none", x.fault(0), 0);
        CHECK.due("a good text has no place", x.fault(1), -1);
    }
}
