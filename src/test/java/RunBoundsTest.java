/** Terms 2, promises 6 to 22: the run, orders and pieces at their bounds and just beyond. */
public final class RunBoundsTest {
    private static final Check CHECK = new Check("RunBoundsTest");
    private static final int MIN = Integer.MIN_VALUE;
    private static final int MAX = Integer.MAX_VALUE;

    public static void main(String[] args) {
        without();
        theMost();
        whenItComes();
        whichStone();
        small();
        dear();
        due();
        late();
        turn();
        same();
        cleaning();
        begun();
        persons();
        longest();
        minutes();
        judged();
        orders();
        best();
        gap();
        counts();
        CHECK.end();
    }

    private static LightestSack with(String mill, String law) {
        return Check.with(mill, law);
    }

    private static void order(String name, LightestSack x, int... due) {
        for (int k = 0; k < due.length; k++) {
            CHECK.due(name + ": order " + k, x.order(k), due[k]);
        }
        for (int k : new int[] {-1, -2, due.length, due.length + 1, MIN, MAX}) {
            CHECK.due(name + ": order " + k, x.order(k), -1);
        }
    }

    private static void without() {
        LightestSack x = new LightestSack();
        order("no sacks", x);
        for (int what = 0; what < 6; what++) {
            CHECK.due("no sacks: total " + what, x.total(what), 0);
        }
        for (int what : new int[] {-1, 6, 7, MIN, MAX}) {
            CHECK.due("no sacks: total " + what, x.total(what), -1);
        }
        for (int what = 0; what < 4; what++) {
            CHECK.due("no sacks: stands " + what, x.stands(0, what), 0);
        }
        for (int person = 0; person < 8; person++) {
            CHECK.due("no sacks: home " + person, x.home(person), -1);
        }
        CHECK.due("no sacks: longest", x.longest(), -1);
        CHECK.due("no sacks: whole", x.whole(), 0);
        CHECK.due("no sacks: best's cost", x.best(-1), 0);
        CHECK.due("no sacks: best", x.best(0), -1);
        CHECK.due("no sacks: gap", x.gap(), 0);
        x.tray(0, 0, 0);
        x.tray(1, 0, 1);
        CHECK.due("no sacks: judge", x.judge(0, 0), -1);
        CHECK.due("no sacks: judge which", x.judge(0, 1), -1);
        CHECK.due("no sacks: judge one", x.judge(1, 0), 0);
        CHECK.due("no sacks: judge one, which", x.judge(1, 1), -1);
        CHECK.due("no sacks: cost", x.cost(0), 0);
        CHECK.due("no sacks: cost of one", x.cost(1), -1);
        CHECK.due("no sacks: pour", x.pour(0), 0);
        CHECK.due("no sacks: pour into one", x.pour(1), 0);
    }

    private static void theMost() {
        StringBuilder mill = new StringBuilder("stone 9;clean 60;fee 99;");
        for (int s = 0; s < 24; s++) {
            mill.append("sack 99 of 7 at 600 sort ").append(s % 2 * 3).append(" worth 9;");
        }
        LightestSack x = with(mill.toString(), "");
        int end = 600;
        int waits = 0;
        for (int s = 0; s < 24; s++) {
            end += 99 * 9 + (s > 0 ? 60 : 0);
            waits += end - 600;
            CHECK.due("the most: end " + s, x.end(s), end);
        }
        CHECK.due("the most: 0", x.total(0), waits);
        CHECK.due("the most: 1", x.total(1), 9 * waits);
        CHECK.due("the most: 3", x.total(3), 600 + 24 * 891 + 23 * 60);
        CHECK.due("the most: 4", x.total(4), 24 * 99);
        CHECK.due("the most: 5", x.total(5), 23 * 60);
        CHECK.due("the most: home", x.home(7), end);
        CHECK.due("the most: longest", x.longest(), 23);
        CHECK.due("the most: at the end", x.stands(end, 3), 0);
        CHECK.due("the most: ahead of the end", x.stands(end - 1, 3), 1);
        for (int s = 0; s < 4; s++) {
            Check.part(x, s, 0, 92, 1, 1, 1, 1, 1, 1, 1);
        }
        Check.part(x, 4, 0, 92, 1, 1, 1, 1, 1, 1, 1);
        Check.part(x, 5, 0, 98, 1);
        CHECK.due("60 pieces: fees", x.total(4), 60 * 99);
        CHECK.due("60 pieces: the last", x.piece(59, 3), end);
        CHECK.due("60 pieces: order", x.order(59), 59);
        CHECK.due("60 pieces: no more", x.order(60), -1);
        x.tray(0, 0, 60);
        CHECK.due("60 pieces: pour", x.pour(0), 60);
        CHECK.due("60 pieces: judge", x.judge(0, 0), -1);
        CHECK.due("60 pieces: cost", x.cost(0), x.total(1));
    }

    /** A piece that comes when the stone becomes free stands there; one a minute later doesn't. */
    private static void whenItComes() {
        String two = "sack 5 of 0 at 0;sack 4 of 0 at 1;";
        order("at the same minute", with(two + "sack 1 of 0 at 5;", "by light;"), 0, 2, 1);
        order("a minute later", with(two + "sack 1 of 0 at 6;", "by light;"), 0, 1, 2);
        order("both come then", with("sack 5 of 0 at 9;sack 4 of 0 at 9;", "by light;"), 1, 0);
        order("one comes later", with("sack 5 of 0 at 8;sack 4 of 0 at 9;", "by light;"), 0, 1);
        LightestSack x = with("sack 1 of 0 at 0;sack 1 of 0 at 600;", "by light;");
        CHECK.due("from 0 on", x.piece(0, 2), 0);
        CHECK.due("as it comes", x.piece(1, 2), 600);
        CHECK.due("as it comes: done", x.end(1), 601);
    }

    private static void whichStone() {
        LightestSack x = with("stone 5;stone 1;stone 1;sack 2 of 0 at 3;sack 2 of 0 at 3;"
                + "sack 2 of 0 at 3;sack 2 of 0 at 3;", "");
        int[] stones = {0, 1, 2, 1};
        int[] begun = {3, 3, 3, 5};
        for (int p = 0; p < 4; p++) {
            CHECK.due("of several free the lesser: stone " + p, x.piece(p, 4), stones[p]);
            CHECK.due("of several free the lesser: begun " + p, x.piece(p, 2), begun[p]);
        }
        Check.mill(x, "stone 3;stone 4;sack 2 of 0 at 0;sack 1 of 0 at 0;sack 1 of 0 at 0;");
        CHECK.due("stone 1 is free first", x.piece(2, 4), 1);
        Check.mill(x, "stone 3;stone 6;sack 2 of 0 at 0;sack 1 of 0 at 0;sack 1 of 0 at 0;");
        CHECK.due("both are free at 6", x.piece(2, 4), 0);
        Check.mill(x, "stone 3;stone 7;sack 2 of 0 at 0;sack 1 of 0 at 0;sack 1 of 0 at 0;");
        CHECK.due("stone 0 is free first", x.piece(2, 4), 0);
        Check.mill(x, "stone 3;stone 2;sack 2 of 0 at 0;sack 1 of 0 at 0;sack 1 of 0 at 6;");
        CHECK.due("both are free when it comes", x.piece(2, 4), 0);
        Check.mill(x, "stone 3;stone 2;sack 2 of 0 at 0;sack 1 of 0 at 0;sack 1 of 0 at 5;");
        CHECK.due("stone 0 isn't free when it comes", x.piece(2, 4), 1);
    }

    private static void small() {
        String three = "sack 7 of 0 at 0;sack 6 of 0 at 0;sack 5 of 0 at 0;";
        order("small 0", with(three, "by light;"), 2, 1, 0);
        order("small 5", with(three, "by light;small 5;"), 2, 1, 0);
        order("small 6", with(three, "by light;small 6;"), 1, 2, 0);
        order("small 7", with(three, "by light;small 7;"), 0, 1, 2);
        String turned = "sack 5 of 0 at 0;sack 6 of 0 at 0;sack 7 of 0 at 0;";
        order("heavy, small 5", with(turned, "by heavy;small 5;"), 2, 1, 0);
        order("heavy, small 6", with(turned, "by heavy;small 6;"), 2, 0, 1);
        order("heavy, small 7", with(turned, "by heavy;small 7;"), 0, 1, 2);
        String most = "sack 99 of 0 at 0;sack 98 of 0 at 0;";
        order("small 98", with(most, "by light;small 98;"), 1, 0);
        order("small 99", with(most, "by light;small 99;"), 0, 1);
        LightestSack x = with(three, "by light;small 6;");
        CHECK.due("ahead by small ones", x.ahead(1, 2), 0);
        CHECK.due("ahead above small", x.ahead(1, 0), 1);
        Check.part(x, 0, 0, 1, 6);
        order("the pieces' own pounds", x, 0, 1, 2, 3);
        Check.law(x, "by heavy then light;small 6;");
        CHECK.due("a piece of fewer than small", x.ahead(0, 2), 0);
    }

    private static void dear() {
        order("like shares", with("sack 4 of 0 at 0 worth 2;sack 2 of 0 at 0;", "by dear;"), 0, 1);
        order("more", with("sack 4 of 0 at 0 worth 2;sack 1 of 0 at 0;", "by dear;"), 1, 0);
        order("less", with("sack 4 of 0 at 0 worth 2;sack 3 of 0 at 0;", "by dear;"), 0, 1);
        order("close ones", with("sack 97 of 0 at 0 worth 8;sack 98 of 0 at 0 worth 8;"
                + "sack 99 of 0 at 0 worth 9;", "by dear;"), 2, 0, 1);
        order("real pounds", with("sack 3 of 0 at 0 worth 2;sack 1 of 0 at 0;", "by dear;small 99;"),
                1, 0);
        LightestSack x = with("sack 9 of 0 at 0 worth 3;sack 2 of 0 at 0;", "by dear;");
        order("whole", x, 1, 0);
        Check.part(x, 0, 0, 3, 6);
        order("in pieces", x, 0, 1, 2);
    }

    private static void due() {
        order("never is last", with("sack 1 of 0 at 0;sack 1 of 0 at 0 home 999;", "by due;"), 1, 0);
        order("never and never", with("sack 1 of 0 at 0;sack 1 of 0 at 0;", "by due;"), 0, 1);
        order("a minute", with("sack 1 of 0 at 0 home 1;sack 1 of 0 at 0 home 0;", "by due;"), 1, 0);
        order("early: a minute", with("sack 9 of 0 at 0;sack 1 of 0 at 2;sack 1 of 0 at 1;",
                "by early;"), 0, 2, 1);
        order("late: a minute", with("sack 9 of 0 at 0;sack 1 of 0 at 1;sack 1 of 0 at 2;",
                "by late;"), 0, 2, 1);
    }

    private static void late() {
        int[] homes = {5, 4, 0, 999, 6};
        int[] late = {0, 1, 1, 0, 0};
        for (int i = 0; i < homes.length; i++) {
            LightestSack x = with("sack 5 of 0 at 0 home " + homes[i] + ";", "by light;");
            CHECK.due("done at 5, home at " + homes[i], x.total(2), late[i]);
        }
        LightestSack x = with("sack 99 of 0 at 600;stone 9;", "by light;");
        CHECK.due("never home", x.total(2), 0);
        CHECK.due("never", x.sack(0, 5), -1);
        Check.mill(x, "sack 5 of 0 at 0 home 4;sack 5 of 0 at 0 home 9;sack 5 of 0 at 0 home 15;");
        CHECK.due("two of three", x.total(2), 2);
        Check.mill(x, "sack 5 of 0 at 0 home 4;");
        Check.part(x, 0, 0, 1, 4);
        CHECK.due("its last piece counts", x.total(2), 1);
        CHECK.due("one late sack of two pieces", x.count(5), 2);
    }

    private static void turn() {
        order("pieces, not sacks", partedTurn(), 0, 3, 1, 2, 4);
        // Begun on all stones: person 0 has two, when stone 1 is free.
        order("all stones", with("stone 9;stone 1;sack 2 of 0 at 0;sack 2 of 0 at 0;sack 2 of 1 at 1;"
                + "sack 2 of 0 at 1;", "by turn;"), 0, 1, 2, 3);
        order("by turn alone the lesser number", with("sack 1 of 3 at 0;sack 1 of 2 at 0;", "by turn;"),
                0, 1);
    }

    private static LightestSack partedTurn() {
        LightestSack x = with("sack 3 of 0 at 0;sack 1 of 1 at 0;sack 1 of 1 at 9;", "by turn;");
        Check.part(x, 0, 0, 1, 1, 1);
        return x;
    }

    private static void same() {
        String mill = "stone 1;stone 1;sack 1 of 0 at 0 sort 1;sack 1 of 0 at 0 sort 2;"
                + "sack 1 of 0 at 5 sort 2;sack 1 of 0 at 5 sort 1;";
        LightestSack x = with(mill, "by same;");
        order("none was: the lesser number", x, 0, 1, 3, 2);
        CHECK.due("on that stone", x.piece(3, 4), 0);
        LightestSack y = with("sack 1 of 0 at 0 sort 3;sack 1 of 0 at 0;sack 1 of 0 at 0 sort 1;"
                + "sack 1 of 0 at 0 sort 3;", "by same;");
        order("others are alike", y, 0, 3, 1, 2);
        CHECK.due("nothing ground yet", y.ahead(0, 1), 0);
    }

    private static void cleaning() {
        LightestSack x = with("clean 60;sack 1 of 0 at 0 sort 2;sack 1 of 0 at 0 sort 2;"
                + "sack 1 of 0 at 0;sack 1 of 0 at 0;", "");
        int[] begun = {0, 1, 62, 63};
        for (int p = 0; p < 4; p++) {
            CHECK.due("begun behind cleaning " + p, x.piece(p, 2), begun[p]);
        }
        CHECK.due("cleaned once", x.total(5), 60);
        Check.mill(x, "clean 0;sack 1 of 0 at 0 sort 2;sack 1 of 0 at 0;");
        CHECK.due("clean 0", x.total(5), 0);
        CHECK.due("clean 0: begun", x.piece(1, 2), 1);
        Check.mill(x, "clean 5;sack 1 of 0 at 0 sort 2;");
        CHECK.due("nothing was ground", x.total(5), 0);
        Check.mill(x, "clean 5;stone 1;stone 1;sack 1 of 0 at 0 sort 2;sack 1 of 0 at 0;");
        CHECK.due("nothing was ground on either", x.total(5), 0);
        // The stone is free from 1 on, and cleaned only when the piece stands there.
        Check.mill(x, "clean 5;sack 1 of 0 at 0;sack 1 of 0 at 9 sort 1;");
        CHECK.due("not ahead of its coming", x.piece(1, 2), 14);
        Check.lay(x, 0, 0, 1);
        CHECK.due("nor in an order", x.cost(0), 1 + 6);
    }

    /** Who stands there and isn't begun: cleaning counts as begun, for it and its stone. */
    private static void begun() {
        LightestSack x = with("clean 5;sack 4 of 0 at 0;sack 3 of 1 at 2 sort 1;sack 2 of 2 at 5;", "");
        int[][] due = {{0, 0, 0, 1, 1}, {1, 0, 0, 1, 1}, {2, 1, 3, 1, 2}, {3, 1, 3, 1, 2},
            {4, 0, 0, 1, 1}, {5, 1, 2, 1, 2}, {8, 1, 2, 1, 2}, {9, 1, 2, 1, 2}, {11, 1, 2, 1, 2},
            {12, 0, 0, 1, 1}, {17, 0, 0, 1, 1}, {18, 0, 0, 1, 1}, {19, 0, 0, 0, 0}, {MAX, 0, 0, 0, 0}};
        for (int[] row : due) {
            for (int what = 0; what < 4; what++) {
                CHECK.due("at " + row[0] + " stands " + what, x.stands(row[0], what), row[what + 1]);
            }
        }
        CHECK.due("ground from 9 on", x.piece(1, 2), 9);
        CHECK.due("ground up to 12", x.piece(1, 3), 12);
        CHECK.due("the last", x.piece(2, 3), 19);
    }

    private static void persons() {
        LightestSack x = with("sack 1 of 0 at 0;sack 2 of 7 at 0;sack 3 of 0 at 0;sack 4 of 7 at 0;",
                "by heavy;");
        CHECK.due("the last done, not the last told: 0", x.home(0), 10);
        CHECK.due("the last done, not the last told: 7", x.home(7), 9);
        for (int person = 1; person < 7; person++) {
            CHECK.due("none of " + person, x.home(person), -1);
        }
        CHECK.due("all is done", x.total(3), 10);
        Check.law(x, "by light;");
        CHECK.due("the last told is the last done", x.total(3), 10);
        Check.mill(x, "sack 9 of 0 at 0;sack 1 of 0 at 0;");
        CHECK.due("the first told is the last done", x.total(3), 10);
    }

    private static void longest() {
        CHECK.due("the first of like ones", with("sack 2 of 0 at 0;sack 2 of 0 at 2;", "").longest(), 0);
        CHECK.due("a minute longer", with("sack 2 of 0 at 0;sack 3 of 0 at 2;", "").longest(), 1);
        CHECK.due("one alone", with("sack 1 of 0 at 600;", "").longest(), 0);
    }

    private static void minutes() {
        LightestSack x = with("sack 3 of 0 at 4;", "");
        int[][] due = {{3, 0, 0}, {4, 1, 1}, {6, 1, 1}, {7, 0, 0}};
        for (int[] row : due) {
            CHECK.due("stones at " + row[0], x.stands(row[0], 2), row[1]);
            CHECK.due("sacks at " + row[0], x.stands(row[0], 3), row[2]);
            CHECK.due("pieces at " + row[0], x.stands(row[0], 0), 0);
        }
        Check.part(x, 0, 0, 1, 2);
        int[][] parted = {{3, 0, 0, 0, 0}, {4, 1, 2, 1, 1}, {5, 0, 0, 1, 1}, {6, 0, 0, 1, 1},
            {7, 0, 0, 0, 0}};
        for (int[] row : parted) {
            for (int what = 0; what < 4; what++) {
                CHECK.due("parted, at " + row[0] + " " + what, x.stands(row[0], what), row[what + 1]);
            }
        }
    }

    private static void judged() {
        LightestSack x = with("sack 3 of 0 at 0;sack 2 of 0 at 0;sack 1 of 0 at 0;", "by light;");
        int[][] rows = {{2, 1, 0}, {2, 1}, {2, 1, 0, 0}, {2, 0, 1}, {0, 1, 2}, {2, 1, -1}, {2, 1, 256},
            {}, {2, 1, 3}, {2}};
        int[] places = {-1, 2, 3, 1, 0, 2, 2, 0, 2, 1};
        int[] which = {-1, 0, -1, 1, 2, 0, 0, 2, 0, 1};
        for (int i = 0; i < rows.length; i++) {
            Check.lay(x, 0, rows[i]);
            CHECK.due("judge 0 of row " + i, x.judge(0, 0), places[i]);
            CHECK.due("judge 1 of row " + i, x.judge(0, 1), which[i]);
        }
        x.tray(0, 3, 3);
        x.write(0, 0, 2);
        x.write(0, 1, 1);
        x.write(0, 2, 1L << 32);
        CHECK.due("a long that is 0 as an int", x.judge(0, 0), 2);
        CHECK.due("no order", x.cost(0), -1);
        CHECK.due("fits nothing", x.fits(0), 0);
        CHECK.due("no swap", x.swap(0, 0), 0);
        x.tray(0, 0, 60);
        CHECK.due("pour into 60 places", x.pour(0), 3);
        CHECK.due("57 too many", x.judge(0, 0), 3);
        CHECK.due("57 too many, which", x.judge(0, 1), -1);
    }

    private static void orders() {
        LightestSack x = with("stone 3;stone 1;clean 2;sack 1 of 0 at 0 sort 1;"
                + "sack 2 of 0 at 5;sack 1 of 0 at 0 worth 2;", "");
        int[][] wrong = {{}, {0, 1}, {0, 1, 1}, {0, 1, 3}, {0, 1, -1}, {0, 1, 2, 2}, {0, 1, 2, 3},
            {0, 0, 0}, {1, 2, 3}, {MAX, 1, 2}, {MIN, 1, 2}};
        for (int i = 0; i < wrong.length; i++) {
            Check.lay(x, 0, wrong[i]);
            CHECK.due("no order " + i, x.cost(0), -1);
            CHECK.due("no order " + i + " fits", x.fits(0), 0);
            if (wrong[i].length > 1) {
                CHECK.due("swap of no order " + i, x.swap(0, wrong[i].length - 2), 0);
            }
        }
        // Stone 0 alone: 0 to 3; cleaned to 5, up to 8; piece 1 from 8 to 14.
        Check.lay(x, 0, 0, 2, 1);
        CHECK.due("cost", x.cost(0), 3 + 16 + 9);
        // 0 to 3; cleaned to 7 from 5 on, up to 13; up to 16.
        CHECK.due("swap of the last two", x.swap(0, 1), 3 + 8 + 32 - 28);
        // 2: 0 to 3, cleaned to 5, sack 0 up to 8; cleaned to 10, up to 16.
        CHECK.due("swap of the first two", x.swap(0, 0), 6 + 8 + 11 - 28);
        CHECK.due("the tray stays", x.cost(0), 28);
        Check.mill(x, "sack 4 of 0 at 600;");
        Check.lay(x, 0, 0);
        CHECK.due("the first at 0, but not before it comes", x.cost(0), 4);
        for (int sort = 0; sort < 4; sort++) {
            x.tray(0, sort, 1);
            CHECK.due("an order of sort " + sort, x.cost(0), 4);
        }
    }

    private static void best() {
        LightestSack x = with("sack 2 of 0 at 0;".repeat(8), "");
        CHECK.due("eight pieces", x.best(-1), 2 * 36);
        for (int k = 0; k < 8; k++) {
            CHECK.due("the first of like ones " + k, x.best(k), k);
        }
        for (int k : new int[] {8, 9, -2, -3, MIN, MAX}) {
            CHECK.due("not so many: " + k, x.best(k), -1);
        }
        Check.part(x, 7, 0, 1, 1);
        for (int k : new int[] {-1, 0, 8, 9, -2, MIN, MAX}) {
            CHECK.due("nine pieces: " + k, x.best(k), -2);
        }
        CHECK.due("nine pieces: gap", x.gap(), -2);
        x.whole();
        CHECK.due("eight again", x.best(7), 7);
        Check.mill(x, "sack 8 of 0 at 0;");
        Check.part(x, 0, 0, 1, 1, 1, 1, 1, 1, 1, 1);
        CHECK.due("eight pieces of one", x.best(-1), 8);
        CHECK.due("the last of eight", x.best(7), 7);
        Check.mill(x, "sack 5 of 0 at 0;");
        CHECK.due("one piece", x.best(0), 0);
        CHECK.due("one piece: no second", x.best(1), -1);
        Check.mill(x, "sack 2 of 0 at 0;sack 1 of 0 at 0;sack 3 of 0 at 0;");
        CHECK.due("lightest first", x.best(0) * 100 + x.best(1) * 10 + x.best(2), 102);
    }

    private static void gap() {
        LightestSack x = with("sack 9 of 0 at 0;" + "sack 1 of 0 at 0;".repeat(7), "");
        CHECK.due("eight pieces: gap", x.gap(), 9 * 8 + 28 - (28 + 16));
        Check.law(x, "by light;");
        CHECK.due("no gap", x.gap(), 0);
        Check.mill(x, "stone 1;" + "sack 1 of 0 at 0;".repeat(8));
        CHECK.due("one stone told", x.gap(), 0);
        Check.mill(x, "stone 1;stone 1;" + "sack 1 of 0 at 0;".repeat(8));
        CHECK.due("two stones", x.gap(), -1);
        Check.mill(x, "stone 1;stone 1;stone 1;" + "sack 1 of 0 at 0;".repeat(9));
        CHECK.due("three stones and nine pieces", x.gap(), -1);
        Check.mill(x, "stone 1;" + "sack 1 of 0 at 0;".repeat(9));
        CHECK.due("one stone and nine pieces", x.gap(), -2);
        Check.mill(x, "stone 1;stone 1;");
        CHECK.due("two stones, no sacks", x.gap(), -1);
    }

    private static void counts() {
        LightestSack x = with("stone 1;clean 2;stone 3;fee 4;sack 2 of 0 at 0;sack 1 of 0 at 0;",
                "by due then late;by same;small 8;");
        Check.part(x, 0, 0, 1, 1);
        Check.feed(x, " ");
        int[] due = {6, 2, 2, 4, 2, 3, 3, 8, 20};
        for (int what = 0; what < 9; what++) {
            CHECK.due("count " + what, x.count(what), due[what]);
        }
        for (int what : new int[] {-1, 9, 10, MIN, MAX}) {
            CHECK.due("count " + what, x.count(what), -1);
        }
        for (int what : new int[] {-1, 6, 7, MIN, MAX}) {
            CHECK.due("total " + what, x.total(what), -1);
        }
        CHECK.due("whole: how many weren't", x.whole(), 1);
        CHECK.due("whole: none", x.whole(), 0);
        Check.part(x, 0, 0, 2);
        CHECK.due("parted into one piece is whole", x.whole(), 0);
    }
}
