import java.util.NoSuchElementException;

/** Promises 6 to 38: small mills whose answers were found by hand, and the edges that are told. */
public final class PromiseTest {
    private static final Check CHECK = new Check("PromiseTest");
    private static final Class<IllegalArgumentException> ARGUMENT = IllegalArgumentException.class;
    private static final Class<IllegalStateException> STATE = IllegalStateException.class;
    private static final Class<NoSuchElementException> NO_SUCH = NoSuchElementException.class;

    public static void main(String[] args) {
        sacks();
        parts();
        mostPieces();
        run();
        cleaning();
        keys();
        aheads();
        orders();
        spentOrders();
        partings();
        settling();
        fees();
        whens();
        lending();
        laws();
        days();
        trays();
        images();
        CHECK.end();
    }

    private static String many(int many, String line) {
        StringBuilder text = new StringBuilder();
        for (int i = 0; i < many; i++) {
            text.append(line);
        }
        return text.toString();
    }

    private static void sacks() {
        LightestSack x = Check.with("sack 5 of 3 at 7;sack 99 of 7 at 600 sort 3 worth 9 home 0;");
        int[][] due = {{5, 3, 7, 0, 1, -1, 1, 0}, {99, 7, 600, 3, 9, 0, 1, 1}};
        for (int s = 0; s < 2; s++) {
            for (int what = 0; what < 8; what++) {
                CHECK.due("sack " + s + " " + what, x.sack(s, what), due[s][what]);
            }
        }
        CHECK.dueThrow("sack(2, 9)", NO_SUCH, () -> x.sack(2, 9));
        CHECK.dueThrow("sack(-1, 0)", NO_SUCH, () -> x.sack(-1, 0));
        CHECK.dueThrow("sack(0, 8)", ARGUMENT, () -> x.sack(0, 8));
        CHECK.dueThrow("sack(0, -1)", ARGUMENT, () -> x.sack(0, -1));
        CHECK.dueThrow("piece(2, 9)", NO_SUCH, () -> x.piece(2, 9));
        CHECK.dueThrow("piece(-1, 0)", NO_SUCH, () -> x.piece(-1, 0));
        CHECK.dueThrow("piece(0, 5)", ARGUMENT, () -> x.piece(0, 5));
        CHECK.dueThrow("piece(0, -1)", ARGUMENT, () -> x.piece(0, -1));
    }

    private static void parts() {
        LightestSack x = Check.with("sack 9 of 0 at 0;sack 4 of 0 at 0;");
        CHECK.dueThrow("part of no sack", NO_SUCH, () -> x.part(2, 0));
        CHECK.dueThrow("part by no tray", NO_SUCH, () -> x.part(0, 4));
        CHECK.dueThrow("part by no tray below", NO_SUCH, () -> x.part(0, -1));
        CHECK.dueThrow("part by a missing tray", STATE, () -> x.part(0, 3));
        Check.lay(x, 0, 2, 4, 3);
        CHECK.due("part", x.part(0, 0), 4);
        CHECK.due("as told, not sorted", x.piece(1, 1), 4);
        CHECK.due("first of the next", x.sack(1, 7), 3);
        CHECK.due("pieces of it", x.sack(0, 6), 3);
        CHECK.due("pounds stay", x.sack(0, 0), 9);
        int[][] wrong = {{}, {9, 0}, {10, -1}, {4, 4}, {5, 5}, {2, 1, 1, 1, 1, 1, 1, 1, 0},
            {1, 1, 1, 1, 1, 1, 1, 1, 1}, {10}};
        for (int[] way : wrong) {
            Check.lay(x, 0, way);
            CHECK.dueThrow("a wrong parting", ARGUMENT, () -> x.part(0, 0));
        }
        CHECK.due("nothing changed", x.count(5), 4);
        x.tray(0, 3, 2);
        x.write(0, 0, 9 + (1L << 32));
        x.write(0, 1, -(1L << 32));
        CHECK.dueThrow("long numbers", ARGUMENT, () -> x.part(0, 0));
        Check.lay(x, 0, 2, 1, 1, 1, 1, 1, 1, 1);
        CHECK.due("eight pieces", x.part(0, 0), 9);
        Check.lay(x, 0, 9);
        CHECK.due("one piece", x.part(0, 0), 2);
        CHECK.due("is whole", x.whole(), 0);
        Check.lay(x, 0, 2, 2);
        x.part(1, 0);
        CHECK.due("whole", x.whole(), 1);
        CHECK.due("whole again", x.whole(), 0);
        CHECK.due("two pieces", x.count(5), 2);
    }

    private static void mostPieces() {
        LightestSack x = Check.with(many(24, "sack 8 of 0 at 0;"));
        Check.lay(x, 0, 1, 1, 1, 1, 1, 1, 1, 1);
        for (int s = 0; s < 5; s++) {
            CHECK.due("parts", x.part(s, 0), 24 + 7 * (s + 1));
        }
        CHECK.dueThrow("66 pieces", ARGUMENT, () -> x.part(5, 0));
        Check.lay(x, 1, 4, 4);
        CHECK.due("60 pieces", x.part(5, 1), 60);
        CHECK.dueThrow("61 pieces", ARGUMENT, () -> x.part(6, 1));
        CHECK.due("the same again", x.part(5, 1), 60);
        CHECK.due("no room: pieces", x.parting(6, 6, 1), 1);
        CHECK.due("no room: pounds", x.parting(6, 6, 10), 8);
        CHECK.due("no room: no second", x.parting(6, 6, 11), -1);
        CHECK.due("last begun", x.order(59), 59);
        CHECK.due("no more", x.order(60), -1);
        CHECK.due("strangers have no room", x.day(0, 1, 100, 1), x.waits(0));
    }

    private static void run() {
        LightestSack x = Check.with("stone 2;stone 1;sack 3 of 0 at 5;sack 2 of 1 at 5;sack 9 of 2 at 6;"
                + "fee 7;", "by early;");
        // Both are free at 5: stone 0 takes sack 0 to 11, stone 1 sack 1 to 7, then sack 2 to 16.
        int[][] due = {{0, 3, 5, 11, 0}, {1, 2, 5, 7, 1}, {2, 9, 7, 16, 1}};
        for (int p = 0; p < 3; p++) {
            for (int what = 0; what < 5; what++) {
                CHECK.due("piece " + p + " " + what, x.piece(p, what), due[p][what]);
            }
        }
        int[] totals = {6 + 2 + 10, 18, 0, 16, 21, 0};
        for (int what = 0; what < 6; what++) {
            CHECK.due("total " + what, x.total(what), totals[what]);
        }
        CHECK.due("total(-1)", x.total(-1), -1);
        CHECK.due("longest", x.longest(), 2);
        CHECK.due("order(-1)", x.order(-1), -1);
        CHECK.due("home(2)", x.home(2), 16);
        CHECK.due("home(7)", x.home(7), -1);
        CHECK.dueThrow("home(-1)", ARGUMENT, () -> x.home(-1));
        CHECK.dueThrow("end(3)", NO_SUCH, () -> x.end(3));
        CHECK.dueThrow("waits(-1)", NO_SUCH, () -> x.waits(-1));
        CHECK.dueThrow("stands(0, 4)", ARGUMENT, () -> x.stands(0, 4));
        CHECK.dueThrow("stands(0, -1)", ARGUMENT, () -> x.stands(0, -1));
        int[][] stands = {{4, 0, 0, 0, 0}, {5, 0, 0, 2, 2}, {6, 1, 9, 2, 3}, {7, 0, 0, 2, 2},
            {11, 0, 0, 1, 1}, {15, 0, 0, 1, 1}, {16, 0, 0, 0, 0}, {Integer.MAX_VALUE, 0, 0, 0, 0}};
        for (int[] row : stands) {
            for (int what = 0; what < 4; what++) {
                CHECK.due("stands " + row[0] + " " + what, x.stands(row[0], what), row[what + 1]);
            }
        }
        LightestSack y = Check.with("sack 5 of 0 at 0 home 5;sack 1 of 0 at 0 home 5;sack 5 of 0 at 1;");
        CHECK.due("late above home alone", y.total(2), 1);
        CHECK.due("last of a person", y.home(0), 11);
        CHECK.due("first of the longest", y.longest(), 2);
        LightestSack z = Check.with("sack 5 of 0 at 0;sack 5 of 0 at 5;");
        CHECK.due("the first of like waits", z.longest(), 0);
    }

    private static void cleaning() {
        LightestSack x = Check.with("clean 4;stone 1;stone 1;sack 2 of 0 at 0 sort 1;sack 9 of 0 at 0;"
                + "sack 3 of 0 at 1;sack 1 of 0 at 3 sort 1;");
        // Stone 0: sack 0 to 2, cleaned from 2 to 6 for sack 2, which is done at 9, then again.
        CHECK.due("begun behind cleaning", x.piece(2, 2), 6);
        CHECK.due("done", x.piece(2, 3), 9);
        CHECK.due("minutes of cleaning", x.total(5), 8);
        CHECK.due("cleaned for it: stands no more", x.stands(3, 0), 1);
        CHECK.due("cleaned for it: pounds", x.stands(3, 1), 1);
        CHECK.due("cleaned for it: stones", x.stands(3, 2), 2);
        CHECK.due("cleaned for it: sacks", x.stands(3, 3), 3);
        CHECK.due("taken first is begun first", x.order(2), 2);
        CHECK.due("cleaned again", x.piece(3, 2), 13);
    }

    private static void dueOrder(String law, String mill, int... order) {
        LightestSack x = Check.with(mill, law);
        for (int k = 0; k < order.length; k++) {
            CHECK.due(law + " " + mill + " order " + k, x.order(k), order[k]);
        }
        CHECK.due(law + " " + mill + " no more", x.order(order.length), -1);
    }

    private static void keys() {
        String three = "sack 4 of 0 at 0;sack 2 of 0 at 0;sack 3 of 0 at 0;";
        dueOrder("by light;", three, 1, 2, 0);
        dueOrder("by light;small 3;", three, 1, 2, 0);
        dueOrder("by light;small 4;", three, 0, 1, 2);
        dueOrder("by heavy;", three, 0, 2, 1);
        dueOrder("by heavy;small 3;", three, 0, 1, 2);
        dueOrder("", three, 0, 1, 2);
        String coming = "sack 9 of 0 at 0;sack 1 of 0 at 3;sack 1 of 0 at 2;sack 1 of 0 at 5;";
        dueOrder("by early;", coming, 0, 2, 1, 3);
        dueOrder("by late;", coming, 0, 3, 1, 2);
        String worths = "sack 4 of 0 at 0 worth 2;sack 2 of 0 at 0 worth 1;sack 3 of 0 at 0 worth 2;";
        dueOrder("by dear;small 9;", worths, 2, 0, 1);
        dueOrder("by dear then light;", worths, 2, 1, 0);
        dueOrder("by due;", "sack 1 of 0 at 0;sack 1 of 0 at 0 home 999;sack 1 of 0 at 0 home 0;",
                2, 1, 0);
        dueOrder("by turn;", "sack 1 of 0 at 0;sack 1 of 0 at 0;sack 1 of 1 at 0;sack 1 of 0 at 0;"
                + "sack 1 of 1 at 0;", 0, 2, 1, 4, 3);
        dueOrder("by same;", "sack 1 of 0 at 0 sort 1;sack 1 of 0 at 0;sack 1 of 0 at 0 sort 1;"
                + "sack 1 of 0 at 0 sort 2;sack 1 of 0 at 0;", 0, 2, 1, 4, 3);
        // On all stones: person 0 has one begun, so stone 1 takes another person's at 0.
        dueOrder("by turn;", "stone 1;stone 1;sack 5 of 0 at 0;sack 5 of 0 at 0;sack 5 of 1 at 0;",
                0, 2, 1);
        // On that stone: stone 1 had nothing yet, so all are others to it.
        dueOrder("by same then heavy;", "stone 1;stone 1;sack 5 of 0 at 0 sort 1;"
                + "sack 4 of 0 at 0 sort 2;sack 3 of 0 at 0 sort 1;sack 2 of 0 at 0 sort 2;", 0, 1, 3, 2);
    }

    private static void aheads() {
        LightestSack x = Check.with("sack 4 of 0 at 0 sort 1;sack 4 of 1 at 9;sack 5 of 0 at 0 sort 1;",
                "by turn then same then light then early;");
        CHECK.due("by the fourth", x.ahead(0, 1), 4);
        CHECK.due("the other by the fourth", x.ahead(1, 0), -4);
        CHECK.due("by the third", x.ahead(1, 2), 3);
        CHECK.due("itself", x.ahead(2, 2), 0);
        CHECK.dueThrow("ahead(0, 3)", NO_SUCH, () -> x.ahead(0, 3));
        CHECK.dueThrow("ahead(3, 0)", NO_SUCH, () -> x.ahead(3, 0));
        Check.law(x, "small 99;by heavy;");
        CHECK.due("all small", x.ahead(0, 2), 0);
    }

    private static void orders() {
        LightestSack x = Check.with("stone 2;clean 1;sack 3 of 0 at 0;sack 1 of 0 at 2 sort 1 worth 5;");
        Check.lay(x, 0, 0, 1);
        // 0 to 6; cleaned to 7, done at 9: 6 + 5 * 7.
        CHECK.due("cost", x.cost(0), 41);
        // The other way: begins at 2, 2 to 4; cleaned to 5, done at 11: 5 * 2 + 11.
        CHECK.due("swap", x.swap(0, 0), -20);
        CHECK.due("best", x.best(-1), 21);
        CHECK.due("best 0", x.best(0), 1);
        CHECK.due("best 2", x.best(2), -1);
        CHECK.due("best -2", x.best(-2), -1);
        CHECK.due("gap", x.gap(), 20);
        CHECK.dueThrow("swap(0, 1)", IndexOutOfBoundsException.class, () -> x.swap(0, 1));
        CHECK.dueThrow("swap(0, -1)", IndexOutOfBoundsException.class, () -> x.swap(0, -1));
        int[][] wrong = {{}, {0}, {0, 0}, {0, 2}, {-1, 0}, {0, 1, 2}, {0, 1, 0}};
        for (int[] row : wrong) {
            Check.lay(x, 1, row);
            CHECK.due("no order", x.cost(1), -1);
            CHECK.due("fits none", x.fits(1), 0);
            if (row.length > 1) {
                CHECK.due("swap of no order", x.swap(1, 0), 0);
            }
        }
        CHECK.dueThrow("cost of a missing tray", STATE, () -> x.cost(3));
        CHECK.dueThrow("cost of no tray", NO_SUCH, () -> x.cost(4));
        CHECK.dueThrow("judge of a missing tray", STATE, () -> x.judge(3, 9));
        CHECK.dueThrow("judge 2", ARGUMENT, () -> x.judge(0, 2));
        CHECK.due("judge", x.judge(0, 0), -1);
        Check.lay(x, 1, 0, 1, 7);
        CHECK.due("one too many: place", x.judge(1, 0), 2);
        CHECK.due("one too many: none", x.judge(1, 1), -1);
        Check.lay(x, 1);
        CHECK.due("too few: place", x.judge(1, 0), 0);
        CHECK.due("too few: piece", x.judge(1, 1), 0);
        x.tray(1, 3, 2);
        x.write(1, 0, 1L << 32);
        x.write(1, 1, 1);
        CHECK.due("a long number is no piece", x.judge(1, 0), 0);
        CHECK.due("a long number is no order", x.cost(1), -1);
        LightestSack none = new LightestSack();
        none.tray(0, 0, 0);
        CHECK.due("an order of none", none.cost(0), 0);
        CHECK.due("an order of none fits all", none.fits(0), 255);
        CHECK.due("an order of none is judged", none.judge(0, 0), -1);
        LightestSack like = Check.with(many(3, "sack 2 of 0 at 0;"));
        CHECK.due("the first of like ones", like.best(0) * 100 + like.best(1) * 10 + like.best(2), 12);
    }

    private static void spentOrders() {
        LightestSack x = Check.with(many(9, "sack 1 of 0 at 0;"));
        CHECK.due("nine: cost", x.best(-1), -2);
        CHECK.due("nine: piece", x.best(0), -2);
        CHECK.due("nine: beyond", x.best(9), -2);
        CHECK.due("nine: gap", x.gap(), -2);
        Check.mill(x, "stone 1;stone 1;" + many(9, "sack 1 of 0 at 0;"));
        CHECK.due("nine on two stones: gap", x.gap(), -1);
        Check.mill(x, "stone 1;stone 1;" + many(8, "sack 1 of 0 at 0;"));
        CHECK.due("eight on stone 0 alone", x.best(-1), 36);
        CHECK.due("eight: the last", x.best(7), 7);
        CHECK.due("eight: no gap", x.gap(), -1);
    }

    private static void partings() {
        LightestSack x = Check.with("sack 31 of 0 at 0 worth 2;fee 4;sack 6 of 0 at 0;");
        CHECK.due("31 pounds", x.parting(0, 2, 0), -2);
        CHECK.due("31 pounds, a piece", x.parting(0, 6, 15), -2);
        CHECK.due("31 pounds whole", x.parting(0, 1, 0), 2 * 37 + 4);
        CHECK.due("31 pounds whole, pieces", x.parting(0, 1, 1), 1);
        CHECK.due("31 pounds whole, pounds", x.parting(0, 1, 10), 31);
        CHECK.due("31 pounds whole, no more", x.parting(0, 1, 11), -1);
        CHECK.dueThrow("parting(2, 1, 0)", NO_SUCH, () -> x.parting(2, 0, 0));
        CHECK.dueThrow("parting(0, 0, 0)", ARGUMENT, () -> x.parting(0, 0, 0));
        CHECK.dueThrow("parting(0, 7, 0)", ARGUMENT, () -> x.parting(0, 7, 0));
        CHECK.dueThrow("parting(0, 2, 2)", ARGUMENT, () -> x.parting(0, 2, 2));
        CHECK.dueThrow("parting(0, 2, 16)", ARGUMENT, () -> x.parting(0, 2, 16));
        CHECK.dueThrow("parting(0, 2, -1)", ARGUMENT, () -> x.parting(0, 2, -1));
        // Two sacks on two stones: 10 pounds in two go on both of them.
        LightestSack y = Check.with("stone 1;stone 1;sack 10 of 0 at 0;");
        CHECK.due("two stones: price", y.parting(0, 6, 0), 5);
        CHECK.due("two stones: the fewest pieces", y.parting(0, 6, 1), 2);
        CHECK.due("two stones: 5", y.parting(0, 6, 10), 5);
        Check.mill(y, "stone 1;stone 1;stone 1;fee 3;sack 9 of 0 at 0;");
        CHECK.due("the third isn't worth its fee", y.parting(0, 6, 1), 2);
        CHECK.due("its price", y.parting(0, 6, 0), 5 + 6);
        CHECK.due("as is: nothing was parted", y.count(5), 1);
        // 3 pounds on one stone: any way waits 3, so it stays whole; never more pieces than pounds.
        Check.mill(y, "sack 3 of 0 at 0;");
        CHECK.due("no use", y.parting(0, 6, 1), 1);
        Check.mill(y, "stone 1;stone 9;sack 8 of 0 at 0;");
        // By light alone the lesser ones go first; the greater first piece is chosen of like ones.
        CHECK.due("never to the slow stone", y.parting(0, 2, 10), 8);
    }

    private static void settling() {
        LightestSack x = Check.with(many(13, "sack 3 of 0 at 0;"));
        CHECK.due("13 sacks", x.settle(1), -2);
        Check.mill(x, many(12, "sack 3 of 0 at 0;"));
        CHECK.due("12 sacks", x.settle(1), 1);
        Check.mill(x, "sack 31 of 0 at 0;");
        CHECK.due("31 pounds, even whole", x.settle(1), -2);
        CHECK.dueThrow("settle(0)", ARGUMENT, () -> x.settle(0));
        CHECK.dueThrow("settle(4)", ARGUMENT, () -> x.settle(4));
        Check.mill(x, "sack 4 of 0 at 0;sack 3 of 1 at 0;");
        Check.law(x, "by light;");
        Check.lay(x, 0, 1, 1, 1, 1);
        x.part(0, 0);
        CHECK.due("with 1 nobody parts", x.settle(1), 1);
        CHECK.due("and as it is stays", x.count(5), 5);
        Check.mill(x, "fee 2;sack 4 of 0 at 0;");
        x.part(0, 0);
        CHECK.due("a lesser price by becoming whole", x.settle(1), 2);
        CHECK.due("it is whole", x.count(5), 1);
        Check.mill(x, "clean 1;fee 2;sack 9 of 0 at 1;sack 7 of 1 at 1 sort 1;");
        CHECK.due("no end in 10 rounds", x.settle(3), -2);
        CHECK.due("nothing is parted", x.count(5), 2);
        LightestSack y = Check.with("stone 1;clean 4;fee 5;sack 11 of 2 at 4 worth 3;sack 11 of 0 at 3 worth 3;"
                + "sack 5 of 2 at 3 sort 2 worth 2;", "by same;by same;by light;");
        CHECK.due("an end in the tenth round", y.settle(2), 10);
        LightestSack z = Check.with("stone 3;stone 2;clean 5;fee 4;sack 14 of 0 at 3 sort 2 worth 2;"
                + "sack 7 of 2 at 0 sort 1 worth 2;sack 8 of 0 at 0 sort 1 worth 2;"
                + "sack 3 of 2 at 5 worth 4;", "by light;by early;");
        CHECK.due("an end in the eleventh were too late", z.settle(3), -2);
        CHECK.due("all are whole still", z.whole(), 0);
    }

    private static void fees() {
        LightestSack x = Check.with("stone 9;stone 9;sack 30 of 0 at 0 worth 9;");
        // Whole it waits 270, in two 135: 9 * 135.
        CHECK.due("above 99", x.fee(2), 1215);
        Check.lay(x, 0, 15, 15);
        x.part(0, 0);
        CHECK.due("all being whole", x.fee(2), 1215);
        CHECK.due("and parted as before", x.count(5), 2);
        Check.mill(x, "stone 9;stone 9;sack 31 of 0 at 0 worth 9;");
        CHECK.due("31 pounds don't count", x.fee(3), 0);
        Check.mill(x, "stone 1;stone 1;stone 1;sack 6 of 0 at 0;");
        // In two it gains 3, in three 4 by two fees.
        CHECK.due("fee(3)", x.fee(3), 3);
        CHECK.dueThrow("fee(1)", ARGUMENT, () -> x.fee(1));
        CHECK.dueThrow("fee(4)", ARGUMENT, () -> x.fee(4));
    }

    private static void whens() {
        LightestSack x = Check.with("sack 9 of 0 at 0;sack 5 of 0 at 20 home 14;sack 3 of 0 at 0 home 2;");
        CHECK.due("latest not late", x.when(1, 0), 3);
        CHECK.due("never in time", x.when(2, 0), -1);
        CHECK.due("never late", x.when(0, 0), 600);
        CHECK.due("first with the least wait", x.when(1, 1), 3);
        CHECK.due("it comes as before", x.sack(1, 2), 20);
        Check.mill(x, "sack 5 of 0 at 9 home 5;");
        CHECK.due("in time at 0 alone", x.when(0, 0), 0);
        CHECK.due("the first minute", x.when(0, 1), 0);
        Check.mill(x, "sack 5 of 0 at 9 home 605;");
        CHECK.due("in time up to 600", x.when(0, 0), 600);
        Check.mill(x, "sack 5 of 0 at 9 home 604;");
        CHECK.due("in time up to 599", x.when(0, 0), 599);
        Check.mill(x, many(3, "sack 5 of 0 at 9;"));
        CHECK.dueThrow("when(3, 2)", NO_SUCH, () -> x.when(3, 2));
        CHECK.dueThrow("when(0, 2)", ARGUMENT, () -> x.when(0, 2));
        CHECK.dueThrow("when(0, -1)", ARGUMENT, () -> x.when(0, -1));
        LightestSack y = Check.with("sack 5 of 0 at 0 home 20;sack 4 of 0 at 0 home 3;sack 7 of 0 at 0;");
        // Up to 7 it goes ahead of the 7 pounds; from 8 on it waits for 11 minutes.
        CHECK.due("heaviest", y.heaviest(0), 9);
        CHECK.due("heaviest in time", y.heaviest(1), 3);
        CHECK.due("heaviest of all", y.heaviest(2), 99);
        Check.law(y, "by heavy;");
        CHECK.due("the heavier is the earlier", y.heaviest(0), 20);
        CHECK.dueThrow("heaviest(3)", NO_SUCH, () -> y.heaviest(3));
        LightestSack z = Check.with("sack 5 of 0 at 9 home 9;");
        CHECK.due("heaviest: none", z.heaviest(0), -1);
    }

    private static void lending() {
        LightestSack x = Check.with("sack 5 of 0 at 0;sack 98 of 0 at 0;sack 2 of 0 at 0;");
        CHECK.due("lend", x.lend(0, 2, 1), 1);
        CHECK.due("lend one up to 99", x.lend(0, 1, 1), -1);
        CHECK.dueThrow("above 99", ARGUMENT, () -> x.lend(0, 1, 2));
        CHECK.dueThrow("leaves nothing", ARGUMENT, () -> x.lend(2, 0, 2));
        CHECK.dueThrow("lend 0", ARGUMENT, () -> x.lend(0, 2, 0));
        CHECK.dueThrow("lend much", ARGUMENT, () -> x.lend(0, 2, Integer.MAX_VALUE));
        CHECK.dueThrow("lend less", ARGUMENT, () -> x.lend(0, 2, Integer.MIN_VALUE));
        CHECK.dueThrow("to itself", ARGUMENT, () -> x.lend(0, 0, 1));
        CHECK.dueThrow("of none", NO_SUCH, () -> x.lend(3, 0, 1));
        CHECK.dueThrow("to none", NO_SUCH, () -> x.lend(0, 3, 1));
        Check.lay(x, 0, 3, 2);
        x.part(0, 0);
        CHECK.dueThrow("a parted one", STATE, () -> x.lend(1, 0, 1));
        CHECK.dueThrow("of a parted one", STATE, () -> x.lend(0, 0, 0));
        CHECK.due("pounds stay", x.sack(2, 0), 2);
    }

    private static void laws() {
        LightestSack x = Check.with("sack 5 of 0 at 0;sack 2 of 0 at 0 worth 3;", "small 5;by heavy;");
        // Small stays: by light and by heavy all are like.
        CHECK.due("by light", x.by(0), 26);
        CHECK.due("by dear", x.by(4), 13);
        CHECK.due("the best", x.bestLaw(), 4);
        CHECK.due("the law stays", x.ahead(0, 1), 0);
        CHECK.dueThrow("by(-1)", ARGUMENT, () -> x.by(-1));
        CHECK.dueThrow("by(8)", ARGUMENT, () -> x.by(8));
        Check.lay(x, 0, 1, 0);
        CHECK.due("fits", x.fits(0), 1 << 4);
        Check.lay(x, 0, 0, 1);
        CHECK.due("fits the others", x.fits(0), 255 - (1 << 4));
        CHECK.dueThrow("fits of a missing tray", STATE, () -> x.fits(1));
        CHECK.dueThrow("fits of no tray", NO_SUCH, () -> x.fits(-1));
    }

    private static void days() {
        LightestSack x = Check.with("sack 5 of 0 at 0;sack 40 of 0 at 0;");
        // At seed 0 the draws are 12345 >>> 16 = 0, then ((1103515245 * 12345) + 12345) >>> 16 = 21468.
        CHECK.due("a stranger of 1 pound comes at 0", x.day(0, 0, 1, 1), 6);
        CHECK.due("21468 modulo 99 and 1: 85 pounds", x.day(1, 0, 1, 99), 45);
        CHECK.due("21468 modulo 4 and 1: 1 pound", x.day(0, 0, 1, 4), 6);
        CHECK.due("none comes", x.day(1, 7, 0, 9), 45);
        CHECK.due("one a minute, all lighter", x.day(1, 7, 100, 1) > 60 ? 1 : 0, 1);
        CHECK.due("58 of them", x.day(1, 7, 100, 1), 5 + 58 + 40);
        CHECK.dueThrow("day of none", NO_SUCH, () -> x.day(2, 0, -1, 0));
        CHECK.dueThrow("come 101", ARGUMENT, () -> x.day(0, 0, 101, 1));
        CHECK.dueThrow("come -1", ARGUMENT, () -> x.day(0, 0, -1, 1));
        CHECK.dueThrow("greatest 0", ARGUMENT, () -> x.day(0, 0, 1, 0));
        CHECK.dueThrow("greatest 100", ARGUMENT, () -> x.day(0, 0, 1, 100));
        int longest = 0;
        int first = 0;
        int together = 0;
        for (int seed = 1; seed <= 30; seed++) {
            int wait = x.day(1, seed, 20, 50);
            first = wait > longest ? seed : first;
            longest = Math.max(longest, wait);
            together += wait;
        }
        CHECK.due("days: longest", x.days(1, 30, 20, 50, 0), longest);
        CHECK.due("days: first", x.days(1, 30, 20, 50, 1), first);
        CHECK.due("days: together", x.days(1, 30, 20, 50, 2), together);
        CHECK.due("days: all like", x.days(1, 30, 0, 50, 1), 1);
        CHECK.dueThrow("days of none", NO_SUCH, () -> x.days(2, 0, 0, 0, 9));
        CHECK.dueThrow("0 days", ARGUMENT, () -> x.days(0, 0, 1, 1, 0));
        CHECK.dueThrow("31 days", ARGUMENT, () -> x.days(0, 31, 1, 1, 0));
        CHECK.dueThrow("days what 3", ARGUMENT, () -> x.days(0, 1, 1, 1, 3));
        CHECK.dueThrow("days come", ARGUMENT, () -> x.days(0, 1, 101, 1, 0));
        CHECK.dueThrow("days greatest", ARGUMENT, () -> x.days(0, 1, 1, 0, 0));
        CHECK.due("no stranger stays", x.count(4), 2);
    }

    private static void trays() {
        LightestSack x = Check.with("sack 5 of 0 at 0;sack 2 of 0 at 0;sack 3 of 0 at 0;");
        long[][] cuts = {{0, 127, 127}, {0, 128, -128}, {0, 256, 0}, {0, -1, -1}, {1, 32768, -32768},
            {1, 65536 + 7, 7}, {2, 1L << 31, -(1L << 31)}, {2, 1L << 32, 0},
            {3, Long.MIN_VALUE, Long.MIN_VALUE}, {3, Long.MAX_VALUE, Long.MAX_VALUE}};
        for (long[] row : cuts) {
            x.tray(3, (int) row[0], 60);
            CHECK.due("write " + row[1] + " sort " + row[0], x.write(3, 59, row[1]), row[2]);
        }
        CHECK.dueThrow("place 60", IndexOutOfBoundsException.class, () -> x.write(3, 60, 0));
        CHECK.dueThrow("place -1", IndexOutOfBoundsException.class, () -> x.write(3, -1, 0));
        CHECK.dueThrow("missing", STATE, () -> x.write(2, -1, 0));
        CHECK.dueThrow("no tray", NO_SUCH, () -> x.write(4, -1, 0));
        CHECK.dueThrow("lay no tray", NO_SUCH, () -> x.tray(-1, 9, 99));
        CHECK.dueThrow("no sort 4", ARGUMENT, () -> x.tray(0, 4, 1));
        CHECK.dueThrow("no sort -1", ARGUMENT, () -> x.tray(0, -1, 1));
        CHECK.dueThrow("61 places", ARGUMENT, () -> x.tray(0, 0, 61));
        CHECK.dueThrow("-1 places", ARGUMENT, () -> x.tray(0, 0, -1));
        CHECK.dueThrow("it is missing still", STATE, () -> x.pour(0));
        CHECK.dueThrow("pour into none", NO_SUCH, () -> x.pour(9));
        Check.lay(x, 0, 9, 9, 9, 9, 9);
        CHECK.due("pour", x.pour(0), 3);
        CHECK.due("behind it all stays", x.judge(0, 0), 3);
        x.tray(0, 0, 2);
        CHECK.due("pour into few places", x.pour(0), 2);
        CHECK.due("judge: the next", x.judge(0, 1), 0);
        x.tray(0, 0, 3);
        x.pour(0);
        CHECK.due("poured is the run's", x.judge(0, 0), -1);
        x.tray(0, 0, 3);
        CHECK.due("laid anew: 0s", x.judge(0, 0), 0);
        LightestSack y = Check.with("sack 5 of 0 at 0;sack 9 of 0 at 0;");
        y.tray(0, 0, 2);
        y.write(0, 0, 256 + 4);
        y.write(0, 1, 1);
        CHECK.due("part by what is there", y.part(0, 0), 3);
    }

    private static void images() {
        LightestSack x = Check.with("stone 2;clean 3;fee 4;sack 6 of 1 at 2 sort 1 worth 2 home 40;"
                + "sack 4 of 0 at 0;", "by heavy then early;small 2;");
        Check.lay(x, 0, 2, 4);
        x.part(0, 0);
        x.image(1);
        CHECK.dueThrow("image(3)", NO_SUCH, () -> x.image(3));
        CHECK.dueThrow("image(-1)", NO_SUCH, () -> x.image(-1));
        CHECK.dueThrow("restore(3)", NO_SUCH, () -> x.restore(3));
        CHECK.dueThrow("restore(0)", STATE, () -> x.restore(0));
        int cost = x.total(1);
        x.image(2);
        Check.mill(x, "fee 1;sack 9 of 0 at 0;sack 9 of 0 at 0;sack 9 of 0 at 0;");
        Check.law(x, "by light;by");
        Check.law(x, "by due;");
        x.tray(0, 0, 7);
        Check.feed(x, "by same;");
        x.mill(2);
        Check.feed(x, "by same;");
        x.restore(1);
        int[] counts = {5, 1, 3, 4, 2, 3, 2, 2, 20};
        for (int what = 0; what < counts.length; what++) {
            CHECK.due("restored count " + what, x.count(what), counts[what]);
        }
        int[] sack = {6, 1, 2, 1, 2, 40, 2, 0};
        for (int what = 0; what < sack.length; what++) {
            CHECK.due("restored sack " + what, x.sack(0, what), sack[what]);
        }
        CHECK.due("restored cost", x.total(1), cost);
        CHECK.due("restored keys", x.ahead(0, 1), -1);
        CHECK.due("the fault stays", x.fault(0), 2);
        CHECK.due("the tray stays", x.pour(0), 3);
        CHECK.due("the tape stays", x.law(8), 1);
        x.whole();
        x.image(1);
        x.restore(2);
        CHECK.due("the other image", x.count(5), 3);
        x.restore(1);
        CHECK.due("the image made anew", x.count(5), 2);
        CHECK.due("the law of that image", x.count(6), 1);
    }
}
