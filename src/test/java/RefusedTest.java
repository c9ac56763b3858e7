import java.util.NoSuchElementException;

/**
 * Every throw that the document tells: the last argument on this side of a bound throws nothing, the
 * first one on the other side throws and changes nothing, and of several throws the first told comes.
 */
public final class RefusedTest {
    private static final Check CHECK = new Check("RefusedTest");
    private static final Class<IllegalArgumentException> ARGUMENT = IllegalArgumentException.class;
    private static final Class<IllegalStateException> STATE = IllegalStateException.class;
    private static final Class<NoSuchElementException> NO_SUCH = NoSuchElementException.class;
    private static final Class<IndexOutOfBoundsException> PLACE = IndexOutOfBoundsException.class;
    private static final int MIN = Integer.MIN_VALUE;
    private static final int MAX = Integer.MAX_VALUE;
    private static final String SEEN = Twins.seen(Twins.made());

    private interface Of {
        void call(LightestSack x, int v);
    }

    public static void main(String[] args) {
        texts();
        sacksAndPieces();
        parts();
        theRun();
        orders();
        partings();
        otherwise();
        strangers();
        traysAndImages();
        severalThrows();
        questions();
        changesAreSeen();
        CHECK.end();
    }

    private static void refused(String name, Class<? extends RuntimeException> due, Twins.On call) {
        LightestSack x = Twins.made();
        CHECK.dueThrow(name, due, () -> call.call(x));
        CHECK.due(name + " changed nothing", Twins.seen(x).equals(SEEN) ? 1 : 0, 1);
    }

    private static void taken(String name, Twins.On call) {
        LightestSack x = Twins.made();
        int thrown = 0;
        try {
            call.call(x);
        } catch (RuntimeException e) {
            thrown = 1;
            System.out.println(name + " threw " + e);
        }
        CHECK.due(name + " is taken", thrown, 0);
    }

    /** From least to most all are taken; just below, just above and far away none is. */
    private static void bounds(String name, int least, int most, Class<? extends RuntimeException> due,
            Of of) {
        for (int v = least; v <= most; v++) {
            int within = v;
            taken(name + " of " + v, x -> of.call(x, within));
        }
        for (int v : new int[] {least - 1, most + 1, MIN, MAX}) {
            refused(name + " of " + v, due, x -> of.call(x, v));
        }
    }

    private static void sackBounds(String name, Of of) {
        bounds(name + " of sack", 0, 2, NO_SUCH, of);
    }

    /** Trays 0 to 2 are laid, tray 3 is missing, others there are none. */
    private static void trayBounds(String name, Of of) {
        for (int v = 0; v <= 2; v++) {
            int within = v;
            taken(name + " of tray " + v, x -> of.call(x, within));
        }
        refusedTrays(name, of);
    }

    private static void refusedTrays(String name, Of of) {
        refused(name + " of the missing tray", STATE, x -> of.call(x, 3));
        for (int v : new int[] {-1, 4, MIN, MAX}) {
            refused(name + " of tray " + v, NO_SUCH, x -> of.call(x, v));
        }
    }

    private static void texts() {
        bounds("mill", 0, 20, ARGUMENT, (x, v) -> x.mill(v));
        bounds("law", 0, 20, ARGUMENT, (x, v) -> x.law(v));
        LightestSack full = new LightestSack();
        for (int i = 1; i <= 45; i++) {
            int blanks = 0x20202020;
            CHECK.due("feed " + i, full.feed(blanks, blanks, blanks, blanks, blanks), i * 20);
        }
        CHECK.due("the 46th feed", full.feed(0, 0, 0, 0, 0), -1);
        CHECK.due("it changed no count", full.count(8), 900);
        CHECK.dueThrow("mill(901)", ARGUMENT, () -> full.mill(901));
        CHECK.due("the 47th feed", full.feed(0, 0, 0, 0, 0), -1);
        CHECK.due("900 blanks, no zero among them", full.mill(900), 0);
        CHECK.due("the tape is empty then", full.count(8), 0);
    }

    private static void sacksAndPieces() {
        sackBounds("sack", (x, v) -> x.sack(v, 0));
        bounds("sack what", 0, 7, ARGUMENT, (x, v) -> x.sack(0, v));
        bounds("piece", 0, 3, NO_SUCH, (x, v) -> x.piece(v, 0));
        bounds("piece what", 0, 4, ARGUMENT, (x, v) -> x.piece(0, v));
    }

    private static void parts() {
        taken("part", x -> x.part(0, 0));
        for (int s : new int[] {-1, 3, MIN, MAX}) {
            refused("part of sack " + s, NO_SUCH, x -> x.part(s, 0));
        }
        refusedTrays("part", (x, v) -> x.part(0, v));
        refused("part by 60 zeros", ARGUMENT, x -> x.part(0, 2));
        refused("part by one pound too many", ARGUMENT, x -> x.part(2, 0));
        refused("part by two pounds too few", ARGUMENT, x -> x.part(1, 0));
        for (int many = 0; many <= 10; many++) {
            partInto(many);
        }
        partBy(0, 6, 5, 1, 0);
        partBy(1, 6, 5, 1);
        partBy(0, 6, 7, -1);
        partBy(0, 6, 0, 6);
        partBy(0, 6, 3, 2);
        partBy(1, 6, 3, 3);
        partBy(0, 6, 3, 4);
        // As ints and as longs these sums come round to the pounds.
        partBy(0, 6, 1L << 62, 1L << 62, 1L << 62, (1L << 62) + 6);
        partBy(0, 6, Long.MAX_VALUE, Long.MAX_VALUE, 8);
        partBy(0, 6, Integer.MAX_VALUE, Integer.MAX_VALUE, 8);
        partBy(0, 6, 1L << 32 | 6);
        partBy(0, 6, Long.MIN_VALUE, Long.MIN_VALUE, 6);
        sixty();
    }

    private static void partInto(int many) {
        long[] ones = new long[many];
        java.util.Arrays.fill(ones, 1);
        partBy(many >= 1 && many <= 8 ? 1 : 0, Math.max(1, many), ones);
    }

    /** A sack of so many pounds, by these numbers. */
    private static void partBy(int well, int pounds, long... way) {
        StringBuilder name = new StringBuilder("part of ").append(pounds).append(" by");
        for (long cut : way) {
            name.append(' ').append(cut);
        }
        Twins.On made = x -> {
            Check.mill(x, "sack " + pounds + " of 0 at 0;sack 2 of 1 at 0;");
            x.tray(0, 3, way.length);
            for (int i = 0; i < way.length; i++) {
                x.write(0, i, way[i]);
            }
        };
        LightestSack x = new LightestSack();
        made.call(x);
        if (well == 1) {
            CHECK.due(name.toString(), x.part(0, 0), way.length + 1);
            for (int i = 0; i < way.length; i++) {
                CHECK.due(name + ": piece " + i, x.piece(i, 1), way[i]);
            }
        } else {
            CHECK.dueThrow(name.toString(), ARGUMENT, () -> x.part(0, 0));
            boolean none = Twins.changesNothing(made, y -> y.part(0, 0));
            CHECK.due(name + " changed nothing", none ? 1 : 0, 1);
        }
    }

    private static void sixty() {
        LightestSack x = Check.with("sack 8 of 0 at 0;".repeat(24));
        Check.lay(x, 0, 1, 1, 1, 1, 1, 1, 1, 1);
        for (int s = 0; s < 5; s++) {
            CHECK.due("eight pieces more", x.part(s, 0), 31 + 7 * s);
        }
        Check.lay(x, 1, 5, 3);
        Check.lay(x, 2, 4, 3, 1);
        CHECK.dueThrow("61 pieces", ARGUMENT, () -> x.part(23, 2));
        CHECK.due("61 pieces changed nothing", x.count(5), 59);
        CHECK.due("61 pieces didn't part it", x.sack(23, 6), 1);
        CHECK.due("61 pieces left it whole", x.piece(58, 1), 8);
        CHECK.due("60 pieces", x.part(23, 1), 60);
        CHECK.due("the 60th", x.piece(59, 1), 3);
        CHECK.dueThrow("piece(60)", NO_SUCH, () -> x.piece(60, 1));
        CHECK.dueThrow("one more by the same sack", ARGUMENT, () -> x.part(23, 2));
        CHECK.due("as many by the same sack", x.part(23, 1), 60);
        CHECK.due("a parted one's own pieces are free", x.part(0, 1), 54);
    }

    private static void theRun() {
        sackBounds("end", (x, v) -> x.end(v));
        sackBounds("waits", (x, v) -> x.waits(v));
        bounds("home", 0, 7, ARGUMENT, (x, v) -> x.home(v));
        bounds("stands what", 0, 3, ARGUMENT, (x, v) -> x.stands(0, v));
        taken("stands at 0", x -> x.stands(0, 3));
        taken("stands at the last minute", x -> x.stands(MAX, 3));
        refused("stands below 0", ARGUMENT, x -> x.stands(-1, 3));
        refused("stands far below 0", ARGUMENT, x -> x.stands(MIN, 0));
        bounds("ahead of piece", 0, 3, NO_SUCH, (x, v) -> x.ahead(v, 0));
        bounds("ahead of another piece", 0, 3, NO_SUCH, (x, v) -> x.ahead(0, v));
        trayBounds("judge", (x, v) -> x.judge(v, 0));
        bounds("judge what", 0, 1, ARGUMENT, (x, v) -> x.judge(1, v));
    }

    private static void orders() {
        trayBounds("cost", (x, v) -> x.cost(v));
        trayBounds("swap", (x, v) -> x.swap(v, 0));
        bounds("swap of 4 places", 0, 2, PLACE, (x, v) -> x.swap(1, v));
        bounds("swap of 60 places", 0, 58, PLACE, (x, v) -> x.swap(2, v));
        for (int k : new int[] {-2, -1, 0, 1, MIN, MAX}) {
            LightestSack x = new LightestSack();
            x.tray(0, 0, 0);
            CHECK.dueThrow("swap of no place: " + k, PLACE, () -> x.swap(0, k));
            x.tray(0, 0, 1);
            CHECK.dueThrow("swap of one place: " + k, PLACE, () -> x.swap(0, k));
        }
    }

    private static void partings() {
        sackBounds("parting", (x, v) -> x.parting(v, 2, 0));
        bounds("parting n", 1, 6, ARGUMENT, (x, v) -> x.parting(0, v, 0));
        bounds("parting what", 0, 1, ARGUMENT, (x, v) -> x.parting(0, 2, v));
        bounds("parting's piece", 10, 15, ARGUMENT, (x, v) -> x.parting(0, 2, v));
        bounds("settle", 1, 3, ARGUMENT, (x, v) -> x.settle(v));
        bounds("fee", 2, 3, ARGUMENT, (x, v) -> x.fee(v));
    }

    private static void otherwise() {
        sackBounds("when", (x, v) -> x.when(v, 0));
        bounds("when what", 0, 1, ARGUMENT, (x, v) -> x.when(1, v));
        sackBounds("heaviest", (x, v) -> x.heaviest(v));
        bounds("by", 0, 7, ARGUMENT, (x, v) -> x.by(v));
        trayBounds("fits", (x, v) -> x.fits(v));
        // Sack 0 is parted, sacks 1 and 2 have 4 and 5 pounds.
        bounds("lend pounds", 1, 3, ARGUMENT, (x, v) -> x.lend(1, 2, v));
        bounds("lend pounds back", 1, 4, ARGUMENT, (x, v) -> x.lend(2, 1, v));
        refused("lend of a parted one", STATE, x -> x.lend(0, 1, 1));
        refused("lend to a parted one", STATE, x -> x.lend(1, 0, 1));
        refused("lend to itself", ARGUMENT, x -> x.lend(1, 1, 1));
        for (int s : new int[] {-1, 3, MIN, MAX}) {
            refused("lend of sack " + s, NO_SUCH, x -> x.lend(s, 1, 1));
            refused("lend to sack " + s, NO_SUCH, x -> x.lend(1, s, 1));
        }
        LightestSack x = Check.with("sack 50 of 0 at 0;sack 90 of 0 at 0;sack 99 of 0 at 0;");
        x.lend(0, 1, 9);
        CHECK.dueThrow("more than 99", ARGUMENT, () -> x.lend(0, 1, 10));
        CHECK.dueThrow("more than 99 at once", ARGUMENT, () -> x.lend(0, 2, 1));
        x.lend(1, 0, 49);
        CHECK.dueThrow("more than 99 back", ARGUMENT, () -> x.lend(1, 0, 50));
    }

    private static void strangers() {
        sackBounds("day", (x, v) -> x.day(v, 1, 9, 9));
        bounds("day come", 0, 100, ARGUMENT, (x, v) -> x.day(0, 1, v, 9));
        bounds("day greatest", 1, 99, ARGUMENT, (x, v) -> x.day(0, 1, 9, v));
        for (int seed : new int[] {MIN, -1, 0, 1, MAX}) {
            taken("day by the seed " + seed, x -> x.day(0, seed, 50, 50));
        }
        sackBounds("days", (x, v) -> x.days(v, 2, 9, 9, 0));
        bounds("days n", 1, 30, ARGUMENT, (x, v) -> x.days(0, v, 9, 9, 0));
        bounds("days come", 0, 100, ARGUMENT, (x, v) -> x.days(0, 1, v, 9, 0));
        bounds("days greatest", 1, 99, ARGUMENT, (x, v) -> x.days(0, 1, 9, v, 0));
        bounds("days what", 0, 2, ARGUMENT, (x, v) -> x.days(0, 1, 9, 9, v));
    }

    private static void traysAndImages() {
        bounds("tray", 0, 3, NO_SUCH, (x, v) -> x.tray(v, 0, 1));
        bounds("tray's sort", 0, 3, ARGUMENT, (x, v) -> x.tray(0, v, 1));
        bounds("tray's places", 0, 60, ARGUMENT, (x, v) -> x.tray(0, 0, v));
        refused("the missing tray stays missing", ARGUMENT, x -> x.tray(3, 0, 61));
        trayBounds("write", (x, v) -> x.write(v, 0, 1));
        bounds("write at one of 4 places", 0, 3, PLACE, (x, v) -> x.write(1, v, 1));
        bounds("write at one of 60 places", 0, 59, PLACE, (x, v) -> x.write(2, v, 1));
        LightestSack none = new LightestSack();
        none.tray(0, 3, 0);
        CHECK.dueThrow("write at one of no places", PLACE, () -> none.write(0, 0, 1));
        trayBounds("pour", (x, v) -> x.pour(v));
        bounds("image", 0, 2, NO_SUCH, (x, v) -> x.image(v));
        taken("restore 0", x -> x.restore(0));
        taken("restore 1", x -> x.restore(1));
        refused("restore of what wasn't made", STATE, x -> x.restore(2));
        for (int i : new int[] {-1, 3, MIN, MAX}) {
            refused("restore " + i, NO_SUCH, x -> x.restore(i));
        }
    }

    /** Each call is wrong in two ways at least; the one that is told first comes. */
    private static void severalThrows() {
        refused("sack and what", NO_SUCH, x -> x.sack(3, 8));
        refused("piece and what", NO_SUCH, x -> x.piece(4, 5));
        refused("part: sack and a missing tray", NO_SUCH, x -> x.part(3, 3));
        refused("part: sack and a wrong way", NO_SUCH, x -> x.part(3, 2));
        refused("part: tray and sack", NO_SUCH, x -> x.part(-1, 4));
        refused("stands: minute and what", ARGUMENT, x -> x.stands(-1, 4));
        refused("judge: tray and what", NO_SUCH, x -> x.judge(4, 2));
        refused("judge: missing and what", STATE, x -> x.judge(3, 2));
        refused("swap: tray and place", NO_SUCH, x -> x.swap(-1, -1));
        refused("swap: missing and place", STATE, x -> x.swap(3, -1));
        refused("swap: no order and place", PLACE, x -> x.swap(0, 1));
        refused("parting: sack, n and what", NO_SUCH, x -> x.parting(3, 0, 9));
        refused("parting: n and what", ARGUMENT, x -> x.parting(0, 0, 9));
        refused("when: sack and what", NO_SUCH, x -> x.when(3, 2));
        refused("lend: none and parted", NO_SUCH, x -> x.lend(0, 3, 1));
        refused("lend: none and itself", NO_SUCH, x -> x.lend(3, 3, 0));
        refused("lend: parted and itself", STATE, x -> x.lend(0, 0, 1));
        refused("lend: parted and pounds", STATE, x -> x.lend(0, 1, 0));
        refused("day: sack and come", NO_SUCH, x -> x.day(3, 0, -1, 0));
        refused("days: sack and n", NO_SUCH, x -> x.days(-1, 0, 101, 100, 3));
        refused("tray: tray and sort", NO_SUCH, x -> x.tray(4, 4, 61));
        refused("write: tray and place", NO_SUCH, x -> x.write(4, -1, 0));
        refused("write: missing and place", STATE, x -> x.write(3, -1, 0));
        LightestSack heavy = Check.with("sack 31 of 0 at 0;");
        CHECK.dueThrow("a throw ahead of SPENT: n", ARGUMENT, () -> heavy.parting(0, 7, 0));
        CHECK.dueThrow("a throw ahead of SPENT: what", ARGUMENT, () -> heavy.parting(0, 2, 2));
        CHECK.dueThrow("a throw ahead of SPENT: settle", ARGUMENT, () -> heavy.settle(0));
    }

    /** What only asks changes nothing either. */
    private static void questions() {
        asks("sack", x -> x.sack(0, 6));
        asks("piece", x -> x.piece(3, 2));
        asks("order", x -> x.order(2));
        asks("end", x -> x.end(2));
        asks("waits", x -> x.waits(0));
        asks("home", x -> x.home(1));
        asks("total", x -> x.total(1));
        asks("stands", x -> x.stands(4, 1));
        asks("longest", x -> x.longest());
        asks("ahead", x -> x.ahead(0, 3));
        asks("judge", x -> x.judge(1, 1));
        asks("cost", x -> x.cost(1));
        asks("swap", x -> x.swap(1, 1));
        asks("best", x -> x.best(0));
        asks("gap", x -> x.gap());
        asks("parting", x -> x.parting(1, 3, 0));
        asks("fee", x -> x.fee(3));
        asks("when 0", x -> x.when(1, 0));
        asks("when 1", x -> x.when(0, 1));
        asks("heaviest", x -> x.heaviest(1));
        asks("lend", x -> x.lend(1, 2, 3));
        asks("by", x -> x.by(1));
        asks("bestLaw", x -> x.bestLaw());
        asks("fits", x -> x.fits(1));
        asks("day", x -> x.day(0, 5, 40, 9));
        asks("days", x -> x.days(0, 3, 40, 9, 2));
        asks("fault", x -> x.fault(1));
        asks("count", x -> x.count(5));
    }

    private static void asks(String name, Twins.On call) {
        LightestSack x = Twins.made();
        call.call(x);
        CHECK.due(name + " changed nothing", Twins.seen(x).equals(SEEN) ? 1 : 0, 1);
    }

    /** That nothing changed would say nothing, if changes weren't seen. */
    private static void changesAreSeen() {
        seen("bytes", x -> x.feed(0, 0, 0, 0, 0));
        seen("a mill", x -> x.mill(0));
        seen("a faulty mill", x -> x.mill(1));
        seen("a law", x -> x.law(8));
        seen("a parted one", x -> Check.part(x, 0, 3, 4, 2));
        seen("a whole one", x -> x.whole());
        seen("a settled mill", x -> x.settle(1));
        seen("a tray that isn't missing", x -> x.tray(3, 0, 0));
        seen("a tray of another sort", x -> x.tray(2, 1, 60));
        seen("a place less", x -> x.tray(2, 0, 59));
        seen("another parting's number", x -> x.write(0, 0, 3));
        seen("another order's number", x -> x.write(1, 3, 0));
        seen("a poured order", x -> x.pour(1));
        seen("a new image", x -> x.image(2));
        seen("another image", x -> x.image(0));
        seen("what was restored", x -> x.restore(0));
    }

    private static void seen(String name, Twins.On call) {
        LightestSack x = Twins.made();
        call.call(x);
        CHECK.due(name + " is seen", Twins.seen(x).equals(SEEN) ? 1 : 0, 0);
    }
}
