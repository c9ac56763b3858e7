import java.util.ArrayList;
import java.util.List;

/**
 * What is asked answers the same as the very first call, behind any other question, and behind
 * changes that were made with or without questions between them.
 */
public final class AnyOrderTest {
    private static final Check CHECK = new Check("AnyOrderTest");

    private interface Asked {
        long of(LightestSack x);
    }

    private static final List<String> NAMES = new ArrayList<>();
    private static final List<Asked> QUESTIONS = new ArrayList<>();
    private static final List<Twins.On> CHANGES = new ArrayList<>();

    public static void main(String[] args) {
        questions();
        changes();
        behindOneAnother();
        behindChanges();
        CHECK.end();
    }

    private static void ask(String name, Asked asked) {
        NAMES.add(name);
        QUESTIONS.add(asked);
    }

    private static void questions() {
        for (int i = 0; i < 9; i++) {
            int what = i;
            ask("count " + i, x -> x.count(what));
        }
        ask("fault", x -> x.fault(0) * 1000 + x.fault(1));
        ask("sack 6", x -> x.sack(1, 6));
        ask("sack 7", x -> x.sack(2, 7));
        for (int i = 0; i < 5; i++) {
            int what = i;
            ask("piece " + i, x -> x.piece(2, what));
        }
        ask("order", x -> x.order(2));
        ask("end", x -> x.end(0));
        ask("waits", x -> x.waits(1));
        ask("home", x -> x.home(0));
        for (int i = 0; i < 6; i++) {
            int what = i;
            ask("total " + i, x -> x.total(what));
        }
        for (int i = 0; i < 4; i++) {
            int what = i;
            ask("stands " + i, x -> x.stands(4, what));
        }
        ask("longest", x -> x.longest());
        ask("ahead", x -> x.ahead(0, 1));
        ask("judge 0", x -> x.judge(1, 0));
        ask("judge 1", x -> x.judge(1, 1));
        ask("cost", x -> x.cost(1));
        ask("swap", x -> x.swap(1, 1));
        ask("best", x -> x.best(-1));
        ask("best 0", x -> x.best(0));
        ask("gap", x -> x.gap());
        ask("parting 0", x -> x.parting(0, 3, 0));
        ask("parting 10", x -> x.parting(1, 2, 10));
        ask("fee", x -> x.fee(2));
        ask("when 0", x -> x.when(1, 0));
        ask("when 1", x -> x.when(2, 1));
        ask("heaviest", x -> x.heaviest(1));
        ask("lend", x -> x.lend(1, 2, 2));
        ask("by", x -> x.by(1));
        ask("bestLaw", x -> x.bestLaw());
        ask("fits", x -> x.fits(1));
        ask("day", x -> x.day(1, 3, 30, 9));
        ask("days", x -> x.days(1, 3, 30, 9, 2));
    }

    private static void changes() {
        CHANGES.add(x -> Check.part(x, 0, 0, 1, 5));
        CHANGES.add(x -> x.whole());
        CHANGES.add(x -> x.restore(0));
        CHANGES.add(x -> x.restore(1));
        CHANGES.add(x -> Check.law(x, "by heavy then early;small 2;"));
        CHANGES.add(x -> Check.law(x, "by light then"));
        CHANGES.add(x -> Check.mill(x, "fee 2;stone 1;sack 6 of 3 at 5;sack 9 of 0 at 0 home 30;"
                + "sack 2 of 1 at 0 worth 4;sack 3 of 1 at 0;"));
        CHANGES.add(x -> Check.mill(x, "stone 1;stone 1;sack"));
        CHANGES.add(x -> x.settle(3));
        CHANGES.add(x -> x.pour(1));
        CHANGES.add(x -> x.write(1, 0, 2));
        CHANGES.add(x -> x.image(0));
    }

    private static long answer(int question, LightestSack x) {
        try {
            return QUESTIONS.get(question).of(x);
        } catch (RuntimeException e) {
            return 1000000 + e.getClass().getSimpleName().length();
        }
    }

    private static void behindOneAnother() {
        for (int q = 0; q < QUESTIONS.size(); q++) {
            long due = answer(q, Twins.made());
            CHECK.due(NAMES.get(q) + " is answered", due < 1000000 ? 1 : 0, 1);
            for (int p = 0; p < QUESTIONS.size(); p++) {
                LightestSack x = Twins.made();
                answer(p, x);
                CHECK.due(NAMES.get(q) + " behind " + NAMES.get(p), answer(q, x), due);
            }
        }
    }

    private static void behindChanges() {
        for (int c = 0; c < CHANGES.size(); c++) {
            for (int d = 0; d < CHANGES.size(); d++) {
                LightestSack asked = Twins.made();
                for (int q = 0; q < QUESTIONS.size(); q++) {
                    answer(q, asked);
                }
                CHANGES.get(c).call(asked);
                for (int q = 0; q < QUESTIONS.size(); q++) {
                    answer(q, asked);
                }
                CHANGES.get(d).call(asked);
                for (int q = 0; q < QUESTIONS.size(); q++) {
                    LightestSack x = Twins.made();
                    CHANGES.get(c).call(x);
                    CHANGES.get(d).call(x);
                    CHECK.due(NAMES.get(q) + " behind changes " + c + " and " + d, answer(q, x),
                            answer(q, asked));
                }
            }
        }
    }
}
