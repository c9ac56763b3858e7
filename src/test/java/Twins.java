import java.util.ArrayList;
import java.util.List;

/**
 * Two objects made alike, of which one gets a call more: whether that call changed anything is seen
 * from all that both answer then, images, trays and the bytes on the tape included.
 */
final class Twins {
    interface On {
        void call(LightestSack x);
    }

    private Twins() {
    }

    /** 3 sacks, 4 pieces, trays 0 to 2 laid, images 0 and 1 made, a fault, a law on the tape. */
    static LightestSack made() {
        LightestSack x = Check.with("stone 2;clean 3;fee 4;sack 6 of 1 at 2 sort 1 worth 2 home 40;"
                + "sack 4 of 0 at 0 home 9;sack 5 of 7 at 3 sort 1;", "by heavy then turn;small 2;");
        x.image(0);
        Check.lay(x, 0, 2, 4);
        x.part(0, 0);
        x.image(1);
        Check.law(x, "by turn then light;small 1;");
        Check.lay(x, 1, 3, 0, 2, 1);
        x.tray(2, 0, 60);
        Check.mill(x, "stone 1;fee 9;stone 0;");
        Check.feed(x, "by dear then same;");
        return x;
    }

    static String seen(LightestSack x) {
        StringBuilder all = new StringBuilder();
        ask(x, all);
        trays(x, all);
        int tape = x.count(8);
        all.append(" law ").append(x.law(tape));
        kept(x, all);
        for (int i = 0; i < 3; i++) {
            int image = i;
            all.append(" image ").append(i);
            all.append(word(() -> {
                x.restore(image);
                return 0;
            }));
            kept(x, all);
        }
        return all.toString();
    }

    /** Whether a call changes nothing that can be seen; it may throw. */
    static boolean changesNothing(On made, On call) {
        LightestSack a = new LightestSack();
        LightestSack b = new LightestSack();
        made.call(a);
        made.call(b);
        word(() -> {
            call.call(b);
            return 0;
        });
        return seen(a).equals(seen(b));
    }

    private interface Answer {
        long get();
    }

    private static String word(Answer answer) {
        try {
            return " " + answer.get();
        } catch (RuntimeException e) {
            return " " + e.getClass().getSimpleName();
        }
    }

    private static void ask(LightestSack x, StringBuilder all) {
        List<Answer> answers = new ArrayList<>();
        for (int i = 0; i < 8; i++) {
            int what = i;
            answers.add(() -> x.total(what));
            answers.add(() -> x.best(what - 1));
            answers.add(() -> x.home(what));
            answers.add(() -> x.by(what));
            answers.add(() -> x.stands(what * 3, what % 4));
        }
        for (int s = 0; s < x.count(4); s++) {
            sack(x, s, answers);
        }
        for (int p = 0; p < x.count(5); p++) {
            int piece = p;
            for (int i = 2; i < 5; i++) {
                int what = i;
                answers.add(() -> x.piece(piece, what));
            }
            answers.add(() -> x.ahead(piece, 0));
        }
        answers.add(() -> x.longest());
        answers.add(() -> x.gap());
        answers.add(() -> x.bestLaw());
        answers.add(() -> x.fee(2));
        answers.add(() -> x.fault(0));
        answers.add(() -> x.fault(1));
        for (Answer a : answers) {
            all.append(word(a));
        }
        kept(x, all);
    }

    /** What an image keeps. */
    private static void kept(LightestSack x, StringBuilder all) {
        for (int what = 0; what < 9; what++) {
            all.append(' ').append(x.count(what));
        }
        for (int s = 0; s < x.count(4); s++) {
            for (int what = 0; what < 8; what++) {
                all.append(' ').append(x.sack(s, what));
            }
        }
        for (int p = 0; p < x.count(5); p++) {
            all.append(' ').append(x.piece(p, 1)).append(' ').append(x.order(p));
        }
    }

    private static void sack(LightestSack x, int s, List<Answer> answers) {
        answers.add(() -> x.end(s));
        answers.add(() -> x.waits(s));
        answers.add(() -> x.parting(s, 3, 0));
        answers.add(() -> x.heaviest(s));
        answers.add(() -> x.day(s, 3, 4, 5));
    }

    /** A number can't be read, but seen: by what is parted by it and what an order of it costs. */
    private static void trays(LightestSack x, StringBuilder all) {
        for (int t = 0; t < 4; t++) {
            int tray = t;
            all.append(" tray ").append(t);
            all.append(word(() -> x.cost(tray))).append(word(() -> x.fits(tray)));
            all.append(word(() -> x.judge(tray, 0))).append(word(() -> x.judge(tray, 1)));
            for (int s = 0; s < x.count(4); s++) {
                int sack = s;
                all.append(word(() -> x.part(sack, tray)));
            }
            for (int p = 0; p < x.count(5); p++) {
                all.append(' ').append(x.piece(p, 1));
            }
            String latest = "";
            for (int i = 0; i <= 60 && !latest.contains("Exception"); i++) {
                int place = i;
                latest = word(() -> x.write(tray, place, 0x123456789abL));
                all.append(latest);
            }
        }
    }
}
