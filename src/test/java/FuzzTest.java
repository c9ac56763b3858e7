import java.util.NoSuchElementException;

/**
 * All promises' throws: calls by a fixed draw, wild arguments among them; each throws just what the
 * document tells first, and a call that throws changes nothing.
 */
public final class FuzzTest {
    private static final Check CHECK = new Check("FuzzTest");
    private static final Class<? extends RuntimeException> NONE = null;
    private static final Class<? extends RuntimeException> NO_SUCH = NoSuchElementException.class;
    private static final Class<? extends RuntimeException> STATE = IllegalStateException.class;
    private static final Class<? extends RuntimeException> ARGUMENT = IllegalArgumentException.class;
    private static final Class<? extends RuntimeException> PLACE = IndexOutOfBoundsException.class;
    private static final int[] WILD = {Integer.MIN_VALUE, Integer.MAX_VALUE, -2, -1, 61, 100, 1000};
    private static final String[] MILLS = {"", "sack 5 of 0 at 0;", "stone 2;sack 5 of 0 at 3 home 9;"
            + "sack 9 of 1 at 0 sort 2 worth 3;sack 31 of 7 at 2;", "clean 4;stone 1;stone 3;fee 2;"
            + "sack 4 of 1 at 0 sort 1;sack 6 of 2 at 5;sack 99 of 0 at 9 home 50;sack 2 of 1 at 1;",
            "sack", "stone 0;", "sack 8 of 0 at 0;sack 7 of 0 at 0 sort 1;clean 2;fee 1;"};
    private static final String[] LAWS = {"", "by heavy;", "by turn then same then due;small 4;",
            "by dear;by late;by early;by light;", "by", "small 7;"};

    private static long seed = 77;
    private static int calls;

    private final LightestSack x = new LightestSack();
    private final int[] sizes = {-1, -1, -1, -1};
    private final long[][] trays = new long[4][60];
    private final int[] sorts = new int[4];
    private final boolean[] made = new boolean[3];

    private static int draw(int below) {
        seed = seed * 6364136223846793005L + 1442695040888963407L;
        return (int) ((seed >>> 33) % below);
    }

    private static int any(int usual) {
        return draw(12) == 0 ? WILD[draw(WILD.length)] : draw(usual);
    }

    public static void main(String[] args) {
        for (int i = 0; i < 400; i++) {
            FuzzTest one = new FuzzTest();
            for (int k = 0; k < 440; k++) {
                one.step(draw(35));
                calls++;
            }
        }
        CHECK.end();
    }

    private interface Call {
        long answer();
    }

    private void tell(String name, Class<? extends RuntimeException> due, Call call) {
        long before = due == NONE ? 0 : digest();
        if (due != NONE) {
            CHECK.dueThrow(calls + " " + name, due, call::answer);
            CHECK.due(calls + " " + name + " changed something", digest(), before);
            return;
        }
        try {
            call.answer();
        } catch (RuntimeException e) {
            CHECK.due(calls + " " + name + " threw " + e, 1, 0);
        }
    }

    private long digest() {
        long d = 0;
        for (int what = 0; what < 9; what++) {
            d = d * 31 + x.count(what);
        }
        for (int p = 0; p < x.count(5); p++) {
            d = d * 31 + x.piece(p, 1);
            d = d * 31 + x.order(p);
        }
        return d * 31 + x.fault(0) * 1000 + x.fault(1);
    }

    private Class<? extends RuntimeException> sackDue(int s) {
        return s < 0 || s >= x.count(4) ? NO_SUCH : NONE;
    }

    private Class<? extends RuntimeException> trayDue(int t) {
        return t < 0 || t > 3 ? NO_SUCH : sizes[t] < 0 ? STATE : NONE;
    }

    private static Class<? extends RuntimeException> first(Class<? extends RuntimeException> a,
            boolean wrong, Class<? extends RuntimeException> b) {
        return a != NONE ? a : wrong ? b : NONE;
    }

    private void step(int kind) {
        int s = any(5);
        int t = any(4);
        int n = any(8);
        int what = any(9);
        if (kind < 12) {
            change(kind, s, t, n);
        } else if (kind < 24) {
            ask(kind, s, t, what);
        } else {
            askMore(kind, s, n, what);
        }
    }

    private void change(int kind, int s, int t, int n) {
        switch (kind) {
            case 0:
            case 1:
                String text = kind == 0 ? MILLS[draw(MILLS.length)] : LAWS[draw(LAWS.length)];
                Check.feed(x, text);
                int bytes = draw(5) == 0 ? any(60) : text.length();
                tell((kind == 0 ? "mill " : "law ") + bytes,
                        bytes < 0 || bytes > x.count(8) ? ARGUMENT : NONE,
                        () -> kind == 0 ? x.mill(bytes) : x.law(bytes));
                break;
            case 2:
            case 3:
            case 4:
                lay(t);
                break;
            case 5:
            case 6:
                write(t, any(9), draw(2) == 0 ? draw(9) : (long) WILD[draw(7)] * draw(100000));
                break;
            case 7:
                part(s, t);
                break;
            case 8:
                image(any(3));
                break;
            case 9:
                restore(any(3));
                break;
            case 10:
                tell("settle " + n, n < 1 || n > 3 ? ARGUMENT : NONE, () -> x.settle(n));
                break;
            default:
                tell("whole", NONE, () -> x.whole());
                break;
        }
    }

    private void lay(int t) {
        int sort = any(4);
        int many = draw(3) == 0 ? x.count(5) : any(9);
        boolean wrong = sort < 0 || sort > 3 || many < 0 || many > 60;
        Class<? extends RuntimeException> due = first(t < 0 || t > 3 ? NO_SUCH : NONE, wrong, ARGUMENT);
        tell("tray " + t + " " + sort + " " + many, due, () -> {
            x.tray(t, sort, many);
            return 0;
        });
        if (due == NONE) {
            sizes[t] = many;
            sorts[t] = sort;
            trays[t] = new long[60];
        }
    }

    private void write(int t, int place, long v) {
        Class<? extends RuntimeException> due = trayDue(t);
        due = first(due, due == NONE && (place < 0 || place >= sizes[t]), PLACE);
        if (due == NONE) {
            long cut = sorts[t] == 3 ? v : v << 64 - (8 << sorts[t]) >> 64 - (8 << sorts[t]);
            CHECK.due("write", x.write(t, place, v), cut);
            trays[t][place] = cut;
        } else {
            tell("write " + t + " " + place + " " + v, due, () -> x.write(t, place, v));
        }
    }

    private void part(int s, int t) {
        if (draw(2) == 0 && sackDue(s) == NONE && trayDue(t) == NONE && sizes[t] > 1) {
            x.tray(t, 1, 2);
            sizes[t] = 2;
            sorts[t] = 1;
            trays[t][0] = x.write(t, 0, 1);
            trays[t][1] = x.write(t, 1, x.sack(s, 0) - 1);
        }
        Class<? extends RuntimeException> due = first(sackDue(s), t < 0 || t > 3, NO_SUCH);
        due = first(due, due == NONE && sizes[t] < 0, STATE);
        if (due == NONE) {
            long left = x.sack(s, 0);
            boolean wrong = sizes[t] < 1 || sizes[t] > 8;
            for (int i = 0; i < sizes[t]; i++) {
                wrong |= trays[t][i] < 1 || trays[t][i] > 99;
                left -= trays[t][i] < 1 || trays[t][i] > 99 ? 0 : trays[t][i];
            }
            due = first(due, wrong || left != 0, ARGUMENT);
        }
        tell("part " + s + " " + t, due, () -> x.part(s, t));
    }

    private void image(int i) {
        boolean wrong = i < 0 || i > 2;
        tell("image " + i, wrong ? NO_SUCH : NONE, () -> {
            x.image(i);
            return 0;
        });
        if (!wrong) {
            made[i] = true;
        }
    }

    private void restore(int i) {
        boolean wrong = i < 0 || i > 2;
        tell("restore " + i, wrong ? NO_SUCH : made[i] ? NONE : STATE, () -> {
            x.restore(i);
            return 0;
        });
    }

    private void ask(int kind, int s, int t, int what) {
        switch (kind) {
            case 12:
                tell("sack", first(sackDue(s), what < 0 || what > 7, ARGUMENT), () -> x.sack(s, what));
                break;
            case 13:
                int p = any(6);
                boolean none = p < 0 || p >= x.count(5);
                tell("piece", first(none ? NO_SUCH : NONE, what < 0 || what > 4, ARGUMENT),
                        () -> x.piece(p, what));
                break;
            case 14:
                tell("end", sackDue(s), () -> x.end(s));
                break;
            case 15:
                tell("waits", sackDue(s), () -> x.waits(s));
                break;
            case 16:
                tell("home", what < 0 || what > 7 ? ARGUMENT : NONE, () -> x.home(what));
                break;
            case 17:
                int minute = any(200);
                tell("stands", minute < 0 || what < 0 || what > 3 ? ARGUMENT : NONE,
                        () -> x.stands(minute, what));
                break;
            case 18:
                int q = any(6);
                int r = any(6);
                int many = x.count(5);
                tell("ahead", q < 0 || q >= many || r < 0 || r >= many ? NO_SUCH : NONE,
                        () -> x.ahead(q, r));
                break;
            case 19:
                tell("judge", first(trayDue(t), what < 0 || what > 1, ARGUMENT),
                        () -> x.judge(t, what));
                break;
            case 20:
                tell("cost", trayDue(t), () -> x.cost(t));
                break;
            case 21:
                boolean out = trayDue(t) == NONE && (what < 0 || what >= sizes[t] - 1);
                tell("swap", first(trayDue(t), out, PLACE), () -> x.swap(t, what));
                break;
            case 22:
                tell("fits", trayDue(t), () -> x.fits(t));
                break;
            default:
                pour(t);
                break;
        }
    }

    private void pour(int t) {
        tell("pour " + t, trayDue(t), () -> x.pour(t));
        if (trayDue(t) == NONE) {
            for (int i = 0; i < sizes[t] && i < x.count(5); i++) {
                trays[t][i] = x.order(i);
            }
        }
    }

    private void askMore(int kind, int s, int n, int what) {
        int come = draw(8) == 0 ? any(120) : draw(30);
        int greatest = any(120);
        boolean strange = come < 0 || come > 100 || greatest < 1 || greatest > 99;
        switch (kind) {
            case 24:
                int k = draw(3) == 0 ? any(20) : 10 + draw(7);
                boolean told = k == 0 || k == 1 || k >= 10 && k <= 15;
                tell("parting", first(sackDue(s), n < 1 || n > 6 || !told, ARGUMENT),
                        () -> x.parting(s, n, k));
                break;
            case 25:
                tell("fee", n != 2 && n != 3 ? ARGUMENT : NONE, () -> x.fee(n));
                break;
            case 26:
                tell("when", first(sackDue(s), what < 0 || what > 1, ARGUMENT), () -> x.when(s, what));
                break;
            case 27:
                tell("heaviest", sackDue(s), () -> x.heaviest(s));
                break;
            case 28:
                lend(s, any(5), n);
                break;
            case 29:
                tell("by", n < 0 || n > 7 ? ARGUMENT : NONE, () -> x.by(n));
                break;
            case 30:
                int any = draw(1 << 30) - draw(1 << 30);
                tell("day", first(sackDue(s), strange, ARGUMENT), () -> x.day(s, any, come, greatest));
                break;
            case 31:
                boolean days = n < 1 || n > 30 || strange || what < 0 || what > 2;
                tell("days", first(sackDue(s), days, ARGUMENT),
                        () -> x.days(s, n, come, greatest, what));
                break;
            default:
                never(kind, n);
                break;
        }
    }

    private void never(int kind, int n) {
        if (kind == 32) {
            tell("best", NONE, () -> x.best(n));
            tell("gap", NONE, () -> x.gap());
            tell("bestLaw", NONE, () -> x.bestLaw());
        } else if (kind == 33) {
            tell("order", NONE, () -> x.order(n));
            tell("total", NONE, () -> x.total(n));
            tell("longest", NONE, () -> x.longest());
        } else {
            tell("count", NONE, () -> x.count(n));
            tell("fault", NONE, () -> x.fault(n));
            tell("feed", NONE, () -> x.feed(n, n, n, n, n));
        }
    }

    private void lend(int s, int t, int n) {
        Class<? extends RuntimeException> due = first(sackDue(s), sackDue(t) != NONE, NO_SUCH);
        if (due == NONE) {
            due = first(NONE, x.sack(s, 6) > 1 || x.sack(t, 6) > 1, STATE);
            long left = (long) x.sack(s, 0) - n;
            boolean wrong = s == t || n < 1 || left < 1 || (long) x.sack(t, 0) + n > 99;
            due = first(due, wrong, ARGUMENT);
        }
        tell("lend " + s + " " + t + " " + n, due, () -> x.lend(s, t, n));
    }
}
