import java.util.ArrayList;
import java.util.Collections;
import java.util.List;

/** Promises 3 to 33 and 36 on told mills by a fixed draw, each answer held against Slow's. */
public final class AgainstSlowTest {
    private static final Check CHECK = new Check("AgainstSlowTest");
    private static long seed = 20261118;

    private static int draw(int below) {
        seed = seed * 6364136223846793005L + 1442695040888963407L;
        return (int) ((seed >>> 33) % below);
    }

    public static void main(String[] args) {
        for (int i = 0; i < 400; i++) {
            int size = draw(4);
            int most = size == 0 ? 3 : size == 1 ? 6 : size == 2 ? 12 : 20;
            Slow slow = mill(draw(most + 1), draw(2) == 0 ? 8 : 40);
            LightestSack x = Check.with(slow.millText(), slow.lawText());
            partSome(slow, x);
            about(slow, x);
            orders(slow, x);
            partings(slow, x, i);
            others(slow, x, i);
            settling(slow, x);
        }
        texts();
        CHECK.end();
    }

    private static Slow mill(int sacks, int heaviest) {
        Slow slow = new Slow();
        int stones = draw(4);
        for (int i = 0; i < stones; i++) {
            slow.paces.add(1 + draw(draw(3) == 0 ? 9 : 3));
        }
        slow.clean = draw(3) == 0 ? 0 : draw(12);
        slow.fee = draw(3) == 0 ? 0 : draw(20);
        int span = draw(3) == 0 ? 1 : draw(2) == 0 ? 12 : 120;
        for (int i = 0; i < sacks; i++) {
            Slow.Sack s = new Slow.Sack();
            s.pounds = 1 + draw(heaviest);
            s.person = draw(draw(2) == 0 ? 3 : 8);
            s.come = draw(span);
            s.sort = draw(2) == 0 ? 0 : draw(4);
            s.worth = draw(2) == 0 ? 1 : 1 + draw(9);
            s.home = draw(2) == 0 ? -1 : s.come + draw(100);
            s.cuts.add(s.pounds);
            slow.sacks.add(s);
        }
        slow.keys.clear();
        int keys = draw(5);
        for (int i = 0; i < keys; i++) {
            slow.keys.add(draw(8));
        }
        slow.small = draw(2) == 0 ? 0 : draw(20);
        return slow;
    }

    private static void partSome(Slow slow, LightestSack x) {
        for (int s = 0; s < slow.sacks.size(); s++) {
            Slow.Sack sack = slow.sacks.get(s);
            if (draw(3) == 0) {
                List<Integer> way = new ArrayList<>();
                int left = sack.pounds;
                while (left > 0 && way.size() < 7) {
                    int cut = 1 + draw(left);
                    way.add(cut);
                    left -= cut;
                }
                if (left > 0) {
                    way.add(left);
                }
                if (slow.pieceCount() - sack.cuts.size() + way.size() > 60) {
                    continue;
                }
                sack.part(way);
                Check.lay(x, 0, numbers(way));
                CHECK.due("part", x.part(s, 0), slow.pieceCount());
            }
        }
    }

    private static int[] numbers(List<Integer> list) {
        int[] numbers = new int[list.size()];
        for (int i = 0; i < numbers.length; i++) {
            numbers[i] = list.get(i);
        }
        return numbers;
    }

    private static void about(Slow slow, LightestSack x) {
        slow.run();
        String of = slow.millText() + " | " + slow.lawText() + " | ";
        int first = 0;
        int longest = -1;
        int waits = 0;
        int late = 0;
        int lastEnd = 0;
        for (int s = 0; s < slow.sacks.size(); s++) {
            Slow.Sack k = slow.sacks.get(s);
            int[] due = {k.pounds, k.person, k.come, k.sort, k.worth, k.home, k.cuts.size(), first};
            for (int what = 0; what < 8; what++) {
                CHECK.due(of + "sack " + s + " " + what, x.sack(s, what), due[what]);
            }
            CHECK.due(of + "end " + s, x.end(s), slow.end(s));
            CHECK.due(of + "waits " + s, x.waits(s), slow.wait(s));
            first += k.cuts.size();
            longest = longest < 0 || slow.wait(s) > slow.wait(longest) ? s : longest;
            waits += slow.wait(s);
            late += slow.late(s) ? 1 : 0;
            lastEnd = Math.max(lastEnd, slow.end(s));
        }
        CHECK.due(of + "longest", x.longest(), longest);
        int[] totals = {waits, slow.cost(), late, lastEnd, slow.fee * first, slow.cleaned, -1};
        for (int what = 0; what < totals.length; what++) {
            CHECK.due(of + "total " + what, x.total(what), totals[what]);
        }
        pieces(slow, x, of);
        homes(slow, x, of);
        for (int i = 0; i < 12; i++) {
            stands(slow, x, of, i < 4 ? i * 3 : draw(lastEnd + 4));
        }
    }

    private static void pieces(Slow slow, LightestSack x, String of) {
        for (Slow.Piece p : slow.pieces) {
            int[] due = {slow.sacks.indexOf(p.sack), p.pounds, p.ground, p.done, p.stone};
            for (int what = 0; what < 5; what++) {
                CHECK.due(of + "piece " + p.number + " " + what, x.piece(p.number, what), due[what]);
            }
            CHECK.due(of + "order", x.order(p.number), slow.begun.get(p.number));
        }
        CHECK.due(of + "order beyond", x.order(slow.pieces.size()), -1);
        slow.lay();
        for (int i = 0; i < 10 && !slow.pieces.isEmpty(); i++) {
            Slow.Piece p = slow.pieces.get(draw(slow.pieces.size()));
            Slow.Piece q = slow.pieces.get(draw(slow.pieces.size()));
            CHECK.due(of + "ahead " + p.number + " " + q.number, x.ahead(p.number, q.number),
                    slow.ahead(p, q, 0));
        }
        slow.run();
    }

    private static void homes(Slow slow, LightestSack x, String of) {
        for (int person = 0; person < 8; person++) {
            int home = -1;
            for (int s = 0; s < slow.sacks.size(); s++) {
                if (slow.sacks.get(s).person == person) {
                    home = Math.max(home, slow.end(s));
                }
            }
            CHECK.due(of + "home " + person, x.home(person), home);
        }
    }

    private static void stands(Slow slow, LightestSack x, String of, int minute) {
        int[] due = new int[4];
        for (Slow.Piece p : slow.pieces) {
            if (p.sack.come <= minute && p.taken > minute) {
                due[0]++;
                due[1] += p.pounds;
            }
            if (p.taken <= minute && minute < p.done) {
                due[2]++;
            }
        }
        for (int s = 0; s < slow.sacks.size(); s++) {
            due[3] += slow.sacks.get(s).come <= minute && minute < slow.end(s) ? 1 : 0;
        }
        for (int what = 0; what < 4; what++) {
            CHECK.due(of + "stands " + minute + " " + what, x.stands(minute, what), due[what]);
        }
    }

    private static void orders(Slow slow, LightestSack x) {
        String of = slow.millText() + " | " + slow.lawText() + " | ";
        int many = slow.pieceCount();
        List<Integer> order = new ArrayList<>(slow.run().begun);
        if (draw(2) == 0) {
            Collections.shuffle(order, new java.util.Random(draw(1000)));
        }
        Check.lay(x, 1, numbers(order));
        int cost = slow.orderCost(order);
        CHECK.due(of + "cost " + order, x.cost(1), cost);
        if (many > 1) {
            int k = draw(many - 1);
            List<Integer> other = new ArrayList<>(order);
            Collections.swap(other, k, k + 1);
            CHECK.due(of + "swap " + k, x.swap(1, k), slow.orderCost(other) - cost);
        }
        judge(slow, x, of, order);
        int bits = 0;
        int bestKey = 0;
        int bestCost = Integer.MAX_VALUE;
        for (int key = 0; key < 8; key++) {
            Slow c = slow.copy();
            c.keys = List.of(key);
            bits |= c.run().begun.equals(order) ? 1 << key : 0;
            CHECK.due(of + "by " + key, x.by(key), c.cost());
            if (c.cost() < bestCost) {
                bestCost = c.cost();
                bestKey = key;
            }
        }
        CHECK.due(of + "fits " + order, x.fits(1), bits);
        CHECK.due(of + "bestLaw", x.bestLaw(), bestKey);
        best(slow, x, of, many);
    }

    private static void judge(Slow slow, LightestSack x, String of, List<Integer> order) {
        List<Integer> due = slow.run().begun;
        int place = 0;
        while (place < order.size() && due.get(place).equals(order.get(place))) {
            place++;
        }
        boolean same = place == order.size();
        CHECK.due(of + "judge 0", x.judge(1, 0), same ? -1 : place);
        CHECK.due(of + "judge 1", x.judge(1, 1), same ? -1 : due.get(place));
        x.tray(2, 1, draw(61));
        int poured = x.pour(2);
        for (int i = 0; i < poured; i++) {
            CHECK.due(of + "poured " + i, x.order(i), due.get(i));
        }
        CHECK.due(of + "judge poured", x.judge(2, 1), poured < due.size() ? due.get(poured) : -1);
    }

    private static void best(Slow slow, LightestSack x, String of, int many) {
        boolean several = slow.paces.size() > 1;
        if (many > 8) {
            CHECK.due(of + "best spent", x.best(draw(4) - 2), -2);
            CHECK.due(of + "gap spent", x.gap(), several ? -1 : -2);
        } else if (many < 7 || draw(4) == 0) {
            List<Integer> best = slow.best();
            int cost = slow.bestCost();
            CHECK.due(of + "best", x.best(-1), cost);
            for (int k = 0; k < many; k++) {
                CHECK.due(of + "best " + k, x.best(k), best.get(k));
            }
            CHECK.due(of + "best beyond", x.best(many), -1);
            CHECK.due(of + "gap", x.gap(), several ? -1 : slow.run().cost() - cost);
        }
    }

    private static void partings(Slow slow, LightestSack x, int round) {
        String of = slow.millText() + " | " + slow.lawText() + " | parting ";
        for (int i = 0; i < 3 && !slow.sacks.isEmpty(); i++) {
            int s = draw(slow.sacks.size());
            int n = 1 + draw(round % 10 == 0 ? 6 : 4);
            if (slow.sacks.get(s).pounds > 30 && n > 1) {
                CHECK.due(of + s + " " + n, x.parting(s, n, 10), -2);
                continue;
            }
            List<Integer> way = slow.parting(s, n);
            CHECK.due(of + s + " " + n + " 0", x.parting(s, n, 0), slow.partedPrice(s, way));
            CHECK.due(of + s + " " + n + " 1", x.parting(s, n, 1), way.size());
            for (int k = 0; k < 6; k++) {
                CHECK.due(of + s + " " + n + " " + (10 + k), x.parting(s, n, 10 + k),
                        k < way.size() ? way.get(k) : -1);
            }
        }
        if (slow.sacks.size() < 9) {
            CHECK.due(of + "fee 2", x.fee(2), slow.leastFee(2));
            if (round % 8 == 0) {
                CHECK.due(of + "fee 3", x.fee(3), slow.leastFee(3));
            }
        }
    }

    private static void others(Slow slow, LightestSack x, int round) {
        String of = slow.millText() + " | " + slow.lawText() + " | ";
        if (slow.sacks.isEmpty()) {
            return;
        }
        int s = draw(slow.sacks.size());
        if (round % 6 == 0) {
            when(slow, x, of, s);
        }
        heaviest(slow, x, of, s);
        lend(slow, x, of, s, draw(slow.sacks.size()));
        int come = draw(101);
        int greatest = 1 + draw(99);
        int any = draw(1 << 30) * (draw(2) == 0 ? 1 : -1);
        CHECK.due(of + "day", x.day(s, any, come, greatest), slow.day(s, any, come, greatest));
        int days = 1 + draw(30);
        come = draw(30);
        int[] due = {-1, 0, 0};
        for (int d = 1; d <= days; d++) {
            int wait = slow.day(s, d, come, greatest);
            due[1] = wait > due[0] ? d : due[1];
            due[0] = Math.max(due[0], wait);
            due[2] += wait;
        }
        for (int what = 0; what < 3; what++) {
            CHECK.due(of + "days", x.days(s, days, come, greatest, what), due[what]);
        }
    }

    private static void when(Slow slow, LightestSack x, String of, int s) {
        int latest = -1;
        int least = -1;
        int leastWait = Integer.MAX_VALUE;
        for (int minute = 0; minute <= 600; minute++) {
            Slow c = slow.copy();
            c.sacks.get(s).come = minute;
            c.run();
            latest = c.late(s) ? latest : minute;
            if (c.wait(s) < leastWait) {
                leastWait = c.wait(s);
                least = minute;
            }
        }
        CHECK.due(of + "when 0 " + s, x.when(s, 0), latest);
        CHECK.due(of + "when 1 " + s, x.when(s, 1), least);
    }

    private static void heaviest(Slow slow, LightestSack x, String of, int s) {
        int heaviest = -1;
        for (int pounds = 1; pounds <= 99; pounds++) {
            Slow c = slow.copy();
            c.sacks.get(s).pounds = pounds;
            c.sacks.get(s).part(List.of(pounds));
            heaviest = c.run().late(s) ? heaviest : pounds;
        }
        CHECK.due(of + "heaviest " + s, x.heaviest(s), heaviest);
    }

    private static void lend(Slow slow, LightestSack x, String of, int s, int t) {
        Slow.Sack from = slow.sacks.get(s);
        Slow.Sack into = slow.sacks.get(t);
        int n = 1 + draw(5);
        if (from.cuts.size() > 1 || into.cuts.size() > 1) {
            CHECK.dueThrow(of + "lend parted", IllegalStateException.class, () -> x.lend(s, t, n));
        } else if (s == t || n >= from.pounds || into.pounds + n > 99) {
            CHECK.dueThrow(of + "lend too much", IllegalArgumentException.class,
                    () -> x.lend(s, t, n));
        } else {
            Slow c = slow.copy();
            c.sacks.get(s).part(List.of(from.pounds - n));
            c.sacks.get(t).part(List.of(into.pounds + n));
            CHECK.due(of + "lend", x.lend(s, t, n), c.run().cost() - slow.run().cost());
        }
    }

    private static void settling(Slow slow, LightestSack x) {
        String of = slow.millText() + " | " + slow.lawText() + " | settle ";
        int n = 1 + draw(slow.sacks.size() > 6 ? 2 : 3);
        x.image(draw(3));
        CHECK.due(of + n, x.settle(n), slow.settle(n));
        int p = 0;
        for (Slow.Sack s : slow.sacks) {
            for (int pounds : s.cuts) {
                CHECK.due(of + n + " piece " + p, x.piece(p, 1), pounds);
                p++;
            }
        }
        CHECK.due(of + n + " pieces", x.count(5), p);
    }

    private static void texts() {
        String words = "stone clean fee sack of at sort worth home by then small light heavy early"
                + " late dear due turn same ; ; ; 0 1 7 9 60 99 100 600 999 1000 ; then by # A stonex";
        String[] tokens = words.split(" ");
        for (int i = 0; i < 20000; i++) {
            boolean law = draw(2) == 0;
            Slow slow = mill(draw(6), 40);
            StringBuilder text = new StringBuilder(law ? slow.lawText() : slow.millText());
            if (law && draw(2) == 0) {
                text = new StringBuilder(text.toString().replace(";by", " then"));
            }
            int changes = draw(3);
            for (int c = 0; c < changes; c++) {
                int at = draw(text.length() + 1);
                if (draw(2) == 0) {
                    text.insert(at, " " + tokens[draw(tokens.length)] + (draw(2) == 0 ? " " : ""));
                } else if (at < text.length()) {
                    text.deleteCharAt(at);
                }
            }
            LightestSack x = new LightestSack();
            int[] due = Slow.fault(text.toString(), law);
            int answer = law ? Check.law(x, text.toString()) : Check.mill(x, text.toString());
            CHECK.due(text + " | answer below 0", answer < 0 ? 1 : 0, due == null ? 0 : 1);
            if (due != null) {
                CHECK.due(text + " | answer", answer, -10 - due[0]);
            }
            CHECK.due(text + " | fault", x.fault(0), due == null ? 0 : due[0]);
            CHECK.due(text + " | place", x.fault(1), due == null ? -1 : due[1]);
        }
    }
}
