import java.util.ArrayList;
import java.util.Arrays;
import java.util.List;

/**
 * The document once more, as slowly and as plainly as it can be said: the minutes go by one by one,
 * every parting and every order is tried. Tests hold the program against it.
 */
final class Slow {
    static final String[] KEYS = {"light", "heavy", "early", "late", "dear", "due", "turn", "same"};

    static final class Sack {
        int pounds;
        int person;
        int come;
        int sort;
        int worth = 1;
        int home = -1;
        List<Integer> cuts = new ArrayList<>();

        Sack copy() {
            Sack s = new Sack();
            s.pounds = pounds;
            s.person = person;
            s.come = come;
            s.sort = sort;
            s.worth = worth;
            s.home = home;
            s.cuts.addAll(cuts);
            return s;
        }

        void part(List<Integer> way) {
            cuts = new ArrayList<>(way);
        }
    }

    static final class Piece {
        int number;
        Sack sack;
        int pounds;
        int taken = -1;
        int ground;
        int done;
        int stone;
    }

    List<Integer> paces = new ArrayList<>();
    int clean;
    int fee;
    List<Sack> sacks = new ArrayList<>();
    List<Integer> keys = new ArrayList<>(List.of(0));
    int small;

    // What the latest run left.
    List<Piece> pieces;
    List<Integer> begun;
    int cleaned;
    private int[] freeAt;
    private int[] last;
    private int[] turns;

    Slow copy() {
        Slow c = new Slow();
        c.paces = new ArrayList<>(paces);
        c.clean = clean;
        c.fee = fee;
        for (Sack s : sacks) {
            c.sacks.add(s.copy());
        }
        c.keys = new ArrayList<>(keys);
        c.small = small;
        return c;
    }

    void whole() {
        for (Sack s : sacks) {
            s.part(List.of(s.pounds));
        }
    }

    int pieceCount() {
        int many = 0;
        for (Sack s : sacks) {
            many += s.cuts.size();
        }
        return many;
    }

    void lay() {
        pieces = new ArrayList<>();
        begun = new ArrayList<>();
        cleaned = 0;
        freeAt = new int[3];
        last = new int[] {-1, -1, -1};
        turns = new int[8];
        for (Sack s : sacks) {
            for (int pounds : s.cuts) {
                Piece p = new Piece();
                p.number = pieces.size();
                p.sack = s;
                p.pounds = pounds;
                pieces.add(p);
            }
        }
    }

    Slow run() {
        lay();
        for (int minute = 0; begun.size() < pieces.size(); minute++) {
            for (int stone = 0; stone < Math.max(1, paces.size()); stone++) {
                if (freeAt[stone] <= minute) {
                    Piece first = null;
                    for (Piece p : pieces) {
                        if (p.taken < 0 && p.sack.come <= minute
                                && (first == null || ahead(p, first, stone) > 0)) {
                            first = p;
                        }
                    }
                    if (first != null) {
                        begin(first, stone, minute);
                    }
                }
            }
        }
        return this;
    }

    private void begin(Piece p, int stone, int minute) {
        p.taken = minute;
        p.stone = stone;
        p.ground = minute;
        if (last[stone] >= 0 && last[stone] != p.sack.sort) {
            p.ground += clean;
            cleaned += clean;
        }
        p.done = p.ground + p.pounds * (paces.isEmpty() ? 1 : paces.get(stone));
        freeAt[stone] = p.done;
        last[stone] = p.sack.sort;
        turns[p.sack.person]++;
        begun.add(p.number);
    }

    int ahead(Piece p, Piece q, int stone) {
        for (int place = 0; place < keys.size(); place++) {
            int c = 0;
            int ps = Math.max(small, p.pounds);
            int qs = Math.max(small, q.pounds);
            switch (KEYS[keys.get(place)]) {
                case "light": c = Integer.compare(qs, ps); break;
                case "heavy": c = Integer.compare(ps, qs); break;
                case "early": c = Integer.compare(q.sack.come, p.sack.come); break;
                case "late": c = Integer.compare(p.sack.come, q.sack.come); break;
                case "dear":
                    // The sum over both is a common measure of two fractions.
                    c = Long.compare((long) p.sack.worth * q.pounds, (long) q.sack.worth * p.pounds);
                    break;
                case "due":
                    long ph = p.sack.home < 0 ? Long.MAX_VALUE : p.sack.home;
                    long qh = q.sack.home < 0 ? Long.MAX_VALUE : q.sack.home;
                    c = Long.compare(qh, ph);
                    break;
                case "turn":
                    c = Integer.compare(turns[q.sack.person], turns[p.sack.person]);
                    break;
                default:
                    c = Boolean.compare(p.sack.sort == last[stone], q.sack.sort == last[stone]);
                    break;
            }
            if (c != 0) {
                return c > 0 ? place + 1 : -place - 1;
            }
        }
        return 0;
    }

    int end(int s) {
        int end = 0;
        for (Piece p : pieces) {
            if (p.sack == sacks.get(s)) {
                end = Math.max(end, p.done);
            }
        }
        return end;
    }

    int wait(int s) {
        return end(s) - sacks.get(s).come;
    }

    boolean late(int s) {
        return sacks.get(s).home >= 0 && end(s) > sacks.get(s).home;
    }

    int cost() {
        int cost = 0;
        for (int s = 0; s < sacks.size(); s++) {
            cost += sacks.get(s).worth * wait(s);
        }
        return cost;
    }

    int price(int s) {
        return sacks.get(s).worth * wait(s) + fee * sacks.get(s).cuts.size();
    }

    /** COST of an order on stone 0 alone. */
    int orderCost(List<Integer> order) {
        lay();
        for (int p : order) {
            begin(pieces.get(p), 0, Math.max(freeAt[0], pieces.get(p).sack.come));
        }
        return cost();
    }

    // ---- best

    private int bestCost;
    private List<Integer> bestOrder;

    List<Integer> best() {
        bestOrder = null;
        permute(new ArrayList<>(), pieceCount());
        return bestOrder;
    }

    int bestCost() {
        best();
        return bestCost;
    }

    private void permute(List<Integer> order, int many) {
        if (order.size() == many) {
            int cost = orderCost(order);
            if (bestOrder == null || cost < bestCost) {
                bestCost = cost;
                bestOrder = new ArrayList<>(order);
            }
            return;
        }
        for (int p = 0; p < many; p++) {
            if (!order.contains(p)) {
                order.add(p);
                permute(order, many);
                order.remove(order.size() - 1);
            }
        }
    }

    // ---- partings

    /** All ways, in any order, and the best one by the document's own comparison. */
    List<Integer> parting(int s, int n) {
        List<List<Integer>> ways = new ArrayList<>();
        ways(sacks.get(s).pounds, n, new ArrayList<>(), ways);
        List<Integer> best = null;
        int bestPrice = 0;
        for (List<Integer> way : ways) {
            Slow c = copy();
            c.sacks.get(s).part(way);
            if (c.pieceCount() > 60) {
                continue;
            }
            int price = c.run().price(s);
            if (best == null || price < bestPrice || price == bestPrice && before(way, best)) {
                best = way;
                bestPrice = price;
            }
        }
        return best;
    }

    private static boolean before(List<Integer> a, List<Integer> b) {
        if (a.size() != b.size()) {
            return a.size() < b.size();
        }
        for (int i = 0; i < a.size(); i++) {
            if (!a.get(i).equals(b.get(i))) {
                return a.get(i) > b.get(i);
            }
        }
        return false;
    }

    private static void ways(int left, int n, List<Integer> way, List<List<Integer>> ways) {
        if (left == 0) {
            ways.add(new ArrayList<>(way));
            return;
        }
        if (way.size() == n) {
            return;
        }
        for (int first = 1; first <= left; first++) {
            if (way.isEmpty() || first <= way.get(way.size() - 1)) {
                way.add(first);
                ways(left - first, n, way, ways);
                way.remove(way.size() - 1);
            }
        }
    }

    int partedPrice(int s, List<Integer> way) {
        Slow c = copy();
        c.sacks.get(s).part(way);
        return c.run().price(s);
    }

    int settle(int n) {
        if (sacks.size() > 12) {
            return -2;
        }
        for (Sack s : sacks) {
            if (s.pounds > 30) {
                return -2;
            }
        }
        Slow c = copy();
        for (int round = 1; round <= 10; round++) {
            boolean any = false;
            for (int s = 0; s < sacks.size(); s++) {
                List<Integer> way = c.parting(s, n);
                if (c.partedPrice(s, way) < c.run().price(s)) {
                    c.sacks.get(s).part(way);
                    any = true;
                }
            }
            if (!any) {
                sacks = c.sacks;
                return round;
            }
        }
        return -2;
    }

    /** Tries fee by fee. */
    int leastFee(int n) {
        Slow c = copy();
        c.whole();
        for (c.fee = 0;; c.fee++) {
            boolean any = false;
            for (int s = 0; s < sacks.size() && !any; s++) {
                if (sacks.get(s).pounds <= 30) {
                    any = c.partedPrice(s, c.parting(s, n)) < c.run().price(s);
                }
            }
            if (!any) {
                return c.fee;
            }
        }
    }

    // ---- strangers

    int day(int s, int seed, int come, int greatest) {
        Slow c = copy();
        int x = seed;
        for (int minute = 0; minute < 300; minute++) {
            x = x * 1103515245 + 12345;
            if ((x >>> 16) % 100 < come) {
                if (c.pieceCount() >= 60) {
                    break;
                }
                x = x * 1103515245 + 12345;
                Sack stranger = new Sack();
                stranger.pounds = (x >>> 16) % greatest + 1;
                stranger.person = 7;
                stranger.come = minute;
                stranger.cuts.add(stranger.pounds);
                c.sacks.add(stranger);
            }
        }
        return c.run().wait(s);
    }

    // ---- texts

    String millText() {
        StringBuilder t = new StringBuilder();
        for (int pace : paces) {
            t.append("stone ").append(pace).append(';');
        }
        t.append("clean ").append(clean).append(";fee ").append(fee).append(';');
        for (Sack s : sacks) {
            t.append("sack ").append(s.pounds).append(" of ").append(s.person).append(" at ")
                    .append(s.come);
            if (s.sort != 0) {
                t.append(" sort ").append(s.sort);
            }
            if (s.worth != 1) {
                t.append(" worth ").append(s.worth);
            }
            if (s.home >= 0) {
                t.append(" home ").append(s.home);
            }
            t.append(';');
        }
        return t.toString();
    }

    String lawText() {
        StringBuilder t = new StringBuilder();
        for (int key : keys) {
            t.append("by ").append(KEYS[key]).append(';');
        }
        return t.append("small ").append(small).append(';').toString();
    }

    /** Reads a text as the document says it: null is a good one, else fault and place. */
    static int[] fault(String text, boolean law) {
        List<Integer> places = new ArrayList<>();
        List<String> tokens = new ArrayList<>();
        int i = 0;
        while (i < text.length()) {
            int j = i;
            char c = text.charAt(i);
            if (c == ' ' || c == 10) {
                i++;
                continue;
            }
            if (c >= 'a' && c <= 'z') {
                while (j < text.length() && text.charAt(j) >= 'a' && text.charAt(j) <= 'z') {
                    j++;
                }
            } else if (c >= '0' && c <= '9') {
                while (j < text.length() && text.charAt(j) >= '0' && text.charAt(j) <= '9') {
                    j++;
                }
            } else {
                j++;
            }
            places.add(i);
            tokens.add(text.substring(i, j));
            i = j;
        }
        places.add(text.length());
        tokens.add("");
        int[] counts = new int[3];
        List<String> may = law ? List.of("by", "small", "") : List.of("stone", "clean", "fee", "sack", "");
        for (int k = 0; k < tokens.size(); k++) {
            String t = tokens.get(k);
            int fault = faultOf(t, may);
            if (fault == 0 && t.equals("stone") && ++counts[0] > 3
                    || fault == 0 && t.equals("sack") && ++counts[1] > 24
                    || fault == 0 && law && Arrays.asList(KEYS).contains(t) && ++counts[2] > 8) {
                fault = 4;
            }
            if (fault != 0) {
                return new int[] {fault, places.get(k)};
            }
            may = law ? behindInLaw(t) : behindInMill(t, k == 0 ? "" : tokens.get(k - 1));
        }
        return null;
    }

    private static int faultOf(String t, List<String> may) {
        boolean number = t.matches("[0-9]+");
        if (number && t.length() > 3 || !t.matches("[0-9]+|[a-z]+|;|")) {
            return 1;
        }
        for (String m : may) {
            if (m.equals(t)) {
                return 0;
            }
            if (m.startsWith("N") && number) {
                String[] bounds = m.substring(1).split("-");
                int n = Integer.parseInt(t);
                return n < Integer.parseInt(bounds[0]) || n > Integer.parseInt(bounds[1]) ? 3 : 0;
            }
        }
        return 2;
    }

    private static List<String> behindInMill(String t, String ahead) {
        switch (t) {
            case "stone": return List.of("N1-9");
            case "clean": return List.of("N0-60");
            case "fee": return List.of("N0-99");
            case "sack": return List.of("N1-99");
            case "of": return List.of("N0-7");
            case "at": return List.of("N0-600");
            case "sort": return List.of("N0-3");
            case "worth": return List.of("N1-9");
            case "home": return List.of("N0-999");
            case ";": return List.of("stone", "clean", "fee", "sack", "");
            default: break;
        }
        switch (ahead) {
            case "sack": return List.of("of");
            case "of": return List.of("at");
            case "at": return List.of("sort", "worth", "home", ";");
            case "sort": return List.of("worth", "home", ";");
            case "worth": return List.of("home", ";");
            default: return List.of(";");
        }
    }

    private static List<String> behindInLaw(String t) {
        switch (t) {
            case "by":
            case "then": return List.of(KEYS);
            case "small": return List.of("N0-99");
            case ";": return List.of("by", "small", "");
            default: return Arrays.asList(KEYS).contains(t) ? List.of("then", ";") : List.of(";");
        }
    }
}
