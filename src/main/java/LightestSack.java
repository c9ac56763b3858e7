import java.util.NoSuchElementException;

/**
 * A mill told as a text, a law by which what stands there is ground, and what comes of it: who
 * waits how long, which partings and orders are the best, and what would be otherwise.
 *
 * <p>Every row is made once, with the object, and used again by every call.
 */
public final class LightestSack {
    /** There is none. */
    public static final int NONE = -1;
    /** Too much to be gone through. */
    public static final int SPENT = -2;

    private static final int MOST_BYTES = 900;
    private static final int FED_BYTES = 20;
    private static final int MOST_STONES = 3;
    private static final int MOST_SACKS = 24;
    private static final int MOST_PIECES = 60;
    private static final int MOST_PARTS = 8;
    private static final int MOST_POUNDS = 99;
    private static final int LATEST_COME = 600;
    private static final int PERSONS = 8;
    private static final int MOST_KEYS = 8;
    private static final int TRAYS = 4;
    private static final int IMAGES = 3;

    private static final int LIGHT = 0;
    private static final int HEAVY = 1;
    private static final int EARLY = 2;
    private static final int LATE = 3;
    private static final int DEAR = 4;
    private static final int DUE = 5;
    private static final int TURN = 6;
    private static final int SAME = 7;
    private static final int KEY_KINDS = 8;
    /** Later than every time at which a sack may have to be home. */
    private static final int NEVER_HOME = 1000;
    /** More than every cost, wait and minute that may come. */
    private static final int MORE_THAN_ANY = 1000000000;

    private static final int NO_TOKEN = 1;
    private static final int OUT_OF_PLACE = 2;
    private static final int OUT_OF_BOUNDS = 3;
    private static final int ONE_TOO_MANY = 4;

    private static final int MOST_ORDERED = 8;
    private static final int MOST_PARTED_POUNDS = 30;
    private static final int MOST_PARTING = 6;
    private static final int MOST_SETTLING = 3;
    private static final int MOST_SETTLED_SACKS = 12;
    private static final int MOST_ROUNDS = 10;
    private static final int WAYS_BOUND = 1000000;
    private static final int FIRST_WAY = 10;

    private static final int DAY_MINUTES = 300;
    private static final int STRANGER = 7;
    private static final int MOST_DAYS = 30;

    private final Tape tape = new Tape();
    private final Reader reader = new Reader(tape);
    private final Mill now = new Mill();
    private final Run run = new Run(now);
    private final Mill draft = new Mill();
    private final Texts texts = new Texts(reader, draft);
    private final Mill trial = new Mill();
    private final Run trialRun = new Run(trial);
    private final Partings partings = new Partings(trial, trialRun);
    private final Search search = new Search(now, run);
    private final Row told = new Row(MOST_PIECES);
    private final Row seen = new Row(MOST_PIECES);
    private final Tray[] trays = new Tray[TRAYS];
    private final Mill[] images = new Mill[IMAGES];

    /** THE MILL and THE LAW without texts; TRAYS are MISSING; an empty tape. */
    public LightestSack() {
        for (int i = 0; i < trays.length; i++) {
            trays[i] = new Tray();
        }
        for (int i = 0; i < images.length; i++) {
            images[i] = new Mill();
        }
        now.standAtLeastOneStone();
    }

    // ---- texts

    public int feed(int a, int b, int c, int d, int e) {
        if (tape.size > MOST_BYTES - FED_BYTES) {
            return NONE;
        }
        tape.take(a);
        tape.take(b);
        tape.take(c);
        tape.take(d);
        tape.take(e);
        return tape.size;
    }

    public int mill(int n) throws IllegalArgumentException {
        needBytes(n);
        draft.copyOf(now);
        texts.readMill(n);
        return takeDraft() ? now.lines : -10 - reader.fault;
    }

    public int law(int n) throws IllegalArgumentException {
        needBytes(n);
        draft.copyOf(now);
        texts.readLaw(n);
        return takeDraft() ? now.law.many : -10 - reader.fault;
    }

    public int fault(int what) {
        if (what == 0) {
            return reader.fault;
        }
        return what == 1 ? reader.place : NONE;
    }

    private void needBytes(int n) {
        if (n < 0 || n > tape.size) {
            throw new IllegalArgumentException("not so many bytes");
        }
    }

    private boolean takeDraft() {
        tape.size = 0;
        if (reader.fault != 0) {
            return false;
        }
        now.copyOf(draft);
        return true;
    }

    // ---- sacks, pieces

    public int sack(int s, int what) throws NoSuchElementException, IllegalArgumentException {
        needSack(s);
        switch (what) {
            case 0:
                return now.pounds.at(s);
            case 1:
                return now.persons.at(s);
            case 2:
                return now.comes.at(s);
            case 3:
                return now.sorts.at(s);
            case 4:
                return now.worths.at(s);
            case 5:
                return now.homes.at(s);
            case 6:
                return now.parts.at(s);
            case 7:
                return now.firstPiece(s);
            default:
                throw new IllegalArgumentException("no such what");
        }
    }

    public int piece(int p, int what) throws NoSuchElementException, IllegalArgumentException {
        needPiece(p);
        needWhat(what, 4);
        run.go();
        switch (what) {
            case 0:
                return run.sackOf.at(p);
            case 1:
                return run.pounds.at(p);
            case 2:
                return run.ground.at(p);
            case 3:
                return run.done.at(p);
            default:
                return run.stoneOf.at(p);
        }
    }

    public int part(int s, int tray)
            throws NoSuchElementException, IllegalStateException, IllegalArgumentException {
        needSack(s);
        Tray way = needFullTray(tray);
        if (!partsSack(way, s)) {
            throw new IllegalArgumentException("no parting of the sack");
        }
        for (int i = 0; i < way.size; i++) {
            told.put(i, (int) way.at(i));
        }
        now.setWay(s, told, way.size);
        return now.pieces();
    }

    private boolean partsSack(Tray way, int s) {
        int left = now.pounds.at(s);
        boolean fits = way.size >= 1 && way.size <= MOST_PARTS;
        for (int i = 0; i < way.size && fits; i++) {
            long piece = way.at(i);
            fits = piece >= 1 && piece <= left;
            left = fits ? left - (int) piece : left;
        }
        return fits && left == 0 && now.piecesBeside(s) + way.size <= MOST_PIECES;
    }

    public int whole() {
        return now.makeWhole();
    }

    private void needSack(int s) {
        if (s < 0 || s >= now.sacks) {
            throw new NoSuchElementException("no such sack");
        }
    }

    private void needPiece(int p) {
        if (p < 0 || p >= now.pieces()) {
            throw new NoSuchElementException("no such piece");
        }
    }

    private void needWhat(int what, int most) {
        if (what < 0 || what > most) {
            throw new IllegalArgumentException("no such what");
        }
    }

    // ---- the run

    public int order(int k) {
        run.go();
        return run.pieceBegun(k);
    }

    public int end(int s) throws NoSuchElementException {
        needSack(s);
        run.go();
        return run.ends.at(s);
    }

    public int waits(int s) throws NoSuchElementException {
        needSack(s);
        run.go();
        return run.waitOf(s);
    }

    public int home(int person) throws IllegalArgumentException {
        if (person < 0 || person >= PERSONS) {
            throw new IllegalArgumentException("no such person");
        }
        run.go();
        return run.lastEndOf(person);
    }

    public int total(int what) {
        run.go();
        switch (what) {
            case 0:
                return run.allWaits();
            case 1:
                return run.costOfAll();
            case 2:
                return run.lateSacks();
            case 3:
                return run.lastEnd();
            case 4:
                return now.fee * now.pieces();
            case 5:
                return run.cleaned;
            default:
                return NONE;
        }
    }

    public int stands(int minute, int what) throws IllegalArgumentException {
        if (minute < 0) {
            throw new IllegalArgumentException("no such minute");
        }
        needWhat(what, 3);
        run.go();
        switch (what) {
            case 0:
                return run.standingPieces(minute);
            case 1:
                return run.standingPounds(minute);
            case 2:
                return run.busyStones(minute);
            default:
                return run.openSacks(minute);
        }
    }

    public int longest() {
        run.go();
        int found = NONE;
        for (int s = 0; s < now.sacks; s++) {
            if (found == NONE || run.waitOf(s) > run.waitOf(found)) {
                found = s;
            }
        }
        return found;
    }

    public int ahead(int p, int q) throws NoSuchElementException {
        needPiece(p);
        needPiece(q);
        run.lay();
        return run.lead(p, q, 0);
    }

    public int judge(int tray, int what)
            throws NoSuchElementException, IllegalStateException, IllegalArgumentException {
        Tray guess = needFullTray(tray);
        needWhat(what, 1);
        run.go();
        int place = 0;
        while (place < guess.size && place < run.pieces
                && guess.at(place) == run.begins.at(place)) {
            place++;
        }
        if (place == guess.size && place == run.pieces) {
            return NONE;
        }
        return what == 0 ? place : run.pieceBegun(place);
    }

    // ---- orders

    public int cost(int tray) throws NoSuchElementException, IllegalStateException {
        return tellsAnOrder(needFullTray(tray)) ? costOfTold() : NONE;
    }

    public int swap(int tray, int k)
            throws NoSuchElementException, IllegalStateException, IndexOutOfBoundsException {
        Tray row = needFullTray(tray);
        if (k < 0 || k >= row.size - 1) {
            throw new IndexOutOfBoundsException("no such places");
        }
        if (!tellsAnOrder(row)) {
            return 0;
        }
        int cost = costOfTold();
        int moved = told.at(k);
        told.put(k, told.at(k + 1));
        told.put(k + 1, moved);
        return costOfTold() - cost;
    }

    public int best(int k) {
        if (now.pieces() > MOST_ORDERED) {
            return SPENT;
        }
        search.seek();
        if (k == NONE) {
            return search.least;
        }
        return k >= 0 && k < now.pieces() ? search.first.at(k) : NONE;
    }

    public int gap() {
        if (now.stones > 1) {
            return NONE;
        }
        if (now.pieces() > MOST_ORDERED) {
            return SPENT;
        }
        search.seek();
        run.go();
        return run.costOfAll() - search.least;
    }

    private int costOfTold() {
        run.follow(told);
        return run.costOfAll();
    }

    /** Whether a tray is an ORDER of all PIECES, which stands in the row told then. */
    private boolean tellsAnOrder(Tray row) {
        int pieces = now.pieces();
        boolean all = row.size == pieces;
        seen.fill(0);
        for (int i = 0; i < pieces && all; i++) {
            long number = row.at(i);
            int p = number >= 0 && number < pieces ? (int) number : NONE;
            all = p != NONE && seen.at(p) == 0;
            seen.put(p, 1);
            told.put(i, p);
        }
        return all;
    }

    // ---- partings

    public int parting(int s, int n, int what)
            throws NoSuchElementException, IllegalArgumentException {
        needSack(s);
        if (n < 1 || n > MOST_PARTING) {
            throw new IllegalArgumentException("not so many pieces");
        }
        if (what != 0 && what != 1 && (what < FIRST_WAY || what >= FIRST_WAY + MOST_PARTING)) {
            throw new IllegalArgumentException("no such what");
        }
        if (n > 1 && now.pounds.at(s) > MOST_PARTED_POUNDS) {
            return SPENT;
        }
        trial.copyOf(now);
        partings.seek(s, n);
        if (what == 0) {
            return partings.price;
        }
        if (what == 1) {
            return partings.parts;
        }
        return what - FIRST_WAY < partings.parts ? partings.chosen.at(what - FIRST_WAY) : NONE;
    }

    public int settle(int n) throws IllegalArgumentException {
        if (n < 1 || n > MOST_SETTLING) {
            throw new IllegalArgumentException("not so many pieces");
        }
        if (isTooMuchToSettle()) {
            return SPENT;
        }
        draft.copyOf(now);
        for (int round = 1; round <= MOST_ROUNDS; round++) {
            boolean any = false;
            for (int s = 0; s < now.sacks; s++) {
                run.go();
                int price = now.worths.at(s) * run.waitOf(s) + now.fee * now.parts.at(s);
                trial.copyOf(now);
                partings.seek(s, n);
                if (partings.price < price) {
                    now.setWay(s, partings.chosen, partings.parts);
                    any = true;
                }
            }
            if (!any) {
                return round;
            }
        }
        now.copyOf(draft);
        return SPENT;
    }

    public int fee(int n) throws IllegalArgumentException {
        if (n < 2 || n > MOST_SETTLING) {
            throw new IllegalArgumentException("not so many pieces");
        }
        int least = 0;
        trial.copyOf(now);
        trial.makeWhole();
        for (int s = 0; s < trial.sacks; s++) {
            if (trial.pounds.at(s) <= MOST_PARTED_POUNDS) {
                partings.seek(s, n);
                least = Math.max(least, partings.feeAgainst(s));
                trial.setWhole(s, trial.pounds.at(s));
            }
        }
        return least;
    }

    private boolean isTooMuchToSettle() {
        boolean tooMuch = now.sacks > MOST_SETTLED_SACKS;
        for (int s = 0; s < now.sacks && !tooMuch; s++) {
            tooMuch = now.pounds.at(s) > MOST_PARTED_POUNDS;
        }
        return tooMuch;
    }

    // ---- when, with whom, by what

    public int when(int s, int what) throws NoSuchElementException, IllegalArgumentException {
        needSack(s);
        needWhat(what, 1);
        trial.copyOf(now);
        return what == 0 ? latestNotLate(s) : firstWithLeastWait(s);
    }

    private int latestNotLate(int s) {
        for (int minute = LATEST_COME; minute >= 0; minute--) {
            trial.comes.put(s, minute);
            trialRun.go();
            if (!trialRun.isLate(s)) {
                return minute;
            }
        }
        return NONE;
    }

    private int firstWithLeastWait(int s) {
        int found = NONE;
        int least = 0;
        for (int minute = 0; minute <= LATEST_COME; minute++) {
            trial.comes.put(s, minute);
            trialRun.go();
            if (found == NONE || trialRun.waitOf(s) < least) {
                found = minute;
                least = trialRun.waitOf(s);
            }
        }
        return found;
    }

    public int heaviest(int s) throws NoSuchElementException {
        needSack(s);
        trial.copyOf(now);
        for (int pounds = MOST_POUNDS; pounds >= 1; pounds--) {
            trial.setWhole(s, pounds);
            trialRun.go();
            if (!trialRun.isLate(s)) {
                return pounds;
            }
        }
        return NONE;
    }

    public int lend(int s, int t, int n)
            throws NoSuchElementException, IllegalStateException, IllegalArgumentException {
        needSack(s);
        needSack(t);
        if (!now.isWhole(s) || !now.isWhole(t)) {
            throw new IllegalStateException("a sack is parted");
        }
        int from = now.pounds.at(s);
        int into = now.pounds.at(t);
        if (s == t || n < 1 || n >= from || n > MOST_POUNDS - into) {
            throw new IllegalArgumentException("not to be lent");
        }
        trial.copyOf(now);
        trial.setWhole(s, from - n);
        trial.setWhole(t, into + n);
        trialRun.go();
        run.go();
        return trialRun.costOfAll() - run.costOfAll();
    }

    public int by(int key) throws IllegalArgumentException {
        if (key < 0 || key >= KEY_KINDS) {
            throw new IllegalArgumentException("no such key");
        }
        runByOne(key);
        return trialRun.costOfAll();
    }

    public int bestLaw() {
        int found = 0;
        int least = MORE_THAN_ANY;
        for (int key = 0; key < KEY_KINDS; key++) {
            runByOne(key);
            if (trialRun.costOfAll() < least) {
                found = key;
                least = trialRun.costOfAll();
            }
        }
        return found;
    }

    public int fits(int tray) throws NoSuchElementException, IllegalStateException {
        int bits = 0;
        if (tellsAnOrder(needFullTray(tray))) {
            for (int key = 0; key < KEY_KINDS; key++) {
                runByOne(key);
                bits |= trialRun.isOrdered(told) ? 1 << key : 0;
            }
        }
        return bits;
    }

    private void runByOne(int key) {
        trial.copyOf(now);
        trial.law.setOne(key);
        trialRun.go();
    }

    public int day(int s, int seed, int come, int greatest)
            throws NoSuchElementException, IllegalArgumentException {
        needSack(s);
        needStrangers(come, greatest);
        return waitOnDay(s, seed, come, greatest);
    }

    public int days(int s, int n, int come, int greatest, int what)
            throws NoSuchElementException, IllegalArgumentException {
        needSack(s);
        if (n < 1 || n > MOST_DAYS) {
            throw new IllegalArgumentException("not so many days");
        }
        needStrangers(come, greatest);
        needWhat(what, 2);
        int longestWait = NONE;
        int first = NONE;
        int together = 0;
        for (int seed = 1; seed <= n; seed++) {
            int wait = waitOnDay(s, seed, come, greatest);
            together += wait;
            if (wait > longestWait) {
                longestWait = wait;
                first = seed;
            }
        }
        if (what == 0) {
            return longestWait;
        }
        return what == 1 ? first : together;
    }

    private void needStrangers(int come, int greatest) {
        if (come < 0 || come > 100 || greatest < 1 || greatest > MOST_POUNDS) {
            throw new IllegalArgumentException("no such strangers");
        }
    }

    private int waitOnDay(int s, int seed, int come, int greatest) {
        trial.copyOf(now);
        trial.addStrangers(seed, come, greatest);
        trialRun.go();
        return trialRun.waitOf(s);
    }

    // ---- trays, images

    public void tray(int tray, int sort, int many)
            throws NoSuchElementException, IllegalArgumentException {
        Tray row = needTray(tray);
        if (sort < 0 || sort > 3 || many < 0 || many > MOST_PIECES) {
            throw new IllegalArgumentException("no such row");
        }
        row.clear(sort, many);
    }

    public long write(int tray, int place, long v)
            throws NoSuchElementException, IllegalStateException, IndexOutOfBoundsException {
        Tray row = needFullTray(tray);
        if (place < 0 || place >= row.size) {
            throw new IndexOutOfBoundsException("no such place");
        }
        row.put(place, v);
        return row.at(place);
    }

    public int pour(int tray) throws NoSuchElementException, IllegalStateException {
        Tray row = needFullTray(tray);
        run.go();
        int many = Math.min(row.size, run.pieces);
        for (int i = 0; i < many; i++) {
            row.put(i, run.begins.at(i));
        }
        return many;
    }

    public void image(int i) throws NoSuchElementException {
        Mill kept = needImage(i);
        kept.copyOf(now);
        kept.isMade = true;
    }

    public void restore(int i) throws NoSuchElementException, IllegalStateException {
        Mill kept = needImage(i);
        if (!kept.isMade) {
            throw new IllegalStateException("no image was made");
        }
        now.copyOf(kept);
    }

    public int count(int what) {
        switch (what) {
            case 0:
                return now.lines;
            case 1:
                return now.stones;
            case 2:
                return now.clean;
            case 3:
                return now.fee;
            case 4:
                return now.sacks;
            case 5:
                return now.pieces();
            case 6:
                return now.law.many;
            case 7:
                return now.law.small;
            case 8:
                return tape.size;
            default:
                return NONE;
        }
    }

    private Tray needTray(int i) {
        Tray row = i >= 0 && i < trays.length ? trays[i] : null;
        if (row == null) {
            throw new NoSuchElementException("no such tray");
        }
        return row;
    }

    private Tray needFullTray(int i) {
        Tray row = needTray(i);
        if (row.size == NONE) {
            throw new IllegalStateException("the tray is missing");
        }
        return row;
    }

    private Mill needImage(int i) {
        Mill kept = i >= 0 && i < images.length ? images[i] : null;
        if (kept == null) {
            throw new NoSuchElementException("no such image");
        }
        return kept;
    }

    /** A row of numbers that answers NONE and takes nothing beyond its places. */
    private static final class Row {
        private final int[] cells;

        Row(int many) {
            cells = new int[many > 0 ? many : 0];
        }

        int at(int i) {
            return i >= 0 && i < cells.length ? cells[i] : NONE;
        }

        void put(int i, int v) {
            if (i >= 0 && i < cells.length) {
                cells[i] = v;
            }
        }

        void fill(int v) {
            for (int i = 0; i < cells.length; i++) {
                cells[i] = v;
            }
        }

        void copyOf(Row from) {
            for (int i = 0; i < cells.length && i < from.cells.length; i++) {
                cells[i] = from.cells[i];
            }
        }
    }

    /** The bytes that were fed and not yet read. */
    private static final class Tape {
        private final byte[] cells = new byte[MOST_BYTES];
        private int size;

        void take(int four) {
            for (int shift = 24; shift >= 0; shift -= 8) {
                if (size >= 0 && size < cells.length) {
                    cells[size] = (byte) (four >> shift);
                    size++;
                }
            }
        }

        int at(int i) {
            return i >= 0 && i < cells.length ? cells[i] & 255 : NONE;
        }
    }

    /** A row of numbers of one sort; its size is NONE while it is MISSING. */
    private static final class Tray {
        private final long[] cells = new long[MOST_PIECES];
        private int sort;
        private int size = NONE;

        void clear(int newSort, int many) {
            sort = newSort;
            size = many;
            for (int i = 0; i < cells.length; i++) {
                cells[i] = 0;
            }
        }

        long at(int i) {
            return i >= 0 && i < cells.length ? cells[i] : NONE;
        }

        void put(int i, long v) {
            if (i >= 0 && i < cells.length) {
                cells[i] = cut(v);
            }
        }

        private long cut(long v) {
            switch (sort) {
                case 0:
                    return (byte) v;
                case 1:
                    return (short) v;
                case 2:
                    return (int) v;
                default:
                    return v;
            }
        }
    }

    /** THE LAW: its KEYS, one behind the other; without a text it is light alone. */
    private static final class Law {
        private final Row keys = new Row(MOST_KEYS);
        private int many;
        private int small;

        Law() {
            setOne(LIGHT);
        }

        void clear() {
            many = 0;
            small = 0;
        }

        void setOne(int key) {
            many = 0;
            add(key);
        }

        void add(int key) {
            keys.put(many, key);
            many++;
        }

        void copyOf(Law from) {
            keys.copyOf(from.keys);
            many = from.many;
            small = from.small;
        }
    }

    /** THE MILL, how its SACKS are PARTED, and THE LAW: what an IMAGE keeps. */
    private static final class Mill {
        private final Law law = new Law();
        private int lines;
        private int stones;
        private int clean;
        private int fee;
        private int sacks;
        private boolean isMade;
        private final Row paces = new Row(MOST_STONES);
        // A day's strangers are sacks too, as many as there may be pieces.
        private final Row pounds = new Row(MOST_PIECES);
        private final Row persons = new Row(MOST_PIECES);
        private final Row comes = new Row(MOST_PIECES);
        private final Row sorts = new Row(MOST_PIECES);
        private final Row worths = new Row(MOST_PIECES);
        private final Row homes = new Row(MOST_PIECES);
        private final Row parts = new Row(MOST_PIECES);
        private final Row cuts = new Row(MOST_PIECES * MOST_PARTS);

        void clear() {
            lines = 0;
            stones = 0;
            clean = 0;
            fee = 0;
            sacks = 0;
        }

        void addStone(int pace) {
            paces.put(stones, pace);
            stones++;
        }

        void standAtLeastOneStone() {
            if (stones == 0) {
                addStone(1);
            }
        }

        void addSack(int weight, int person, int come, int sort, int worth, int home) {
            persons.put(sacks, person);
            comes.put(sacks, come);
            sorts.put(sacks, sort);
            worths.put(sacks, worth);
            homes.put(sacks, home);
            setWhole(sacks, weight);
            sacks++;
        }

        void setWhole(int s, int weight) {
            pounds.put(s, weight);
            parts.put(s, 1);
            cuts.put(s * MOST_PARTS, weight);
        }

        void setWay(int s, Row way, int many) {
            parts.put(s, many);
            for (int i = 0; i < many && i < MOST_PARTS; i++) {
                cuts.put(s * MOST_PARTS + i, way.at(i));
            }
        }

        int cutAt(int s, int i) {
            return cuts.at(s * MOST_PARTS + i);
        }

        boolean isWhole(int s) {
            return parts.at(s) == 1;
        }

        int makeWhole() {
            int changed = 0;
            for (int s = 0; s < sacks; s++) {
                changed += isWhole(s) ? 0 : 1;
                setWhole(s, pounds.at(s));
            }
            return changed;
        }

        int firstPiece(int s) {
            int first = 0;
            for (int i = 0; i < s && i < sacks; i++) {
                first += parts.at(i);
            }
            return first;
        }

        int pieces() {
            return firstPiece(sacks);
        }

        int piecesBeside(int s) {
            return pieces() - parts.at(s);
        }

        void addStrangers(int seed, int come, int greatest) {
            int x = seed;
            for (int minute = 0; minute < DAY_MINUTES; minute++) {
                x = nextDraw(x);
                if ((x >>> 16) % 100 < come && pieces() < MOST_PIECES) {
                    x = nextDraw(x);
                    int weight = greatest > 0 ? (x >>> 16) % greatest + 1 : 1;
                    addSack(weight, STRANGER, minute, 0, 1, NONE);
                }
            }
        }

        private static int nextDraw(int x) {
            return 1103515245 * x + 12345;
        }

        void copyOf(Mill from) {
            law.copyOf(from.law);
            lines = from.lines;
            stones = from.stones;
            clean = from.clean;
            fee = from.fee;
            sacks = from.sacks;
            paces.copyOf(from.paces);
            pounds.copyOf(from.pounds);
            persons.copyOf(from.persons);
            comes.copyOf(from.comes);
            sorts.copyOf(from.sorts);
            worths.copyOf(from.worths);
            homes.copyOf(from.homes);
            parts.copyOf(from.parts);
            cuts.copyOf(from.cuts);
        }
    }

    /** The TOKENS of a text on the tape, and its first FAULT. */
    private static final class Reader {
        private static final int AT_END = 0;
        private static final int WORD = 1;
        private static final int NUMBER = 2;
        private static final int SIGN = 3;
        private static final int UNKNOWN = 4;
        private static final int MOST_DIGITS = 3;

        private final Tape tape;
        private int length;
        private int kind;
        private int from;
        private int to;
        private int value;
        private int fault;
        private int place = NONE;

        Reader(Tape tape) {
            this.tape = tape;
        }

        void open(int n) {
            length = n;
            to = 0;
            fault = 0;
            place = NONE;
            advance();
        }

        boolean goesOn() {
            return fault == 0 && kind != AT_END;
        }

        /** Only the first fault is kept; a sign that begins no token is one wherever it stands. */
        void fail(int which) {
            if (fault == 0) {
                fault = kind == UNKNOWN ? NO_TOKEN : which;
                place = from;
            }
        }

        boolean spells(String word) {
            boolean same = kind == WORD && to - from == word.length();
            for (int i = 0; i < word.length() && same; i++) {
                same = tape.at(from + i) == word.charAt(i);
            }
            return same;
        }

        boolean takes(String word) {
            boolean same = spells(word);
            if (same) {
                advance();
            }
            return same;
        }

        void expect(String word) {
            if (spells(word)) {
                advance();
            } else {
                fail(OUT_OF_PLACE);
            }
        }

        int number(int least, int most) {
            int number = value;
            if (kind != NUMBER) {
                fail(OUT_OF_PLACE);
                return least;
            }
            if (number < least || number > most) {
                fail(OUT_OF_BOUNDS);
                return least;
            }
            advance();
            return number;
        }

        void endLine() {
            if (kind == SIGN) {
                advance();
            } else {
                fail(OUT_OF_PLACE);
            }
        }

        void advance() {
            while (to < length && (tape.at(to) == ' ' || tape.at(to) == '\n')) {
                to++;
            }
            from = to;
            if (to >= length) {
                kind = AT_END;
                return;
            }
            int sign = tape.at(to);
            to++;
            if (isLetter(sign)) {
                kind = WORD;
                while (to < length && isLetter(tape.at(to))) {
                    to++;
                }
            } else if (isDigit(sign)) {
                value = sign - '0';
                while (to < length && isDigit(tape.at(to))) {
                    value = to - from < MOST_DIGITS ? value * 10 + tape.at(to) - '0' : value;
                    to++;
                }
                kind = to - from <= MOST_DIGITS ? NUMBER : UNKNOWN;
            } else {
                kind = sign == ';' ? SIGN : UNKNOWN;
            }
        }

        private static boolean isLetter(int sign) {
            return sign >= 'a' && sign <= 'z';
        }

        private static boolean isDigit(int sign) {
            return sign >= '0' && sign <= '9';
        }
    }

    /** Reads both texts into a mill that is taken only if there was no FAULT. */
    private static final class Texts {
        private final Reader reader;
        private final Mill mill;

        Texts(Reader reader, Mill mill) {
            this.reader = reader;
            this.mill = mill;
        }

        void readMill(int n) {
            mill.clear();
            reader.open(n);
            for (int i = 0; i < MOST_BYTES && reader.goesOn(); i++) {
                readLine();
                mill.lines++;
            }
            mill.standAtLeastOneStone();
        }

        void readLaw(int n) {
            mill.law.clear();
            reader.open(n);
            for (int i = 0; i < MOST_BYTES && reader.goesOn(); i++) {
                readRule();
            }
        }

        private void readLine() {
            if (reader.spells("stone")) {
                readStone();
            } else if (reader.takes("clean")) {
                mill.clean = reader.number(0, 60);
            } else if (reader.takes("fee")) {
                mill.fee = reader.number(0, 99);
            } else if (reader.spells("sack")) {
                readSack();
            } else {
                reader.fail(OUT_OF_PLACE);
            }
            reader.endLine();
        }

        private void readStone() {
            if (mill.stones >= MOST_STONES) {
                reader.fail(ONE_TOO_MANY);
                return;
            }
            reader.advance();
            mill.addStone(reader.number(1, 9));
        }

        private void readSack() {
            if (mill.sacks >= MOST_SACKS) {
                reader.fail(ONE_TOO_MANY);
                return;
            }
            reader.advance();
            int pounds = reader.number(1, MOST_POUNDS);
            reader.expect("of");
            int person = reader.number(0, PERSONS - 1);
            reader.expect("at");
            int come = reader.number(0, LATEST_COME);
            int sort = reader.takes("sort") ? reader.number(0, 3) : 0;
            int worth = reader.takes("worth") ? reader.number(1, 9) : 1;
            int home = reader.takes("home") ? reader.number(0, NEVER_HOME - 1) : NONE;
            mill.addSack(pounds, person, come, sort, worth, home);
        }

        private void readRule() {
            if (reader.takes("by")) {
                readKey();
                for (int i = 0; i < MOST_BYTES && reader.goesOn() && reader.takes("then"); i++) {
                    readKey();
                }
            } else if (reader.takes("small")) {
                mill.law.small = reader.number(0, 99);
            } else {
                reader.fail(OUT_OF_PLACE);
            }
            reader.endLine();
        }

        private void readKey() {
            int key = keyHere();
            if (key == NONE) {
                reader.fail(OUT_OF_PLACE);
            } else if (mill.law.many >= MOST_KEYS) {
                reader.fail(ONE_TOO_MANY);
            } else {
                mill.law.add(key);
                reader.advance();
            }
        }

        private int keyHere() {
            if (reader.spells("light")) {
                return LIGHT;
            }
            if (reader.spells("heavy")) {
                return HEAVY;
            }
            if (reader.spells("early")) {
                return EARLY;
            }
            if (reader.spells("late")) {
                return LATE;
            }
            if (reader.spells("dear")) {
                return DEAR;
            }
            if (reader.spells("due")) {
                return DUE;
            }
            if (reader.spells("turn")) {
                return TURN;
            }
            return reader.spells("same") ? SAME : NONE;
        }
    }

    /** THE RUN of a mill, or what comes of an ORDER of all its PIECES. */
    private static final class Run {
        private final Mill mill;
        private int pieces;
        private int cleaned;
        // Of each piece; it is taken when a stone begins with it, and ground behind cleaning.
        private final Row sackOf = new Row(MOST_PIECES);
        private final Row pounds = new Row(MOST_PIECES);
        private final Row taken = new Row(MOST_PIECES);
        private final Row ground = new Row(MOST_PIECES);
        private final Row done = new Row(MOST_PIECES);
        private final Row stoneOf = new Row(MOST_PIECES);
        private final Row begins = new Row(MOST_PIECES);
        // Of each sack.
        private final Row ends = new Row(MOST_PIECES);
        private final Row dues = new Row(MOST_PIECES);
        // Of each stone.
        private final Row free = new Row(MOST_STONES);
        private final Row lastSort = new Row(MOST_STONES);
        // Of each person.
        private final Row turns = new Row(PERSONS);

        Run(Mill mill) {
            this.mill = mill;
        }

        void go() {
            lay();
            for (int k = 0; k < pieces; k++) {
                int come = firstComing();
                int stone = firstStone(come);
                int minute = Math.max(free.at(stone), come);
                begin(k, firstStanding(stone, minute), stone, minute);
            }
        }

        /** All pieces in a told order on stone 0 alone. */
        void follow(Row order) {
            lay();
            for (int k = 0; k < pieces; k++) {
                int p = order.at(k);
                begin(k, p, 0, Math.max(free.at(0), comeOf(p)));
            }
        }

        /** All pieces are there, and nothing is begun. */
        void lay() {
            pieces = 0;
            cleaned = 0;
            for (int s = 0; s < mill.sacks; s++) {
                dues.put(s, mill.homes.at(s) == NONE ? NEVER_HOME : mill.homes.at(s));
                for (int i = 0; i < mill.parts.at(s); i++) {
                    sackOf.put(pieces, s);
                    pounds.put(pieces, mill.cutAt(s, i));
                    pieces++;
                }
            }
            taken.fill(NONE);
            ends.fill(0);
            free.fill(0);
            lastSort.fill(NONE);
            turns.fill(0);
        }

        private void begin(int k, int p, int stone, int minute) {
            int s = sackOf.at(p);
            int sort = mill.sorts.at(s);
            int person = mill.persons.at(s);
            int last = lastSort.at(stone);
            int cleaning = last == NONE || last == sort ? 0 : mill.clean;
            int end = minute + cleaning + mill.paces.at(stone) * pounds.at(p);
            begins.put(k, p);
            taken.put(p, minute);
            ground.put(p, minute + cleaning);
            done.put(p, end);
            stoneOf.put(p, stone);
            ends.put(s, Math.max(ends.at(s), end));
            free.put(stone, end);
            lastSort.put(stone, sort);
            turns.put(person, turns.at(person) + 1);
            cleaned += cleaning;
        }

        private int firstComing() {
            int first = MORE_THAN_ANY;
            for (int p = 0; p < pieces; p++) {
                if (taken.at(p) == NONE) {
                    first = Math.min(first, comeOf(p));
                }
            }
            return first;
        }

        private int firstStone(int come) {
            int first = 0;
            for (int stone = 1; stone < mill.stones; stone++) {
                if (Math.max(free.at(stone), come) < Math.max(free.at(first), come)) {
                    first = stone;
                }
            }
            return first;
        }

        private int firstStanding(int stone, int minute) {
            int first = NONE;
            for (int p = 0; p < pieces; p++) {
                if (taken.at(p) == NONE && comeOf(p) <= minute
                        && (first == NONE || lead(p, first, stone) > 0)) {
                    first = p;
                }
            }
            return first;
        }

        /** The place of the KEY by which p is ahead of q, below 0 if q is, 0 by none. */
        int lead(int p, int q, int stone) {
            for (int i = 0; i < mill.law.many; i++) {
                int margin = margin(mill.law.keys.at(i), p, q, stone);
                if (margin != 0) {
                    return margin > 0 ? i + 1 : -i - 1;
                }
            }
            return 0;
        }

        private int margin(int key, int p, int q, int stone) {
            int s = sackOf.at(p);
            int t = sackOf.at(q);
            int small = mill.law.small;
            int last = lastSort.at(stone);
            switch (key) {
                case LIGHT:
                    return Math.max(pounds.at(q), small) - Math.max(pounds.at(p), small);
                case HEAVY:
                    return Math.max(pounds.at(p), small) - Math.max(pounds.at(q), small);
                case EARLY:
                    return mill.comes.at(t) - mill.comes.at(s);
                case LATE:
                    return mill.comes.at(s) - mill.comes.at(t);
                case DEAR:
                    return mill.worths.at(s) * pounds.at(q) - mill.worths.at(t) * pounds.at(p);
                case DUE:
                    return dues.at(t) - dues.at(s);
                case TURN:
                    return turns.at(mill.persons.at(t)) - turns.at(mill.persons.at(s));
                case SAME:
                    return (mill.sorts.at(s) == last ? 1 : 0) - (mill.sorts.at(t) == last ? 1 : 0);
                default:
                    return 0;
            }
        }

        private int comeOf(int p) {
            return mill.comes.at(sackOf.at(p));
        }

        int pieceBegun(int k) {
            return k >= 0 && k < pieces ? begins.at(k) : NONE;
        }

        boolean isOrdered(Row order) {
            boolean same = true;
            for (int k = 0; k < pieces && same; k++) {
                same = begins.at(k) == order.at(k);
            }
            return same;
        }

        int waitOf(int s) {
            return ends.at(s) - mill.comes.at(s);
        }

        boolean isLate(int s) {
            return ends.at(s) > mill.homes.at(s) && mill.homes.at(s) != NONE;
        }

        int costOfAll() {
            int cost = 0;
            for (int s = 0; s < mill.sacks; s++) {
                cost += mill.worths.at(s) * waitOf(s);
            }
            return cost;
        }

        int allWaits() {
            int together = 0;
            for (int s = 0; s < mill.sacks; s++) {
                together += waitOf(s);
            }
            return together;
        }

        int lateSacks() {
            int many = 0;
            for (int s = 0; s < mill.sacks; s++) {
                many += isLate(s) ? 1 : 0;
            }
            return many;
        }

        int lastEnd() {
            int last = 0;
            for (int s = 0; s < mill.sacks; s++) {
                last = Math.max(last, ends.at(s));
            }
            return last;
        }

        int lastEndOf(int person) {
            int last = NONE;
            for (int s = 0; s < mill.sacks; s++) {
                last = mill.persons.at(s) == person ? Math.max(last, ends.at(s)) : last;
            }
            return last;
        }

        int standingPieces(int minute) {
            int many = 0;
            for (int p = 0; p < pieces; p++) {
                many += isStanding(p, minute) ? 1 : 0;
            }
            return many;
        }

        int standingPounds(int minute) {
            int together = 0;
            for (int p = 0; p < pieces; p++) {
                together += isStanding(p, minute) ? pounds.at(p) : 0;
            }
            return together;
        }

        /** A piece for which a stone is being cleaned stands there no more. */
        private boolean isStanding(int p, int minute) {
            return comeOf(p) <= minute && taken.at(p) > minute;
        }

        int busyStones(int minute) {
            int many = 0;
            for (int p = 0; p < pieces; p++) {
                many += taken.at(p) <= minute && done.at(p) > minute ? 1 : 0;
            }
            return many;
        }

        int openSacks(int minute) {
            int many = 0;
            for (int s = 0; s < mill.sacks; s++) {
                many += mill.comes.at(s) <= minute && ends.at(s) > minute ? 1 : 0;
            }
            return many;
        }
    }

    /** BEST: goes through all ORDERS, the first ones first, and leaves those that cost too much. */
    private static final class Search {
        private final Mill mill;
        private final Run run;
        private final Row path = new Row(MOST_ORDERED);
        private final Row used = new Row(MOST_ORDERED);
        private final Row left = new Row(MOST_ORDERED);
        // Behind so many pieces: the minute, the sort that was ground last, the cost so far.
        private final Row minutes = new Row(MOST_ORDERED + 1);
        private final Row lastSorts = new Row(MOST_ORDERED + 1);
        private final Row costs = new Row(MOST_ORDERED + 1);
        private final Row first = new Row(MOST_ORDERED);
        private int least;

        Search(Mill mill, Run run) {
            this.mill = mill;
            this.run = run;
        }

        /** Called only with so few pieces that the rows hold them. */
        void seek() {
            run.lay();
            used.fill(0);
            for (int s = 0; s < mill.sacks; s++) {
                left.put(s, mill.parts.at(s));
            }
            minutes.put(0, 0);
            lastSorts.put(0, NONE);
            costs.put(0, 0);
            least = MORE_THAN_ANY;
            extend(this, 0);
        }

        private static void extend(Search search, int depth) {
            if (depth > MOST_ORDERED || search.costs.at(depth) >= search.least) {
                return;
            }
            if (depth == search.run.pieces) {
                search.least = search.costs.at(depth);
                search.first.copyOf(search.path);
                return;
            }
            for (int p = 0; p < search.run.pieces; p++) {
                if (search.used.at(p) == 0) {
                    search.place(depth, p);
                    extend(search, depth + 1);
                    search.takeBack(p);
                }
            }
        }

        private void place(int depth, int p) {
            int s = run.sackOf.at(p);
            int sort = mill.sorts.at(s);
            int last = lastSorts.at(depth);
            int come = mill.comes.at(s);
            int cleaning = last == NONE || last == sort ? 0 : mill.clean;
            int end = Math.max(minutes.at(depth), come) + cleaning
                    + mill.paces.at(0) * run.pounds.at(p);
            path.put(depth, p);
            used.put(p, 1);
            left.put(s, left.at(s) - 1);
            minutes.put(depth + 1, end);
            lastSorts.put(depth + 1, sort);
            int more = left.at(s) == 0 ? mill.worths.at(s) * (end - come) : 0;
            costs.put(depth + 1, costs.at(depth) + more);
        }

        private void takeBack(int p) {
            int s = run.sackOf.at(p);
            used.put(p, 0);
            left.put(s, left.at(s) + 1);
        }
    }

    /** The ways to part one sack, tried on a mill of its own. */
    private static final class Partings {
        private final Mill trial;
        private final Run run;
        private final Row way = new Row(MOST_PARTS);
        private final Row chosen = new Row(MOST_PARTS);
        // Of each number of pieces.
        private final Row leastWaits = new Row(MOST_PARTS + 1);
        private int price;
        private int parts;
        private int most;

        Partings(Mill trial, Run run) {
            this.trial = trial;
            this.run = run;
        }

        /** PARTING of sack s of the trial mill into n pieces at most; it stays parted somehow. */
        void seek(int s, int n) {
            int room = MOST_PIECES - trial.piecesBeside(s);
            most = Math.min(n, Math.min(trial.pounds.at(s), room));
            parts = 0;
            for (int k = 1; k <= most; k++) {
                leastWaits.put(k, MORE_THAN_ANY);
                boolean more = true;
                startWays(trial.pounds.at(s), k);
                for (int i = 0; i < WAYS_BOUND && more; i++) {
                    trial.setWay(s, way, k);
                    run.go();
                    weigh(s, k);
                    more = findsNextWay(k);
                }
            }
        }

        /** The first of like ones stays, and those with fewer pieces come first. */
        private void weigh(int s, int k) {
            int wait = run.waitOf(s);
            int tried = trial.worths.at(s) * wait + trial.fee * k;
            leastWaits.put(k, Math.min(leastWaits.at(k), wait));
            if (parts == 0 || tried < price) {
                price = tried;
                parts = k;
                chosen.copyOf(way);
            }
        }

        /** The least fee by which the sack sought last would stay whole. */
        int feeAgainst(int s) {
            int least = 0;
            for (int k = 2; k <= most; k++) {
                int gain = trial.worths.at(s) * (leastWaits.at(1) - leastWaits.at(k));
                least = Math.max(least, dividedUp(gain, k - 1));
            }
            return least;
        }

        private static int dividedUp(int gain, int among) {
            return among > 0 && gain > 0 ? (gain + among - 1) / among : 0;
        }

        private void startWays(int pounds, int k) {
            way.put(0, pounds - k + 1);
            for (int i = 1; i < k; i++) {
                way.put(i, 1);
            }
        }

        /** From the greatest first piece down, then the second, as like ones are chosen. */
        private boolean findsNextWay(int k) {
            int behind = way.at(k - 1) + 1;
            for (int i = k - 2; i >= 0; i--) {
                int lighter = way.at(i) - 1;
                if (behind <= lighter * (k - 1 - i)) {
                    way.put(i, lighter);
                    spread(i + 1, k, behind, lighter);
                    return true;
                }
                behind += way.at(i);
            }
            return false;
        }

        private void spread(int from, int k, int pounds, int heaviestOne) {
            int left = pounds;
            for (int i = from; i < k; i++) {
                int here = Math.min(heaviestOne, left - (k - 1 - i));
                way.put(i, here);
                left -= here;
            }
        }
    }
}
