/**
 * A hall of plug-in parts, as the numbered promises of ../shared/DOC.md tell it; words in capitals
 * are that document's.
 *
 * <p>Shelves and things are all held as numbers in one Stock, so that taking back an ACT, whatever
 * it did, is putting back the numbers that it changed.
 */
public final class PatchHall {

    // The kinds, by the numbers that the document tells them by.
    private static final int PLAIN = 0;
    private static final int SHAPER = 1;
    private static final int CLIP = 2;
    private static final int FOLD = 3;
    private static final int RIPPLE = 4;
    private static final int STORE = 5;
    private static final int LAG = 6;
    private static final int ECHO = 7;
    private static final int HALL = 8;
    private static final int COUNTER = 9;
    private static final int CLOCK = 10;
    private static final int METER = 11;
    private static final int TICKER = 12;
    private static final int NUMBERS = 13;
    private static final int BYTES = 14;
    private static final int LONGS = 15;
    private static final int TABLE = 16;
    private static final int ROW_OF_PLAIN = 17;
    private static final int ROW_OF_SHAPER = 18;
    private static final int ROW_OF_CLIP = 19;
    private static final int ROW_OF_ECHO = 20;
    private static final int ROW_OF_TICKER = 21;
    private static final int ROW_OF_CLOCK = 22;
    private static final int BOARD_OF_PLAIN = 23;
    private static final int BOARD_OF_CLIP = 24;

    // Sets of kinds, a bit a kind: a thing belongs to a set if it is UNDER one of its kinds.
    private static final int ALL_KINDS = -1;
    private static final int PARTS = 1 << PLAIN;
    private static final int NUMBER_ROWS = 1 << NUMBERS | 1 << BYTES | 1 << LONGS;
    private static final int ROWS_OF_ROWS = 1 << TABLE | 1 << BOARD_OF_PLAIN;
    private static final int ROWS_OF_THINGS = ROWS_OF_ROWS | 1 << ROW_OF_PLAIN | 1 << ROW_OF_TICKER;
    private static final int ROWS = NUMBER_ROWS | ROWS_OF_THINGS;
    private static final int PLAYED = PARTS | 1 << ROW_OF_PLAIN | 1 << BOARD_OF_PLAIN;
    private static final int TICKING = 1 << TICKER | 1 << ROW_OF_TICKER;

    // What can be told of a thing, by the numbers with which tell() asks for it.
    private static final int KIND = 0;
    private static final int NUMBER = 1;
    private static final int KNOB = 2;
    private static final int USES = 3;
    private static final int BENDS = 4;
    private static final int HELD = 5;
    private static final int COUNT = 6;
    private static final int LOAD = 7;
    private static final int TOP = 8;
    private static final int LEVEL = 9;

    // WHY.
    private static final int DONE = 0;
    private static final int BAD_NUMBER = 1;
    private static final int NOTHING_THERE = 2;
    private static final int OTHER_KIND = 3;
    private static final int NO_PLACE = 4;
    private static final int NO_FIT = 5;
    private static final int NO_ROOM = 6;
    private static final int NOT_NOW = 7;

    // The calls that can become lines of the sheet.
    private static final int MAKE = 0;
    private static final int LAY = 1;
    private static final int PLUG = 2;
    private static final int PULL = 3;
    private static final int COPY = 4;
    private static final int WRITE = 5;
    private static final int SET_KNOB = 6;
    private static final int PLAY = 7;
    private static final int RUN = 8;
    private static final int TICKS = 9;
    private static final int REST = 10;
    private static final int WHEN = 11;

    private static final int NOTHING = -1;
    private static final int SHELVES = 16;
    private static final int MOST_THINGS = 60;
    private static final int MOST_PLACES = 12;
    private static final int MOST_LINES = 16;
    private static final int MOST_TIMES = 4;
    private static final int MOST_TICKS = 8;
    private static final int MOST_KNOB = 1000;
    private static final int FIRST_KNOB = 8;

    private final Stock stock;
    private final Chain chain;
    private final Sheet sheet;
    private int reason;

    public PatchHall() {
        stock = new Stock();
        chain = new Chain();
        sheet = new Sheet();
        reason = DONE;
    }

    public int make(int s, int k, int n) {
        return sheet.recording
            ? noteDown(new Line(MAKE, s, k, n, 0, 0))
            : keepIfDone(makeThing(s, k, n));
    }

    public int lay(int s, int t) {
        return sheet.recording
            ? noteDown(new Line(LAY, s, t, 0L, 0, 0))
            : keepIfDone(layOver(s, t));
    }

    public int plug(int s, int i, int t) {
        return sheet.recording
            ? noteDown(new Line(PLUG, s, i, t, 0, 0))
            : keepIfDone(plugIn(s, i, t));
    }

    public int pull(int s, int i, int t) {
        return sheet.recording
            ? noteDown(new Line(PULL, s, i, t, 0, 0))
            : keepIfDone(pullOut(s, i, t));
    }

    public int copy(int s, int i, int t, int j, int n) {
        if (sheet.recording) {
            return noteDown(new Line(COPY, s, i, t, j, n));
        }
        int copied = copyPlaces(s, i, t, j, n);
        return reason == NO_FIT ? keep(copied) : keepIfDone(copied);
    }

    public int write(int s, int i, long v) {
        return sheet.recording
            ? noteDown(new Line(WRITE, s, i, v, 0, 0))
            : keepIfDone(writeNumber(s, i, v));
    }

    public int knob(int s, int v) {
        return sheet.recording
            ? noteDown(new Line(SET_KNOB, s, v, 0L, 0, 0))
            : keepIfDone(setKnob(s, v));
    }

    public int play(int s, int x) {
        return sheet.recording
            ? noteDown(new Line(PLAY, s, x, 0L, 0, 0))
            : keepIfDone(playOnce(s, x));
    }

    public int run(int s, int t) {
        return sheet.recording
            ? noteDown(new Line(RUN, s, t, 0L, 0, 0))
            : keepIfDone(runOver(s, t));
    }

    public int ticks(int s, int n) {
        return sheet.recording
            ? noteDown(new Line(TICKS, s, n, 0L, 0, 0))
            : keepIfDone(tickOn(s, n));
    }

    public int rest(int s) {
        return sheet.recording
            ? noteDown(new Line(REST, s, 0, 0L, 0, 0))
            : keepIfDone(restAll(s));
    }

    public int when(int s, int k) {
        return sheet.recording
            ? noteDown(new Line(WHEN, s, k, 0L, 0, 0))
            : refuse(NOT_NOW);
    }

    public int begin() {
        if (sheet.recording) {
            return refuse(NOT_NOW);
        }
        reason = DONE;
        sheet.startAnew();
        return 1;
    }

    public int end() {
        if (!sheet.recording) {
            return refuse(NOT_NOW);
        }
        reason = DONE;
        sheet.recording = false;
        return sheet.length;
    }

    public int carry(int m) {
        if (m < 1 || m > MOST_TIMES) {
            return refuse(BAD_NUMBER);
        }
        if (sheet.recording) {
            return refuse(NOT_NOW);
        }
        reason = DONE;
        int sum = 0;
        for (int time = 1; time <= m; time++) {
            boolean passedOver = false;
            for (int n = 1; n <= sheet.length; n++) {
                if (passedOver) {
                    passedOver = false;
                    continue;
                }
                Line line = sheet.lineNumbered(n);
                int answer = perform(line);
                if (reason != DONE) {
                    stock.dropChanges();
                    return n;
                }
                sum += answer;
                passedOver = answer == 0 && isWhen(line);
            }
        }
        return keep(sum);
    }

    public int undo() {
        if (sheet.recording || stock.actsKept == 0) {
            return refuse(NOT_NOW);
        }
        reason = DONE;
        stock.takeBackAct();
        return stock.actsKept;
    }

    public int acts() {
        reason = DONE;
        return stock.actsKept;
    }

    public int ask(int s, int k) {
        return askWhether(s, k);
    }

    public long take(int s, int k, int i) {
        if (!isShelf(s) || !Kinds.isKind(k)) {
            return refuse(BAD_NUMBER);
        }
        if (holdsNone(s, 1 << k)) {
            return 0L;
        }
        int thing = stock.onShelf(s);
        return Kinds.isUnderAny(k, ROWS) ? takeFromRow(thing, k, i) : takeFromOther(thing, k);
    }

    public int size(int s) {
        return holdsNone(s, ROWS) ? 0 : stock.places(stock.onShelf(s));
    }

    public long read(int s, int i) {
        return hasNoPlace(s, NUMBER_ROWS, i) ? 0L : stock.atPlace(stock.onShelf(s), i);
    }

    public int at(int s, int i, int j) {
        if (hasNoPlace(s, ROWS_OF_ROWS, i)) {
            return 0;
        }
        int row = (int) stock.atPlace(stock.onShelf(s), i);
        if (row == NOTHING) {
            return refuse(NOTHING_THERE);
        }
        if (!stock.hasPlace(row, j)) {
            return refuse(NO_PLACE);
        }
        int there = (int) stock.atPlace(row, j);
        if (there == NOTHING && stock.isIn(row, ROWS_OF_THINGS)) {
            return refuse(NOTHING_THERE);
        }
        return there;
    }

    public int tell(int s, int q) {
        if (q < KIND || q > LEVEL) {
            return refuse(BAD_NUMBER);
        }
        if (holdsNone(s, ALL_KINDS)) {
            return 0;
        }
        int thing = stock.onShelf(s);
        return q == LOAD ? Rules.load(stock, thing) : stock.trait(thing, q);
    }

    public int why() {
        return reason;
    }

    private int refuse(int because) {
        reason = because;
        return 0;
    }

    private static boolean isShelf(int s) {
        return s >= 0 && s < SHELVES;
    }

    /** Looks at the reasons that most calls begin with, in their order, and leaves WHY as they say. */
    private boolean holdsNone(int s, int kinds) {
        reason = DONE;
        if (!isShelf(s)) {
            reason = BAD_NUMBER;
        } else if (stock.onShelf(s) == NOTHING) {
            reason = NOTHING_THERE;
        } else if (!stock.isIn(stock.onShelf(s), kinds)) {
            reason = OTHER_KIND;
        }
        return reason != DONE;
    }

    /** The same for a row, with the reason that stands next: a place that it has not. */
    private boolean hasNoPlace(int s, int kinds, int i) {
        if (!holdsNone(s, kinds) && !stock.hasPlace(stock.onShelf(s), i)) {
            reason = NO_PLACE;
        }
        return reason != DONE;
    }

    /** The first two reasons of the calls that want a thing on each of two shelves. */
    private boolean isEitherEmpty(int s, int t) {
        reason = DONE;
        if (!isShelf(s) || !isShelf(t)) {
            reason = BAD_NUMBER;
        } else if (stock.onShelf(s) == NOTHING || stock.onShelf(t) == NOTHING) {
            reason = NOTHING_THERE;
        }
        return reason != DONE;
    }

    private int keepIfDone(int answer) {
        return reason == DONE ? keep(answer) : answer;
    }

    private int keep(int answer) {
        if (stock.isHistoryFull()) {
            stock.dropChanges();
            return refuse(NO_ROOM);
        }
        stock.keepAct();
        return answer;
    }

    private int noteDown(Line line) {
        if (sheet.isFull()) {
            return refuse(NO_ROOM);
        }
        reason = DONE;
        return sheet.add(line);
    }

    private static boolean isWhen(Line line) {
        return line != null && line.call == WHEN;
    }

    private int perform(Line line) {
        if (line == null) {
            return 0;
        }
        switch (line.call) {
            case MAKE: return makeThing(line.a, line.b, (int) line.c);
            case LAY: return layOver(line.a, line.b);
            case PLUG: return plugIn(line.a, line.b, (int) line.c);
            case PULL: return pullOut(line.a, line.b, (int) line.c);
            case COPY: return copyPlaces(line.a, line.b, (int) line.c, line.d, line.e);
            case WRITE: return writeNumber(line.a, line.b, line.c);
            case SET_KNOB: return setKnob(line.a, line.b);
            case PLAY: return playOnce(line.a, line.b);
            case RUN: return runOver(line.a, line.b);
            case TICKS: return tickOn(line.a, line.b);
            case REST: return restAll(line.a);
            default: return askWhether(line.a, line.b);
        }
    }

    private int makeThing(int s, int k, int n) {
        reason = DONE;
        if (!isShelf(s) || !Kinds.isMade(k) || n < 0 || n > MOST_PLACES) {
            return refuse(BAD_NUMBER);
        }
        if (stock.thingsMade() >= MOST_THINGS) {
            return refuse(NO_ROOM);
        }
        int thing = stock.add(k, n);
        stock.setShelf(s, thing);
        return thing;
    }

    private int layOver(int s, int t) {
        reason = DONE;
        if (!isShelf(s) || !isShelf(t)) {
            return refuse(BAD_NUMBER);
        }
        return putOnShelf(t, stock.onShelf(s));
    }

    private int putOnShelf(int s, int thing) {
        stock.setShelf(s, thing);
        return thing == NOTHING ? 0 : 1;
    }

    private int plugIn(int s, int i, int t) {
        if (!isShelf(t)) {
            return refuse(BAD_NUMBER);
        }
        if (hasNoPlace(s, ROWS_OF_THINGS, i)) {
            return 0;
        }
        int row = stock.onShelf(s);
        int thing = stock.onShelf(t);
        if (!stock.fits(thing, row)) {
            return refuse(NO_FIT);
        }
        long before = stock.atPlace(row, i);
        stock.setPlace(row, i, thing);
        return before == NOTHING ? 0 : 1;
    }

    private int pullOut(int s, int i, int t) {
        if (!isShelf(t)) {
            return refuse(BAD_NUMBER);
        }
        if (hasNoPlace(s, ROWS_OF_THINGS, i)) {
            return 0;
        }
        return putOnShelf(t, (int) stock.atPlace(stock.onShelf(s), i));
    }

    private int copyPlaces(int s, int i, int t, int j, int n) {
        if (isEitherEmpty(s, t)) {
            return 0;
        }
        int from = stock.onShelf(s);
        int to = stock.onShelf(t);
        if (!Kinds.isCopied(stock.trait(from, KIND), stock.trait(to, KIND))) {
            return refuse(OTHER_KIND);
        }
        if (!stock.hasPlaces(from, i, n) || !stock.hasPlaces(to, j, n)) {
            return refuse(NO_PLACE);
        }
        int fitting = stock.howManyFit(from, i, to, n);
        stock.movePlaces(from, i, to, j, fitting);
        if (fitting < n) {
            reason = NO_FIT;
        }
        return fitting;
    }

    private int writeNumber(int s, int i, long v) {
        if (hasNoPlace(s, NUMBER_ROWS, i)) {
            return 0;
        }
        int row = stock.onShelf(s);
        stock.setPlace(row, i, Kinds.asHeldIn(stock.trait(row, KIND), v));
        return 1;
    }

    private int setKnob(int s, int v) {
        if (v < -MOST_KNOB || v > MOST_KNOB) {
            return refuse(BAD_NUMBER);
        }
        if (holdsNone(s, PARTS)) {
            return 0;
        }
        int part = stock.onShelf(s);
        int before = stock.trait(part, KNOB);
        stock.setTrait(part, KNOB, v);
        return before;
    }

    private int playOnce(int s, int x) {
        if (holdsNone(s, PLAYED)) {
            return 0;
        }
        chain.lineUp(stock, stock.onShelf(s));
        return playChain(x);
    }

    private int playChain(int x) {
        int y = x;
        for (int p = 0; p < chain.length; p++) {
            y = Rules.turn(stock, chain.partAt(p), y);
        }
        return y;
    }

    private int runOver(int s, int t) {
        if (isEitherEmpty(s, t)) {
            return 0;
        }
        int played = stock.onShelf(s);
        int row = stock.onShelf(t);
        if (!stock.isIn(played, PLAYED) || !stock.isIn(row, 1 << NUMBERS)) {
            return refuse(OTHER_KIND);
        }
        chain.lineUp(stock, played);
        int places = stock.places(row);
        for (int i = 0; i < places; i++) {
            stock.setPlace(row, i, playChain((int) stock.atPlace(row, i)));
        }
        return places;
    }

    private int tickOn(int s, int n) {
        if (n < 0 || n > MOST_TICKS) {
            return refuse(BAD_NUMBER);
        }
        if (holdsNone(s, TICKING)) {
            return 0;
        }
        int thing = stock.onShelf(s);
        if (stock.isIn(thing, 1 << TICKER)) {
            return Rules.ticksBy(stock, thing, n);
        }
        int sum = 0;
        for (int i = 0; i < stock.places(thing); i++) {
            sum += Rules.ticksBy(stock, (int) stock.atPlace(thing, i), n);
        }
        return sum;
    }

    private int restAll(int s) {
        if (holdsNone(s, PLAYED)) {
            return 0;
        }
        chain.lineUp(stock, stock.onShelf(s));
        for (int p = 0; p < chain.length; p++) {
            Rules.putToRest(stock, chain.partAt(p));
        }
        return chain.length;
    }

    private int askWhether(int s, int k) {
        reason = DONE;
        if (!isShelf(s) || !Kinds.isKind(k)) {
            return refuse(BAD_NUMBER);
        }
        return stock.isIn(stock.onShelf(s), 1 << k) ? 1 : 0;
    }

    private long takeFromRow(int row, int k, int i) {
        if (!stock.hasPlace(row, i)) {
            return refuse(NO_PLACE);
        }
        long there = stock.atPlace(row, i);
        if (Kinds.isUnderAny(k, NUMBER_ROWS)) {
            return there;
        }
        if (there == NOTHING) {
            return refuse(NOTHING_THERE);
        }
        return Kinds.isUnderAny(k, ROWS_OF_ROWS) ? stock.places((int) there) : there;
    }

    private int takeFromOther(int thing, int k) {
        switch (k) {
            case PLAIN: return stock.trait(thing, USES);
            case SHAPER: return Rules.load(stock, thing);
            case CLIP: return Math.abs(stock.trait(thing, KNOB));
            case FOLD: case RIPPLE: return stock.trait(thing, BENDS);
            case COUNTER: case CLOCK: return stock.trait(thing, COUNT);
            case METER: return stock.trait(thing, LEVEL);
            case TICKER: return stock.trait(thing, KIND);
            default: return stock.trait(thing, HELD);
        }
    }

    /** Which kinds stand UNDER which, and what goes with what. */
    private static final class Kinds {

        private static final int UNDER_CLIP = 1 << CLIP | 1 << SHAPER | 1 << PLAIN;
        private static final int UNDER_LAG = 1 << LAG | 1 << STORE | 1 << PLAIN;

        /** By kind, the set of all kinds that it is UNDER. */
        private static final int[] ABOVE = {
            1 << PLAIN,
            1 << SHAPER | 1 << PLAIN,
            UNDER_CLIP,
            1 << FOLD | UNDER_CLIP,
            1 << RIPPLE | 1 << FOLD | UNDER_CLIP,
            1 << STORE | 1 << PLAIN,
            UNDER_LAG,
            1 << ECHO | UNDER_LAG,
            1 << HALL | 1 << ECHO | UNDER_LAG,
            1 << COUNTER | 1 << PLAIN,
            1 << CLOCK | 1 << COUNTER | 1 << PLAIN | 1 << TICKER,
            1 << METER | 1 << TICKER,
            1 << TICKER,
            1 << NUMBERS,
            1 << BYTES,
            1 << LONGS,
            1 << TABLE,
            1 << ROW_OF_PLAIN,
            1 << ROW_OF_SHAPER | 1 << ROW_OF_PLAIN,
            1 << ROW_OF_CLIP | 1 << ROW_OF_SHAPER | 1 << ROW_OF_PLAIN,
            1 << ROW_OF_ECHO | 1 << ROW_OF_PLAIN,
            1 << ROW_OF_TICKER,
            1 << ROW_OF_CLOCK | 1 << ROW_OF_PLAIN | 1 << ROW_OF_TICKER,
            1 << BOARD_OF_PLAIN,
            1 << BOARD_OF_CLIP | 1 << BOARD_OF_PLAIN,
        };

        /** By kind, from TABLE on, the kind UNDER which a thing has to be to fit there. */
        private static final int[] WANTED = {
            NUMBERS, PLAIN, SHAPER, CLIP, ECHO, TICKER, CLOCK, ROW_OF_PLAIN, ROW_OF_CLIP,
        };

        private Kinds() {
        }

        static boolean isKind(int k) {
            return k >= 0 && k < ABOVE.length;
        }

        static boolean isMade(int k) {
            return isKind(k) && k != TICKER;
        }

        static boolean isUnderAny(int kind, int kinds) {
            return kind >= 0 && kind < ABOVE.length && (ABOVE[kind] & kinds) != 0;
        }

        /** The set of what fits in a row of this kind; it is empty for what is no ROW OF THINGS. */
        static int fittingIn(int row) {
            return row >= TABLE && row - TABLE < WANTED.length ? 1 << WANTED[row - TABLE] : 0;
        }

        static boolean isCopied(int from, int to) {
            if (isUnderAny(from, NUMBER_ROWS)) {
                return from == to;
            }
            return isUnderAny(from, ROWS_OF_THINGS) && isUnderAny(to, ROWS_OF_THINGS);
        }

        static long asHeldIn(int row, long v) {
            switch (row) {
                case NUMBERS: return (int) v;
                case BYTES: return (byte) v;
                default: return v;
            }
        }
    }

    /** The shelves and things as they stand, and the ACTS that can be taken back. */
    private static final class Stock {

        // Behind what tell() asks for, a thing has the count of its places and the places.
        private static final int PLACES = 10;
        private static final int FIRST_PLACE = 11;
        private static final int THING_CELLS = FIRST_PLACE + MOST_PLACES;
        private static final int MADE_CELL = SHELVES;
        private static final int FIRST_THING = MADE_CELL + 1;
        private static final int ALL_CELLS = FIRST_THING + MOST_THINGS * THING_CELLS;
        /** No more calls than these are promised, so that what is kept has an end. */
        private static final int MOST_ACTS = 512;

        private final long[] cells = new long[ALL_CELLS];
        /** The cells as the latest ACT left them: what differs is the change of the one under way. */
        private final long[] settled = new long[ALL_CELLS];
        private Change latest = null;
        private int actsKept = 0;

        Stock() {
            for (int s = 0; s < SHELVES; s++) {
                cells[s] = NOTHING;
                settled[s] = NOTHING;
            }
        }

        int onShelf(int s) {
            return isShelf(s) ? (int) cells[s] : NOTHING;
        }

        void setShelf(int s, int thing) {
            if (isShelf(s)) {
                cells[s] = thing;
            }
        }

        int thingsMade() {
            return (int) cells[MADE_CELL];
        }

        int add(int kind, int places) {
            int thing = thingsMade();
            cells[MADE_CELL] = thing + 1;
            setTrait(thing, KIND, kind);
            setTrait(thing, NUMBER, thing);
            if (Kinds.isUnderAny(kind, PARTS)) {
                setTrait(thing, KNOB, FIRST_KNOB);
            }
            if (Kinds.isUnderAny(kind, ROWS)) {
                setTrait(thing, PLACES, places);
            }
            if (Kinds.isUnderAny(kind, ROWS_OF_THINGS)) {
                for (int i = 0; i < places; i++) {
                    setPlace(thing, i, NOTHING);
                }
            }
            return thing;
        }

        int trait(int thing, int which) {
            int c = FIRST_THING + thing * THING_CELLS + which;
            return c >= FIRST_THING && c < cells.length ? (int) cells[c] : 0;
        }

        void setTrait(int thing, int which, int value) {
            int c = FIRST_THING + thing * THING_CELLS + which;
            if (c >= FIRST_THING && c < cells.length) {
                cells[c] = value;
            }
        }

        void grow(int thing, int which, int by) {
            int c = FIRST_THING + thing * THING_CELLS + which;
            if (c >= FIRST_THING && c < cells.length) {
                cells[c] = (int) cells[c] + by;
            }
        }

        boolean isIn(int thing, int kinds) {
            return thing != NOTHING && Kinds.isUnderAny(trait(thing, KIND), kinds);
        }

        int places(int row) {
            return trait(row, PLACES);
        }

        boolean hasPlace(int row, int i) {
            return i >= 0 && i < trait(row, PLACES);
        }

        boolean hasPlaces(int row, int i, int n) {
            return i >= 0 && n >= 0 && (long) i + n <= trait(row, PLACES);
        }

        private static int placeCell(int row, int i) {
            return FIRST_THING + row * THING_CELLS + FIRST_PLACE + i;
        }

        long atPlace(int row, int i) {
            return i >= 0 && i < trait(row, PLACES) ? cells[placeCell(row, i)] : NOTHING;
        }

        void setPlace(int row, int i, long value) {
            if (hasPlace(row, i)) {
                cells[placeCell(row, i)] = value;
            }
        }

        boolean fits(int thing, int row) {
            return thing == NOTHING || isIn(thing, Kinds.fittingIn(trait(row, KIND)));
        }

        int howManyFit(int from, int i, int to, int n) {
            if (isIn(from, NUMBER_ROWS)) {
                return n;
            }
            int fitting = 0;
            while (fitting < n && fits((int) atPlace(from, i + fitting), to)) {
                fitting++;
            }
            return fitting;
        }

        void movePlaces(int from, int i, int to, int j, int n) {
            if (hasPlaces(from, i, n) && hasPlaces(to, j, n)) {
                System.arraycopy(cells, placeCell(from, i), cells, placeCell(to, j), n);
            }
        }

        boolean isHistoryFull() {
            return actsKept >= MOST_ACTS;
        }

        /** An ACT makes things and unmakes none, so behind these cells nothing can have changed. */
        private int cellsInUse() {
            return Math.min(FIRST_THING + thingsMade() * THING_CELLS, ALL_CELLS);
        }

        private int countChanges(int inUse) {
            int changed = 0;
            for (int c = 0; c < inUse; c++) {
                if (cells[c] != settled[c]) {
                    changed++;
                }
            }
            return changed;
        }

        void keepAct() {
            int inUse = cellsInUse();
            Change change = new Change(countChanges(inUse), latest);
            int n = 0;
            for (int c = 0; c < inUse && n < change.length; c++) {
                if (cells[c] != settled[c]) {
                    change.cells[n] = c;
                    change.before[n] = settled[c];
                    settled[c] = cells[c];
                    n++;
                }
            }
            latest = change;
            actsKept++;
        }

        void dropChanges() {
            System.arraycopy(settled, 0, cells, 0, ALL_CELLS);
        }

        void takeBackAct() {
            if (latest == null) {
                return;
            }
            for (int n = 0; n < latest.length; n++) {
                int c = latest.cells[n];
                if (c >= 0 && c < ALL_CELLS) {
                    cells[c] = latest.before[n];
                    settled[c] = latest.before[n];
                }
            }
            latest = latest.earlier;
            actsKept--;
        }
    }

    /** What one ACT changed, on top of the ACTS ahead of it. */
    private static final class Change {

        private final int length;
        private final int[] cells;
        private final long[] before;
        private final Change earlier;

        Change(int length, Change earlier) {
            this.length = Math.max(length, 0);
            this.cells = new int[this.length];
            this.before = new long[this.length];
            this.earlier = earlier;
        }
    }

    /** The rules by which PARTS and what is UNDER TICKER answer. */
    private static final class Rules {

        private static final int PLAIN_LOAD = 2;
        private static final int SHAPER_LOAD = 3;
        private static final int LAG_LOAD = 4;
        private static final int CLOCK_AT_REST = 100;

        private Rules() {
        }

        /** Every kind's rule goes on from PLAIN's, so that one stands ahead of all. */
        static int turn(Stock stock, int part, int x) {
            stock.grow(part, USES, 1);
            switch (stock.trait(part, KIND)) {
                case CLIP: case FOLD: return clip(stock, part, x);
                case RIPPLE: return bend(stock, part, x, clip(stock, part, x));
                case ECHO: return echo(stock, part, x);
                case HALL: return resound(stock, part, echo(stock, part, x));
                case COUNTER: case CLOCK: return countIn(stock, part, x);
                default: return x;
            }
        }

        private static int clip(Stock stock, int part, int y) {
            int most = Math.abs(stock.trait(part, KNOB));
            return Math.max(-most, Math.min(most, y));
        }

        private static int bend(Stock stock, int part, int x, int y) {
            if (y != x) {
                stock.grow(part, BENDS, 1);
            }
            return y + ((x - y) >> 2);
        }

        private static int echo(Stock stock, int part, int y) {
            int held = stock.trait(part, HELD);
            stock.setTrait(part, HELD, y);
            return y + ((held * stock.trait(part, KNOB)) >> 4);
        }

        private static int resound(Stock stock, int part, int z) {
            stock.grow(part, HELD, z >> 3);
            if (z > stock.trait(part, TOP)) {
                stock.setTrait(part, TOP, z);
            }
            return z;
        }

        private static int countIn(Stock stock, int part, int y) {
            stock.grow(part, COUNT, 1);
            return y + stock.trait(part, COUNT);
        }

        /** Each kind adds to the LOAD of the kind above, so the sum goes down from PLAIN. */
        static int load(Stock stock, int thing) {
            if (!stock.isIn(thing, PARTS)) {
                return 0;
            }
            int load = PLAIN_LOAD;
            if (stock.isIn(thing, 1 << SHAPER)) {
                load += SHAPER_LOAD;
            }
            if (stock.isIn(thing, 1 << CLIP)) {
                load += Math.abs(stock.trait(thing, KNOB));
            }
            if (stock.isIn(thing, 1 << RIPPLE)) {
                load += stock.trait(thing, BENDS);
            }
            if (stock.isIn(thing, 1 << LAG)) {
                load += LAG_LOAD;
            }
            if (stock.isIn(thing, 1 << HALL)) {
                load += stock.trait(thing, HELD) & 7;
            }
            if (stock.isIn(thing, 1 << COUNTER)) {
                load += stock.trait(thing, COUNT);
            }
            return load;
        }

        /** Each kind goes on from the REST of the kind above, so PLAIN's comes first. */
        static void putToRest(Stock stock, int part) {
            stock.setTrait(part, USES, 0);
            if (stock.isIn(part, 1 << RIPPLE)) {
                stock.setTrait(part, BENDS, 0);
            }
            if (stock.isIn(part, 1 << STORE)) {
                stock.setTrait(part, HELD, 0);
            }
            if (stock.isIn(part, 1 << ECHO)) {
                stock.setTrait(part, KNOB, stock.trait(part, KNOB) >> 1);
            }
            if (stock.isIn(part, 1 << COUNTER)) {
                stock.setTrait(part, COUNT, 0);
            }
            if (stock.isIn(part, 1 << CLOCK)) {
                stock.setTrait(part, COUNT, CLOCK_AT_REST);
            }
        }

        static int ticksBy(Stock stock, int thing, int n) {
            if (thing == NOTHING) {
                return 0;
            }
            int sum = 0;
            for (int by = 0; by < n; by++) {
                sum += tick(stock, thing, by);
            }
            return sum;
        }

        private static int tick(Stock stock, int thing, int n) {
            if (stock.isIn(thing, 1 << CLOCK)) {
                stock.grow(thing, COUNT, n + 1);
                return stock.trait(thing, COUNT);
            }
            stock.setTrait(thing, LEVEL, 3 * stock.trait(thing, LEVEL) + n);
            return stock.trait(thing, LEVEL);
        }
    }

    /**
     * The PARTS of a PLAYED thing in the order in which they are come to. No play or rest moves a
     * PART, so they can be lined up once ahead of it.
     */
    private static final class Chain {

        private final int[] parts = new int[MOST_PLACES * MOST_PLACES];
        private int length = 0;

        int partAt(int p) {
            return p >= 0 && p < length && p < parts.length ? parts[p] : NOTHING;
        }

        void lineUp(Stock stock, int played) {
            length = 0;
            if (!stock.isIn(played, 1 << BOARD_OF_PLAIN)) {
                addPartsOf(stock, played);
                return;
            }
            for (int i = 0; i < stock.places(played); i++) {
                addPartsOf(stock, (int) stock.atPlace(played, i));
            }
        }

        private void addPartsOf(Stock stock, int partOrRow) {
            if (stock.isIn(partOrRow, PARTS)) {
                add(partOrRow);
                return;
            }
            for (int i = 0; i < stock.places(partOrRow); i++) {
                add((int) stock.atPlace(partOrRow, i));
            }
        }

        private void add(int part) {
            if (part != NOTHING && length < parts.length) {
                parts[length] = part;
                length++;
            }
        }
    }

    /** A call with its arguments, in their order; what it has not is 0. */
    private static final class Line {

        private final int call;
        private final int a;
        private final int b;
        private final long c;
        private final int d;
        private final int e;

        Line(int call, int a, int b, long c, int d, int e) {
            this.call = call;
            this.a = a;
            this.b = b;
            this.c = c;
            this.d = d;
            this.e = e;
        }
    }

    private static final class Sheet {

        private final Line[] lines = new Line[MOST_LINES];
        private int length = 0;
        private boolean recording = false;

        void startAnew() {
            length = 0;
            recording = true;
        }

        boolean isFull() {
            return length >= lines.length;
        }

        int add(Line line) {
            if (length >= 0 && length < lines.length) {
                lines[length] = line;
                length++;
            }
            return length;
        }

        Line lineNumbered(int n) {
            return n >= 1 && n <= lines.length ? lines[n - 1] : null;
        }
    }
}
