/**
 * Wallets of a ticket gate: taps make rides, rides cost fares up to the caps of a day and of a week,
 * and weeks are settled into a ledger. ../shared/DOC.md says what each call answers.
 */
public final class CapWallets {
    public static final int NONE = -1;

    private static final int WALLETS = 4;
    private static final int DAYS = 28;
    private static final int DAYS_OF_WEEK = 7;
    private static final int WEEKS = 4;
    private static final int MINUTES = 1440;
    private static final int STATIONS = 10;
    private static final int STATIONS_OF_ZONE = 2;

    private static final int MOST_TAPS = 60;
    private static final int MOST_CLAIMS = 2;
    private static final int MOST_SAVED = 6;
    private static final int MOST_CHARACTERS = 60;
    private static final int LEDGER_ENTRIES = 8;

    /** What answers that can be below 0 are raised by, so that NONE stays apart from them. */
    private static final int RAISED = 100000;

    private static final int LEAST_FARE = 0;
    private static final int ZONE_FARE = 1;
    private static final int ALONE_FARE = 2;
    private static final int RIDE_MINUTES = 3;
    private static final int DAY_CAP = 4;
    private static final int WEEK_CAP = 5;
    private static final int SETTINGS = 6;
    private static final int[] FIRST_VALUES = {180, 60, 420, 120, 700, 2800};
    private static final int[] LEAST_VALUES = {0, 0, 0, 1, 0, 0};
    private static final int[] MOST_VALUES = {999, 999, 999, 1439, 9999, 9999};

    private static final int TAP_PROPERTIES = 8;
    private static final int DAY_NUMBERS = 4;
    private static final int WEEK_NUMBERS = 7;
    private static final int COUNTS = 10;
    private static final int LEDGER_NUMBERS = 2;

    private static final int NOT_ALONE = 1;
    private static final int WRONG_MINUTE = 2;
    private static final int CLAIMS_USED_UP = 3;
    private static final int NO_ROOM = 4;
    private static final int NO_RIDE = 5;

    private static final int FIRST_CODE = 33;
    private static final int LAST_CODE = 126;

    private static final long FIRST_HASH = 3023L;
    private static final int[] HASHED_DAYS = {0, 6, 7, 27};
    private static final int HASHED_DAY = 6;
    private static final int HASHED_MINUTE = 500;
    private static final int HASHED_STATION = 4;

    private final State state;
    private final Rides rides;
    private final Saves saves;
    /** The taps and rides as they would be: rows of their own, so that a look changes nothing. */
    private final TapRow triedTaps;
    private final Rides triedRides;
    private final int[] buffer;
    private int bufferLength;
    private final TextReader reader;

    public CapWallets() {
        state = new State();
        rides = new Rides();
        saves = new Saves();
        triedTaps = new TapRow();
        triedRides = new Rides();
        buffer = new int[MOST_CHARACTERS];
        bufferLength = 0;
        reader = new TextReader();
        rides.readFrom(state.taps, state.settings);
    }

    // ---- taps

    public int tap(int wallet, int day, int minute, int station, boolean in)
            throws IllegalArgumentException, IllegalStateException {
        if (!isWalletDay(wallet, day) || !isMinuteStation(minute, station)) {
            throw new IllegalArgumentException("an argument is out of range");
        }
        if (state.taps.size >= MOST_TAPS) {
            throw new IllegalStateException("there are 60 taps");
        }
        saves.push(state);
        int place = state.taps.insert(Tap.make(wallet, day, minute, station, in));
        readRides();
        return place;
    }

    public int remove(int place) throws IndexOutOfBoundsException {
        if (!isPlace(place)) {
            throw new IndexOutOfBoundsException("there is no such tap");
        }
        saves.push(state);
        state.taps.takeAway(place);
        readRides();
        return state.taps.size;
    }

    public int claim(int place, int minute, int station) throws IllegalArgumentException {
        if (!isMinuteStation(minute, station)) {
            throw new IllegalArgumentException("minute or station is out of range");
        }
        int reason = refusal(place, minute, station);
        saves.push(state);
        if (reason == 0) {
            fillIn(place, minute, station);
        } else {
            state.refusals++;
        }
        return reason;
    }

    public int settle(int week) throws IllegalArgumentException {
        if (!isBelow(week, WEEKS)) {
            throw new IllegalArgumentException("week is out of range");
        }
        saves.push(state);
        int sum = 0;
        for (int wallet = 0; wallet < WALLETS; wallet++) {
            sum += state.charge(wallet, week, rides.weekCost(wallet, week));
        }
        return sum + RAISED;
    }

    public int set(int setting, int value) throws IndexOutOfBoundsException, IllegalArgumentException {
        if (!isBelow(setting, SETTINGS)) {
            throw new IndexOutOfBoundsException("there is no such setting");
        }
        if (value < Rows.at(LEAST_VALUES, setting) || value > Rows.at(MOST_VALUES, setting)) {
            throw new IllegalArgumentException("value is out of range");
        }
        saves.push(state);
        int previous = Rows.at(state.settings, setting);
        Rows.put(state.settings, setting, value);
        readRides();
        return previous;
    }

    // ---- the buffer

    public int append(int code) throws IllegalArgumentException, IllegalStateException {
        if (code < FIRST_CODE || code > LAST_CODE) {
            throw new IllegalArgumentException("code is not 33 to 126");
        }
        if (bufferLength >= MOST_CHARACTERS) {
            throw new IllegalStateException("the buffer has 60 characters");
        }
        Rows.put(buffer, bufferLength, code);
        bufferLength++;
        return bufferLength;
    }

    public int clearBuffer() {
        int length = bufferLength;
        bufferLength = 0;
        return length;
    }

    public int firstError() {
        return reader.readUpTo(buffer, bufferLength);
    }

    public int load() throws IllegalArgumentException {
        if (reader.readUpTo(buffer, bufferLength) < bufferLength || !reader.isWhole()) {
            throw new IllegalArgumentException("the buffer does not tell taps as a text");
        }
        saves.push(state);
        int come = 0;
        while (come < reader.tapCount && state.taps.size < MOST_TAPS) {
            state.taps.insert(Rows.at(reader.taps, come));
            come++;
        }
        readRides();
        bufferLength = 0;
        return come;
    }

    public int undo() throws IllegalStateException {
        if (saves.size <= 0) {
            throw new IllegalStateException("there is no saved state");
        }
        saves.popInto(state);
        readRides();
        return saves.size;
    }

    // ---- looks; nothing is changed

    public int tapOf(int place, int what) throws IndexOutOfBoundsException, IllegalArgumentException {
        if (!isPlace(place)) {
            throw new IndexOutOfBoundsException("there is no such tap");
        }
        if (!isBelow(what, TAP_PROPERTIES)) {
            throw new IllegalArgumentException("what is not 0 to 7");
        }
        return tapProperty(place, what);
    }

    public int day(int wallet, int day, int what) throws IllegalArgumentException {
        if (!isWalletDay(wallet, day) || !isBelow(what, DAY_NUMBERS)) {
            throw new IllegalArgumentException("an argument is out of range");
        }
        return dayNumber(wallet, day, what);
    }

    public int week(int wallet, int week, int what) throws IllegalArgumentException {
        if (!isBelow(wallet, WALLETS) || !isBelow(week, WEEKS) || !isBelow(what, WEEK_NUMBERS)) {
            throw new IllegalArgumentException("an argument is out of range");
        }
        return weekNumber(wallet, week, what);
    }

    public int count(int what) throws IllegalArgumentException {
        if (!isBelow(what, COUNTS)) {
            throw new IllegalArgumentException("what is not 0 to 9");
        }
        return countNumber(what);
    }

    public int ledger(int wallet, int back, int what) throws IllegalArgumentException {
        if (!isBelow(wallet, WALLETS) || !isBelow(back, LEDGER_ENTRIES) || !isBelow(what, LEDGER_NUMBERS)) {
            throw new IllegalArgumentException("an argument is out of range");
        }
        return state.ledgerNumber(wallet, back, what);
    }

    // ---- what would be; nothing is changed

    public int ifTapped(int wallet, int day, int minute, int station, boolean in) throws IllegalArgumentException {
        if (!isWalletDay(wallet, day) || !isMinuteStation(minute, station)) {
            throw new IllegalArgumentException("an argument is out of range");
        }
        return raisedChange(Tap.make(wallet, day, minute, station, in));
    }

    public int whyNot(int place, int minute, int station) throws IllegalArgumentException {
        if (!isMinuteStation(minute, station)) {
            throw new IllegalArgumentException("minute or station is out of range");
        }
        return refusal(place, minute, station);
    }

    public int leaky() {
        int most = 0;
        int found = NONE;
        for (int station = 0; station < STATIONS; station++) {
            int leaks = Rows.at(rides.leaks, station);
            if (leaks > most) {
                most = leaks;
                found = station;
            }
        }
        return found;
    }

    public int leastCap() {
        // A cap below the dearest week's cost would make that week cheaper; that cost itself changes none.
        int dearest = 0;
        for (int wallet = 0; wallet < WALLETS; wallet++) {
            for (int week = 0; week < WEEKS; week++) {
                dearest = Math.max(dearest, rides.weekCost(wallet, week));
            }
        }
        return dearest;
    }

    public double capShare() {
        int fares = Rows.sum(rides.dayFares);
        return fares > 0 ? (double) costOfAll() / (double) fares : 1.0;
    }

    public long digest() {
        long hash = FIRST_HASH;
        for (int what = 0; what < COUNTS; what++) {
            hash = mixed(hash, countNumber(what));
        }
        hash = Rows.mixedAll(hash, state.settings, SETTINGS);
        for (int place = 0; place < state.taps.size; place++) {
            for (int what = 0; what < TAP_PROPERTIES; what++) {
                hash = mixed(hash, tapProperty(place, what));
            }
        }
        for (int wallet = 0; wallet < WALLETS; wallet++) {
            hash = mixedWallet(hash, wallet);
        }
        for (int wallet = 0; wallet < WALLETS; wallet++) {
            hash = mixed(hash, raisedChange(Tap.make(wallet, HASHED_DAY, HASHED_MINUTE, HASHED_STATION, true)));
        }
        hash = mixed(hash, leaky());
        hash = mixed(hash, leastCap());
        hash = mixed(hash, bitsOfShare(capShare()));
        hash = mixed(hash, bufferLength);
        return Rows.mixedAll(hash, buffer, bufferLength);
    }

    // ---- ranges

    private static boolean isBelow(int value, int bound) {
        return value >= 0 && value < bound;
    }

    private static boolean isWalletDay(int wallet, int day) {
        return isBelow(wallet, WALLETS) && isBelow(day, DAYS);
    }

    private static boolean isMinuteStation(int minute, int station) {
        return isBelow(minute, MINUTES) && isBelow(station, STATIONS);
    }

    private boolean isPlace(int place) {
        return isBelow(place, state.taps.size);
    }

    // ---- rides and claims

    private void readRides() {
        rides.readFrom(state.taps, state.settings);
    }

    private int refusal(int place, int minute, int station) {
        if (!isPlace(place) || Rows.at(rides.mates, place) != NONE) {
            return NOT_ALONE;
        }
        int tap = state.taps.tapAt(place);
        if (Tap.isIn(tap) ? minute < Tap.minuteOf(tap) : minute > Tap.minuteOf(tap)) {
            return WRONG_MINUTE;
        }
        if (Rows.at(state.claims, weekCell(Tap.walletOf(tap), Tap.weekOf(tap))) >= MOST_CLAIMS) {
            return CLAIMS_USED_UP;
        }
        if (state.taps.size >= MOST_TAPS) {
            return NO_ROOM;
        }
        return wouldRideWith(place, Tap.missingOf(tap, minute, station)) ? 0 : NO_RIDE;
    }

    private boolean wouldRideWith(int place, int missing) {
        int missingPlace = tryTap(missing);
        int movedPlace = missingPlace <= place ? place + 1 : place;
        return Rows.at(triedRides.mates, missingPlace) == movedPlace;
    }

    private void fillIn(int place, int minute, int station) {
        int tap = state.taps.tapAt(place);
        Rows.raise(state.claims, weekCell(Tap.walletOf(tap), Tap.weekOf(tap)), 1);
        state.taps.insert(Tap.missingOf(tap, minute, station));
        readRides();
    }

    /** Returns the place that the tap would get; triedRides then holds the rides with it. */
    private int tryTap(int tap) {
        triedTaps.copyFrom(state.taps);
        int place = triedTaps.insert(tap);
        triedRides.readFrom(triedTaps, state.settings);
        return place;
    }

    private int raisedChange(int tap) {
        tryTap(tap);
        int wallet = Tap.walletOf(tap);
        int week = Tap.weekOf(tap);
        return triedRides.weekCost(wallet, week) - rides.weekCost(wallet, week) + RAISED;
    }

    // ---- numbers to look at

    private static int weekCell(int wallet, int week) {
        return wallet * WEEKS + week;
    }

    private static int dayCell(int wallet, int day) {
        return wallet * DAYS + day;
    }

    private int tapProperty(int place, int what) {
        int tap = state.taps.tapAt(place);
        switch (what) {
            case 0:
                return Tap.walletOf(tap);
            case 1:
                return Tap.dayOf(tap);
            case 2:
                return Tap.minuteOf(tap);
            case 3:
                return Tap.stationOf(tap);
            case 4:
                return Tap.isIn(tap) ? 1 : 0;
            case 5:
                return Rows.at(rides.mates, place);
            case 6:
                return Rows.at(rides.fares, place);
            default:
                return Tap.isClaimed(tap) ? 1 : 0;
        }
    }

    private int dayNumber(int wallet, int day, int what) {
        switch (what) {
            case 0:
                return Rows.at(rides.dayRides, dayCell(wallet, day));
            case 1:
                return Rows.at(rides.dayAlone, dayCell(wallet, day));
            case 2:
                return Rows.at(rides.dayFares, dayCell(wallet, day));
            default:
                return rides.dayCost(wallet, day);
        }
    }

    private int weekNumber(int wallet, int week, int what) {
        switch (what) {
            case 0:
                return Rides.weekSum(rides.dayRides, wallet, week);
            case 1:
                return Rides.weekSum(rides.dayFares, wallet, week);
            case 2:
                return rides.weekDaysCost(wallet, week);
            case 3:
                return rides.weekCost(wallet, week);
            case 4:
                return Rows.at(state.charged, weekCell(wallet, week));
            case 5:
                return Rows.at(state.claims, weekCell(wallet, week));
            default:
                return Rows.at(state.settlings, weekCell(wallet, week));
        }
    }

    private int countNumber(int what) {
        switch (what) {
            case 0:
                return state.taps.size;
            case 1:
                return Rows.sum(rides.dayRides);
            case 2:
                return Rows.sum(rides.dayAlone);
            case 3:
                return costOfAll();
            case 4:
                return Rows.sum(state.charged);
            case 5:
                return state.refunds;
            case 6:
                return state.refunded;
            case 7:
                return state.refusals;
            case 8:
                return weeksToSettleAnew();
            default:
                return saves.size;
        }
    }

    private int costOfAll() {
        int sum = 0;
        for (int wallet = 0; wallet < WALLETS; wallet++) {
            for (int week = 0; week < WEEKS; week++) {
                sum += rides.weekCost(wallet, week);
            }
        }
        return sum;
    }

    private int weeksToSettleAnew() {
        int found = 0;
        for (int wallet = 0; wallet < WALLETS; wallet++) {
            for (int week = 0; week < WEEKS; week++) {
                int cell = weekCell(wallet, week);
                boolean settled = Rows.at(state.settlings, cell) > 0;
                if (settled && Rows.at(state.charged, cell) != rides.weekCost(wallet, week)) {
                    found++;
                }
            }
        }
        return found;
    }

    // ---- the hash

    private static long mixed(long hash, long value) {
        return 31L * hash + value;
    }

    private long mixedWallet(long start, int wallet) {
        long hash = start;
        for (int day : HASHED_DAYS) {
            for (int what = 0; what < DAY_NUMBERS; what++) {
                hash = mixed(hash, dayNumber(wallet, day, what));
            }
        }
        for (int week = 0; week < WEEKS; week++) {
            for (int what = 0; what < WEEK_NUMBERS; what++) {
                hash = mixed(hash, weekNumber(wallet, week, what));
            }
        }
        for (int back = 0; back < LEDGER_ENTRIES; back++) {
            for (int what = 0; what < LEDGER_NUMBERS; what++) {
                hash = mixed(hash, state.ledgerNumber(wallet, back, what));
            }
        }
        return hash;
    }

    /**
     * The bits of a double from 0.0 to 1.0 that is no less than 2 to the power of -64, or is 0.0.
     * Written out, as Double.doubleToLongBits stands outside the library of LANGUAGE.md.
     */
    private static long bitsOfShare(double share) {
        if (!(share > 0.0)) {
            return 0L;
        }
        double significand = share;
        long exponent = 1023L;
        for (int step = 0; step < 64 && significand < 1.0; step++) {
            significand = significand * 2.0;
            exponent--;
        }
        long fraction = (long) ((significand - 1.0) * 4503599627370496.0);
        return (exponent << 52) + fraction;
    }

    // ---- the parts

    /** Every row is read and written through these, so that each index is looked at first. */
    private static final class Rows {
        private Rows() {
        }

        static int at(int[] row, int index) {
            return index >= 0 && index < row.length ? row[index] : 0;
        }

        static void put(int[] row, int index, int value) {
            if (index >= 0 && index < row.length) {
                row[index] = value;
            }
        }

        static void raise(int[] row, int index, int more) {
            put(row, index, at(row, index) + more);
        }

        static void fill(int[] row, int value) {
            for (int i = 0; i < row.length; i++) {
                row[i] = value;
            }
        }

        static void copy(int[] from, int[] to) {
            for (int i = 0; i < from.length && i < to.length; i++) {
                to[i] = from[i];
            }
        }

        static int sum(int[] row) {
            int sum = 0;
            for (int value : row) {
                sum += value;
            }
            return sum;
        }

        static long mixedAll(long start, int[] row, int length) {
            long hash = start;
            for (int i = 0; i < length && i < row.length; i++) {
                hash = mixed(hash, row[i]);
            }
            return hash;
        }
    }

    /**
     * A tap is kept as one number: from the top its day, minute, wallet, station, whether it is in, and
     * whether it was claimed. Day and minute stand on top, so that they compare as one time.
     */
    private static final class Tap {
        private static final int CLAIMED = 1;
        private static final int IN = 2;
        private static final int STATION_SHIFT = 2;
        private static final int WALLET_SHIFT = 6;
        private static final int MINUTE_SHIFT = 8;
        private static final int DAY_SHIFT = 19;

        private Tap() {
        }

        static int make(int wallet, int day, int minute, int station, boolean in) {
            return day << DAY_SHIFT | minute << MINUTE_SHIFT | wallet << WALLET_SHIFT
                | station << STATION_SHIFT | (in ? IN : 0);
        }

        static int missingOf(int tap, int minute, int station) {
            return make(walletOf(tap), dayOf(tap), minute, station, !isIn(tap)) | CLAIMED;
        }

        static int timeOf(int tap) {
            return tap >> MINUTE_SHIFT;
        }

        static int dayOf(int tap) {
            return tap >> DAY_SHIFT & 31;
        }

        static int weekOf(int tap) {
            return dayOf(tap) / DAYS_OF_WEEK;
        }

        static int minuteOf(int tap) {
            return tap >> MINUTE_SHIFT & 2047;
        }

        static int walletOf(int tap) {
            return tap >> WALLET_SHIFT & 3;
        }

        static int stationOf(int tap) {
            return tap >> STATION_SHIFT & 15;
        }

        static int zoneOf(int tap) {
            return stationOf(tap) / STATIONS_OF_ZONE;
        }

        static boolean isIn(int tap) {
            return (tap & IN) != 0;
        }

        static boolean isClaimed(int tap) {
            return (tap & CLAIMED) != 0;
        }
    }

    /** Taps by their places. There is room for one more than may stand, for a tap that is only tried. */
    private static final class TapRow {
        private final int[] taps;
        private int size;

        TapRow() {
            taps = new int[MOST_TAPS + 1];
            size = 0;
        }

        int tapAt(int place) {
            return Rows.at(taps, place);
        }

        int insert(int tap) {
            if (size >= taps.length) {
                return NONE;
            }
            int place = size;
            // Of the same time, the tap that comes goes behind those that came.
            while (place > 0 && Tap.timeOf(tapAt(place - 1)) > Tap.timeOf(tap)) {
                Rows.put(taps, place, tapAt(place - 1));
                place--;
            }
            Rows.put(taps, place, tap);
            size++;
            return place;
        }

        void takeAway(int place) {
            for (int i = place; i + 1 < size; i++) {
                Rows.put(taps, i, tapAt(i + 1));
            }
            size--;
        }

        void copyFrom(TapRow other) {
            Rows.copy(other.taps, taps);
            size = other.size;
        }
    }

    /** What undo brings back. */
    private static final class State {
        private final TapRow taps;
        private final int[] settings;
        private final int[] charged;
        private final int[] claims;
        private final int[] settlings;
        private final int[] ledgerWeeks;
        private final int[] ledgerSums;
        private int refunds;
        private int refunded;
        private int refusals;

        State() {
            taps = new TapRow();
            settings = new int[SETTINGS];
            charged = new int[WALLETS * WEEKS];
            claims = new int[WALLETS * WEEKS];
            settlings = new int[WALLETS * WEEKS];
            ledgerWeeks = new int[WALLETS * LEDGER_ENTRIES];
            ledgerSums = new int[WALLETS * LEDGER_ENTRIES];
            refunds = 0;
            refunded = 0;
            refusals = 0;
            Rows.copy(FIRST_VALUES, settings);
            Rows.fill(ledgerWeeks, NONE);
            Rows.fill(ledgerSums, NONE);
        }

        void copyFrom(State other) {
            taps.copyFrom(other.taps);
            Rows.copy(other.settings, settings);
            Rows.copy(other.charged, charged);
            Rows.copy(other.claims, claims);
            Rows.copy(other.settlings, settlings);
            Rows.copy(other.ledgerWeeks, ledgerWeeks);
            Rows.copy(other.ledgerSums, ledgerSums);
            refunds = other.refunds;
            refunded = other.refunded;
            refusals = other.refusals;
        }

        /** Settles one week of one wallet; returns what is charged. */
        int charge(int wallet, int week, int cost) {
            int cell = weekCell(wallet, week);
            int sum = cost - Rows.at(charged, cell);
            Rows.put(charged, cell, cost);
            Rows.raise(settlings, cell, 1);
            if (sum < 0) {
                refunds++;
                refunded -= sum;
            }
            enter(ledgerWeeks, wallet, week);
            enter(ledgerSums, wallet, sum + RAISED);
            return sum;
        }

        private static void enter(int[] row, int wallet, int value) {
            int latest = wallet * LEDGER_ENTRIES;
            for (int back = LEDGER_ENTRIES - 1; back > 0; back--) {
                Rows.put(row, latest + back, Rows.at(row, latest + back - 1));
            }
            Rows.put(row, latest, value);
        }

        int ledgerNumber(int wallet, int back, int what) {
            return Rows.at(what == 0 ? ledgerWeeks : ledgerSums, wallet * LEDGER_ENTRIES + back);
        }
    }

    /** The saved states: a ring, so that the oldest one is dropped by writing over it. */
    private static final class Saves {
        private final State[] ring;
        private int next;
        private int size;

        Saves() {
            ring = new State[MOST_SAVED];
            for (int i = 0; i < ring.length; i++) {
                ring[i] = new State();
            }
            next = 0;
            size = 0;
        }

        private State slot(int index) {
            return index >= 0 && index < ring.length ? ring[index] : null;
        }

        void push(State state) {
            State free = slot(next);
            if (free != null) {
                free.copyFrom(state);
            }
            next = next + 1 < MOST_SAVED ? next + 1 : 0;
            size = Math.min(size + 1, MOST_SAVED);
        }

        void popInto(State state) {
            next = next > 0 ? next - 1 : MOST_SAVED - 1;
            size--;
            State latest = slot(next);
            if (latest != null) {
                state.copyFrom(latest);
            }
        }
    }

    /** The rides that a row of taps makes under some settings, kept until either changes. */
    private static final class Rides {
        private final int[] mates;
        private final int[] fares;
        private final int[] dayRides;
        private final int[] dayAlone;
        private final int[] dayFares;
        private final int[] leaks;
        private final int[] latest;
        private int dayCap;
        private int weekCap;

        Rides() {
            mates = new int[MOST_TAPS + 1];
            fares = new int[MOST_TAPS + 1];
            dayRides = new int[WALLETS * DAYS];
            dayAlone = new int[WALLETS * DAYS];
            dayFares = new int[WALLETS * DAYS];
            leaks = new int[STATIONS];
            latest = new int[WALLETS];
            dayCap = 0;
            weekCap = 0;
        }

        void readFrom(TapRow row, int[] settings) {
            dayCap = Rows.at(settings, DAY_CAP);
            weekCap = Rows.at(settings, WEEK_CAP);
            findMates(row, Rows.at(settings, RIDE_MINUTES));
            findFares(row, settings);
            addUp(row);
        }

        private void findMates(TapRow row, int minutes) {
            Rows.fill(mates, NONE);
            Rows.fill(latest, NONE);
            for (int place = 0; place < row.size; place++) {
                int tap = row.tapAt(place);
                int before = Rows.at(latest, Tap.walletOf(tap));
                if (before >= 0 && isRide(row.tapAt(before), tap, minutes)) {
                    Rows.put(mates, before, place);
                    Rows.put(mates, place, before);
                }
                Rows.put(latest, Tap.walletOf(tap), place);
            }
        }

        private static boolean isRide(int first, int second, int minutes) {
            return Tap.isIn(first) && !Tap.isIn(second) && Tap.dayOf(first) == Tap.dayOf(second)
                && Tap.minuteOf(second) - Tap.minuteOf(first) <= minutes;
        }

        private void findFares(TapRow row, int[] settings) {
            for (int place = 0; place < row.size; place++) {
                int mate = Rows.at(mates, place);
                int fare = Rows.at(settings, ALONE_FARE);
                if (mate != NONE) {
                    int zones = Math.abs(Tap.zoneOf(row.tapAt(place)) - Tap.zoneOf(row.tapAt(mate)));
                    fare = Rows.at(settings, LEAST_FARE) + Rows.at(settings, ZONE_FARE) * zones;
                }
                Rows.put(fares, place, fare);
            }
        }

        private void addUp(TapRow row) {
            Rows.fill(dayRides, 0);
            Rows.fill(dayAlone, 0);
            Rows.fill(dayFares, 0);
            Rows.fill(leaks, 0);
            for (int place = 0; place < row.size; place++) {
                int tap = row.tapAt(place);
                int mate = Rows.at(mates, place);
                int cell = dayCell(Tap.walletOf(tap), Tap.dayOf(tap));
                // The second tap of a ride has a mate ahead of it: its ride is counted there.
                if (mate == NONE || mate > place) {
                    Rows.raise(dayRides, cell, 1);
                    Rows.raise(dayFares, cell, Rows.at(fares, place));
                }
                if (mate == NONE) {
                    Rows.raise(dayAlone, cell, 1);
                    Rows.raise(leaks, Tap.stationOf(tap), 1);
                }
            }
        }

        int dayCost(int wallet, int day) {
            return Math.min(Rows.at(dayFares, dayCell(wallet, day)), dayCap);
        }

        int weekDaysCost(int wallet, int week) {
            int sum = 0;
            for (int i = 0; i < DAYS_OF_WEEK; i++) {
                sum += dayCost(wallet, week * DAYS_OF_WEEK + i);
            }
            return sum;
        }

        int weekCost(int wallet, int week) {
            return Math.min(weekDaysCost(wallet, week), weekCap);
        }

        static int weekSum(int[] days, int wallet, int week) {
            int sum = 0;
            for (int i = 0; i < DAYS_OF_WEEK; i++) {
                sum += Rows.at(days, dayCell(wallet, week * DAYS_OF_WEEK + i));
            }
            return sum;
        }
    }

    /** Reads taps as a text, character by character, and keeps the taps that it has read. */
    private static final class TextReader {
        private static final int AT_WALLET = 0;
        private static final int AT_D = 1;
        private static final int AT_DAY = 2;
        private static final int IN_DAY = 3;
        private static final int AT_MINUTE = 4;
        private static final int IN_MINUTE = 5;
        private static final int AT_STATION = 6;
        private static final int BEHIND_TAP = 7;
        /** More than a full buffer can tell, as a tap has 7 characters or more. */
        private static final int MOST_READ = 10;

        private final int[] taps;
        private int tapCount;
        private int stage;
        private int number;
        private int wallet;
        private int day;
        private int minute;
        private boolean in;

        TextReader() {
            taps = new int[MOST_READ];
            tapCount = 0;
            stage = AT_WALLET;
            number = 0;
            wallet = 0;
            day = 0;
            minute = 0;
            in = false;
        }

        /** Returns the index of the first syntax error, or the length. */
        int readUpTo(int[] codes, int length) {
            tapCount = 0;
            stage = AT_WALLET;
            for (int i = 0; i < length; i++) {
                if (!takes(Rows.at(codes, i))) {
                    return i;
                }
            }
            return length;
        }

        /** Whether what was read, without an error, is taps as a text, and not only a beginning. */
        boolean isWhole() {
            return stage == BEHIND_TAP;
        }

        private boolean takes(int code) {
            switch (stage) {
                case AT_WALLET:
                    wallet = code - '0';
                    return goesOn(isBelow(wallet, WALLETS), AT_D);
                case AT_D:
                    return goesOn(code == 'd', AT_DAY);
                case AT_DAY:
                    return startsNumber(code, IN_DAY);
                case IN_DAY:
                    day = number;
                    return code == ':' ? goesOn(true, AT_MINUTE) : lengthensNumber(code, DAYS);
                case AT_MINUTE:
                    return startsNumber(code, IN_MINUTE);
                case IN_MINUTE:
                    minute = number;
                    in = code == '+';
                    return in || code == '-' ? goesOn(true, AT_STATION) : lengthensNumber(code, MINUTES);
                case AT_STATION:
                    return endsTap(code - '0');
                default:
                    return goesOn(code == ';', AT_WALLET);
            }
        }

        private boolean goesOn(boolean fits, int nextStage) {
            if (fits) {
                stage = nextStage;
            }
            return fits;
        }

        private boolean startsNumber(int code, int nextStage) {
            number = code - '0';
            return goesOn(isBelow(number, 10), nextStage);
        }

        private boolean lengthensNumber(int code, int bound) {
            int digit = code - '0';
            // No number goes on behind a leading 0.
            if (!isBelow(digit, 10) || number == 0 || !isBelow(number * 10 + digit, bound)) {
                return false;
            }
            number = number * 10 + digit;
            return true;
        }

        private boolean endsTap(int station) {
            if (!isBelow(station, STATIONS)) {
                return false;
            }
            Rows.put(taps, tapCount, Tap.make(wallet, day, minute, station, in));
            tapCount++;
            stage = BEHIND_TAP;
            return true;
        }
    }
}
