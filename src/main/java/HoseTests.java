/**
 * Volunteer fire hose testing with pressure steps, service lives and borrowed lengths.
 *
 * <p>What each call must do stands in the project's document as promises 1 to 24.
 */
public final class HoseTests {

    /** There is nothing to return. */
    public static final int NONE = -1;

    private static final int MAX_HOSES = 14;
    private static final int MAX_SAVED = 6;

    private static final int LINEN = 0;
    private static final int RUBBER = 1;
    private static final int LINED = 2;

    private static final int SHORTEST = 5;
    private static final int LONGEST = 50;
    private static final int COUPLINGS = 3;

    private static final int TRUCKS = 3;
    private static final int STORE = 3;
    private static final int LENT = 4;
    private static final int MAX_WANTED = 200;

    private static final int SETTINGS = 3;
    private static final int COUNTING_PRESSURE = 0;
    private static final int ADAPTERS = 1;
    private static final int INCOME = 2;

    private static final int LEAST_PRESSURE = 4;
    private static final int GREATEST_PRESSURE = 24;
    private static final int PRESSURE_STEP = 4;
    private static final int BURST = 100;
    private static final int DIGEST_PRESSURE = 12;

    private static final int MAX_WEAR = 99;
    private static final int MAX_MONEY = 9999;
    private static final int MAX_DAYS_LENT = 99;
    private static final int MAX_DAYS_PASSED = 100;

    private static final int READY = 0;
    private static final int IS_GONE = 1;
    private static final int IS_LENT = 2;
    private static final int IS_TOO_OLD = 3;
    private static final int IS_UNTESTED = 4;

    private static final int HOSE_LOOKS = 10;
    private static final int TRUCK_LOOKS = 7;
    private static final int COUNTS = 11;

    private final Station now;
    private final Station[] saved;
    private int latestSaved;
    private int savedStates;
    private final HoseText text;

    /** Creates a station without hoses on the day 0, with an empty buffer. */
    public HoseTests() {
        now = new Station();
        saved = new Station[MAX_SAVED];
        for (int i = 0; i < MAX_SAVED; i++) {
            saved[i] = new Station();
        }
        latestSaved = 0;
        savedStates = 0;
        text = new HoseText();
    }

    // ---- hoses

    /**
     * Buys a hose, new and not tested, for the store. Undoable.
     *
     * @param kind 0 to 2
     * @param length 5 to 50
     * @param coupling 0 to 2
     * @return its number
     * @throws IllegalArgumentException if kind, length or coupling is out of range
     * @throws IllegalStateException if there are 14 hoses (gone ones, too), or the money does not do
     */
    public int buy(int kind, int length, int coupling) throws IllegalArgumentException, IllegalStateException {
        if (!isWithin(kind, LINEN, LINED) || !isWithin(length, SHORTEST, LONGEST)
                || !isWithin(coupling, 0, COUPLINGS - 1)) {
            throw new IllegalArgumentException("kind, length or coupling is out of range");
        }
        if (!now.canBuy(kind, length)) {
            throw new IllegalStateException("no room or not enough money for a new hose");
        }
        saveState();
        return now.addHose(kind, length, coupling, STORE);
    }

    /**
     * Gives a hose away for a new one of its kind, length and coupling in the same place, not tested; the old one is
     * gone. Undoable.
     *
     * @param hose its number
     * @return the number of the new one
     * @throws IndexOutOfBoundsException if there is no such hose
     * @throws IllegalStateException if it is gone or lent, there are 14 hoses, or the money does not do
     */
    public int renew(int hose) throws IndexOutOfBoundsException, IllegalStateException {
        requireHose(hose);
        requireAtHand(hose);
        if (!now.canBuy(now.kind[hose], now.length[hose])) {
            throw new IllegalStateException("no room or not enough money for a new hose");
        }
        saveState();
        return now.replaceHose(hose);
    }

    /**
     * Puts a hose on a truck, or into the store. Undoable.
     *
     * @param hose its number
     * @param place 0 to 3
     * @return the place where it was
     * @throws IndexOutOfBoundsException if there is no such hose
     * @throws IllegalArgumentException if place is out of range
     * @throws IllegalStateException if it is gone or lent
     */
    public int put(int hose, int place)
            throws IndexOutOfBoundsException, IllegalArgumentException, IllegalStateException {
        requireHose(hose);
        if (!isWithin(place, 0, STORE)) {
            throw new IllegalArgumentException("place is out of range");
        }
        requireAtHand(hose);
        saveState();
        int before = now.place[hose];
        now.place[hose] = place;
        return before;
    }

    /**
     * Lends a hose to another station. Undoable.
     *
     * @param hose its number
     * @param days 1 to 99
     * @return the day on which it comes back
     * @throws IndexOutOfBoundsException if there is no such hose
     * @throws IllegalArgumentException if days is out of range
     * @throws IllegalStateException if it is not ready
     */
    public int lend(int hose, int days)
            throws IndexOutOfBoundsException, IllegalArgumentException, IllegalStateException {
        requireHose(hose);
        if (!isWithin(days, 1, MAX_DAYS_LENT)) {
            throw new IllegalArgumentException("days is out of range");
        }
        if (!now.isReady(hose)) {
            throw new IllegalStateException("the hose is not ready");
        }
        saveState();
        return now.lendOut(hose, days);
    }

    /**
     * Tests a hose. Undoable.
     *
     * @param hose its number
     * @param pressure 4 to 24
     * @return how many steps it held; if it burst, that number and 100
     * @throws IndexOutOfBoundsException if there is no such hose
     * @throws IllegalArgumentException if pressure is out of range
     * @throws IllegalStateException if it is gone or lent
     */
    public int test(int hose, int pressure)
            throws IndexOutOfBoundsException, IllegalArgumentException, IllegalStateException {
        requireHose(hose);
        requirePressure(pressure);
        requireAtHand(hose);
        saveState();
        return now.runTest(hose, pressure);
    }

    // ---- trucks, days

    /**
     * Changes the length that a truck wants. Undoable.
     *
     * @param truck 0 to 2
     * @param length 0 to 200
     * @return the previous length
     * @throws IndexOutOfBoundsException if there is no such truck
     * @throws IllegalArgumentException if length is out of range
     */
    public int want(int truck, int length) throws IndexOutOfBoundsException, IllegalArgumentException {
        requireTruck(truck);
        if (!isWithin(length, 0, MAX_WANTED)) {
            throw new IllegalArgumentException("length is out of range");
        }
        saveState();
        int before = now.wanted[truck];
        now.wanted[truck] = length;
        return before;
    }

    /**
     * Changes a setting. Undoable.
     *
     * @param setting 0 to 2
     * @param value the new value
     * @return the previous value
     * @throws IndexOutOfBoundsException if there is no such setting
     * @throws IllegalArgumentException if value is out of range
     */
    public int set(int setting, int value) throws IndexOutOfBoundsException, IllegalArgumentException {
        requireSetting(setting);
        if (!isWithin(value, leastOfSetting(setting), greatestOfSetting(setting))) {
            throw new IllegalArgumentException("value is out of range");
        }
        saveState();
        int before = now.settings[setting];
        now.settings[setting] = value;
        return before;
    }

    /**
     * Lets days pass. Undoable, as one call.
     *
     * @param days 1 to 100
     * @return the day then
     * @throws IllegalArgumentException if days is out of range
     */
    public int pass(int days) throws IllegalArgumentException {
        if (!isWithin(days, 1, MAX_DAYS_PASSED)) {
            throw new IllegalArgumentException("days is out of range");
        }
        saveState();
        for (int i = 0; i < days; i++) {
            now.passDay();
        }
        return now.day;
    }

    // ---- texts

    /**
     * Appends a character to the buffer.
     *
     * @param code the character code, 33 to 126
     * @return the new length of the buffer
     * @throws IllegalArgumentException if code is not 33 to 126
     * @throws IllegalStateException if the buffer has 60 characters
     */
    public int append(int code) throws IllegalArgumentException, IllegalStateException {
        if (!isWithin(code, 33, 126)) {
            throw new IllegalArgumentException("code is not 33 to 126");
        }
        if (text.isFull()) {
            throw new IllegalStateException("the buffer is full");
        }
        text.addCode(code);
        return text.size;
    }

    /**
     * Clears the buffer.
     *
     * @return the length that it had
     */
    public int clearBuffer() {
        int before = text.size;
        text.size = 0;
        return before;
    }

    /**
     * Finds the first syntax error of the buffer.
     *
     * @return the index of the first character that is a syntax error; the length of the buffer if there is none
     */
    public int firstError() {
        return text.findError();
    }

    /**
     * Buys the hoses in the buffer, one after the other, as with buy(), up to the first one that is not possible, and
     * clears the buffer. Undoable, as one call, also if none is bought.
     *
     * @return how many are bought
     * @throws IllegalArgumentException if the buffer is not complete hoses as a text
     */
    public int buyAll() throws IllegalArgumentException {
        if (!text.isComplete()) {
            throw new IllegalArgumentException("the buffer is not complete hoses as a text");
        }
        saveState();
        int bought = buyParts();
        text.size = 0;
        return bought;
    }

    /**
     * Restores the latest saved state, and drops it.
     *
     * @return how many saved states are left
     * @throws IllegalStateException if there is none
     */
    public int undo() throws IllegalStateException {
        if (savedStates == 0) {
            throw new IllegalStateException("no state is saved");
        }
        Station latest = saved[latestSaved];
        if (latest != null) {
            now.copyFrom(latest);
        }
        latestSaved = latestSaved == 0 ? MAX_SAVED - 1 : latestSaved - 1;
        savedStates--;
        return savedStates;
    }

    // ---- looks; nothing is changed

    /**
     * Returns something of a hose.
     *
     * @param hose its number
     * @param what 0: its kind; 1: its length; 2: its coupling; 3: the day on which it was made; 4: its wear; 5: its
     *     strength now; 6: the last day of its test, NONE without one; 7: its place, 0 to 4, NONE if it is gone; 8: the
     *     day on which it comes back, NONE if it is not lent; 9: the reason why it is not ready, 0 if it is
     * @return the number
     * @throws IndexOutOfBoundsException if there is no such hose
     * @throws IllegalArgumentException if what is not 0 to 9
     */
    public int hose(int hose, int what) throws IndexOutOfBoundsException, IllegalArgumentException {
        requireHose(hose);
        if (!isWithin(what, 0, HOSE_LOOKS - 1)) {
            throw new IllegalArgumentException("what is not 0 to 9");
        }
        switch (what) {
            case 0: return now.kind[hose];
            case 1: return now.length[hose];
            case 2: return now.coupling[hose];
            case 3: return now.made[hose];
            case 4: return now.wear[hose];
            case 5: return now.strengthAt(hose, now.wear[hose]);
            case 6: return now.lastTestDay[hose];
            case 7: return now.place[hose];
            case 8: return now.backDay[hose];
            default: return now.reasonOf(hose);
        }
    }

    /**
     * Returns something of a truck.
     *
     * @param truck 0 to 2
     * @param what 0: the length that it wants; 1: the length of its line; 2: hoses on it; 3: ready hoses on it; 4:
     *     adapters that its line needs; 5: a mask of the hoses of its line, with the bit h for the hose h; 6: 1 if it is
     *     whole, otherwise 0
     * @return the number
     * @throws IndexOutOfBoundsException if there is no such truck
     * @throws IllegalArgumentException if what is not 0 to 6
     */
    public int truck(int truck, int what) throws IndexOutOfBoundsException, IllegalArgumentException {
        requireTruck(truck);
        if (!isWithin(what, 0, TRUCK_LOOKS - 1)) {
            throw new IllegalArgumentException("what is not 0 to 6");
        }
        boolean whole = now.layLine(truck, NONE);
        switch (what) {
            case 0: return now.wanted[truck];
            case 1: return now.line.metres;
            case 2: return now.hosesAt(truck);
            case 3: return now.readyHosesAt(truck);
            case 4: return now.line.adaptersUsed;
            case 5: return now.line.mask;
            default: return whole ? 1 : 0;
        }
    }

    /**
     * Returns a number.
     *
     * @param what 0: the day; 1: the money; 2: hoses, gone ones, too; 3: gone ones; 4: ready ones; 5: lent ones; 6:
     *     trucks that are whole; 7: tests so far; 8: hoses that burst so far; 9: money that was paid so far; 10: saved
     *     states
     * @return the number
     * @throws IllegalArgumentException if what is not 0 to 10
     */
    public int count(int what) throws IllegalArgumentException {
        if (!isWithin(what, 0, COUNTS - 1)) {
            throw new IllegalArgumentException("what is not 0 to 10");
        }
        switch (what) {
            case 0: return now.day;
            case 1: return now.money;
            case 2: return now.hoses;
            case 3: return now.hosesAt(NONE);
            case 4: return now.readyHoses();
            case 5: return now.hosesAt(LENT);
            case 6: return now.wholeTrucks();
            case 7: return now.tests;
            case 8: return now.bursts;
            case 9: return now.paid;
            default: return savedStates;
        }
    }

    /**
     * Returns a setting.
     *
     * @param setting 0 to 2
     * @return its value
     * @throws IndexOutOfBoundsException if there is no such setting
     */
    public int setting(int setting) throws IndexOutOfBoundsException {
        requireSetting(setting);
        return now.settings[setting];
    }

    // ---- what would be; nothing is changed

    /**
     * Tells what a test would bring (also of a hose that is lent).
     *
     * @param hose its number
     * @param pressure 4 to 24
     * @return as with test(); NONE if the hose is gone
     * @throws IndexOutOfBoundsException if there is no such hose
     * @throws IllegalArgumentException if pressure is out of range
     */
    public int ifTested(int hose, int pressure) throws IndexOutOfBoundsException, IllegalArgumentException {
        requireHose(hose);
        requirePressure(pressure);
        return now.isGone(hose) ? NONE : now.outcomeOf(hose, pressure);
    }

    /**
     * Finds the greatest pressure of a test.
     *
     * @param hose its number
     * @return the greatest pressure, 4 to 24, with which a test would not burst the hose; NONE if there is none, or it
     *     is gone
     * @throws IndexOutOfBoundsException if there is no such hose
     */
    public int safe(int hose) throws IndexOutOfBoundsException {
        requireHose(hose);
        return now.isGone(hose) ? NONE : now.greatestSafePressure(hose);
    }

    /**
     * Tells when a ready hose is not ready any more.
     *
     * @return behind how many days the first of all hoses that are ready now would not be ready, with nothing done; NONE
     *     if none is ready
     */
    public int nextLapse() {
        return now.daysToFirstLapse();
    }

    /**
     * Finds the cheapest hose in the store that makes a truck whole.
     *
     * @param truck 0 to 2
     * @return the ready hose in the store with which, put on the truck, it would be whole, and which cost least when it
     *     was new, of several the lowest; NONE if there is none, or the truck is whole
     * @throws IndexOutOfBoundsException if there is no such truck
     */
    public int helps(int truck) throws IndexOutOfBoundsException {
        requireTruck(truck);
        return now.cheapestHelp(truck);
    }

    /**
     * Returns how many hoses are ready.
     *
     * @return the ready hoses, as a double, divided by all that are not gone; 1.0 without any
     */
    public double readyShare() {
        int present = now.hoses - now.hosesAt(NONE);
        if (present <= 0) {
            return 1.0;
        }
        return (double) now.readyHoses() / (double) present;
    }

    /**
     * Computes a hash of the whole state.
     *
     * @return the hash
     */
    public long digest() {
        long hash = 3271L;
        for (int what = 0; what < COUNTS; what++) {
            hash = mixed(hash, count(what));
        }
        for (int i = 0; i < SETTINGS; i++) {
            hash = mixed(hash, now.settings[i]);
        }
        for (int h = 0; h < now.hoses; h++) {
            for (int what = 0; what < HOSE_LOOKS; what++) {
                hash = mixed(hash, hose(h, what));
            }
            hash = mixed(hash, ifTested(h, DIGEST_PRESSURE));
            hash = mixed(hash, safe(h));
        }
        for (int t = 0; t < TRUCKS; t++) {
            for (int what = 0; what < TRUCK_LOOKS; what++) {
                hash = mixed(hash, truck(t, what));
            }
            hash = mixed(hash, helps(t));
        }
        hash = mixed(hash, nextLapse());
        hash = mixed(hash, bitsOfShare(readyShare()));
        hash = mixed(hash, text.size);
        for (int i = 0; i < text.size; i++) {
            hash = mixed(hash, text.codes[i]);
        }
        return hash;
    }

    // ---- helpers

    private static boolean isWithin(int value, int least, int greatest) {
        return value >= least && value <= greatest;
    }

    private void requireHose(int hose) {
        if (!isWithin(hose, 0, now.hoses - 1)) {
            throw new IndexOutOfBoundsException("there is no such hose");
        }
    }

    private void requireAtHand(int hose) {
        if (now.isGone(hose) || now.isLent(hose)) {
            throw new IllegalStateException("the hose is gone or lent");
        }
    }

    private static void requireTruck(int truck) {
        if (!isWithin(truck, 0, TRUCKS - 1)) {
            throw new IndexOutOfBoundsException("there is no such truck");
        }
    }

    private static void requireSetting(int setting) {
        if (!isWithin(setting, 0, SETTINGS - 1)) {
            throw new IndexOutOfBoundsException("there is no such setting");
        }
    }

    private static void requirePressure(int pressure) {
        if (!isWithin(pressure, LEAST_PRESSURE, GREATEST_PRESSURE)) {
            throw new IllegalArgumentException("pressure is out of range");
        }
    }

    private static int leastOfSetting(int setting) {
        return setting == COUNTING_PRESSURE ? LEAST_PRESSURE : 0;
    }

    private static int greatestOfSetting(int setting) {
        switch (setting) {
            case COUNTING_PRESSURE: return GREATEST_PRESSURE;
            case ADAPTERS: return 5;
            default: return 200;
        }
    }

    /** The saved states are a ring of rows made once, so that no call makes new ones. */
    private void saveState() {
        latestSaved = latestSaved >= MAX_SAVED - 1 ? 0 : latestSaved + 1;
        Station row = saved[latestSaved];
        if (row != null) {
            row.copyFrom(now);
        }
        if (savedStates < MAX_SAVED) {
            savedStates++;
        }
    }

    private int buyParts() {
        int bought = 0;
        int kind = LINEN;
        int length = 0;
        for (int i = 0; i < text.size; i++) {
            int code = text.codes[i];
            if (HoseText.kindOf(code) != NONE) {
                kind = HoseText.kindOf(code);
                length = 0;
            } else if (HoseText.isDigit(code)) {
                length = 10 * length + code - '0';
            } else if (HoseText.couplingOf(code) != NONE) {
                if (!now.canBuy(kind, length)) {
                    return bought;
                }
                now.addHose(kind, length, HoseText.couplingOf(code), STORE);
                bought++;
            }
        }
        return bought;
    }

    private static long mixed(long hash, long value) {
        return 31L * hash + value;
    }

    /** The bits by hand, as the language's rules leave no Double; a share is 0 or from 1/14 to 1. */
    private static long bitsOfShare(double share) {
        if (share <= 0.0) {
            return 0L;
        }
        double significand = share;
        long exponent = 1023L;
        for (int i = 0; i < 1022 && significand < 1.0; i++) {
            significand = significand * 2.0;
            exponent--;
        }
        long fraction = (long) ((significand - 1.0) * 4503599627370496.0);
        return (exponent << 52) + fraction;
    }

    /** What is the same for all hoses of a kind. */
    private static final class Kinds {

        private Kinds() {
        }

        static int strengthOf(int kind, int wear, int age) {
            switch (kind) {
                case LINEN: return Math.max(0, 16 - wear / 10 - age);
                case RUBBER: return Math.max(0, 20 - wear / 8 - age / 2);
                default: return Math.max(0, 24 - wear / 5);
            }
        }

        static int lifeOf(int kind) {
            switch (kind) {
                case LINEN: return 900;
                case RUBBER: return 1500;
                default: return 1200;
            }
        }

        static int daysInForce(int kind) {
            switch (kind) {
                case LINEN: return 100;
                case RUBBER: return 150;
                default: return 200;
            }
        }

        static int costOf(int kind, int length) {
            switch (kind) {
                case LINEN: return 2 * length;
                case RUBBER: return 3 * length;
                default: return 4 * length + 10;
            }
        }
    }

    /** A line while it is laid, hose by hose. */
    private static final class Line {
        int metres;
        int adaptersUsed;
        int mask;
        private int lastCoupling;

        void begin() {
            metres = 0;
            adaptersUsed = 0;
            mask = 0;
            lastCoupling = NONE;
        }

        void join(int hose, int length, int coupling, int adapters) {
            if (lastCoupling != NONE && lastCoupling != coupling) {
                if (adaptersUsed >= adapters) {
                    return;
                }
                adaptersUsed++;
            }
            lastCoupling = coupling;
            metres += length;
            mask |= 1 << hose;
        }
    }

    /** All that undo brings back; one row of each array for each hose, in the order of their numbers. */
    private static final class Station {
        int day;
        int money;
        int hoses;
        int tests;
        int bursts;
        int paid;
        final int[] wanted;
        final int[] settings;
        final int[] kind;
        final int[] length;
        final int[] coupling;
        final int[] made;
        final int[] wear;
        final int[] lastTestDay;
        final int[] place;
        final int[] backDay;
        final Line line;

        Station() {
            day = 0;
            money = 200;
            wanted = new int[] {60, 60, 60};
            settings = new int[] {12, 1, 50};
            kind = new int[MAX_HOSES];
            length = new int[MAX_HOSES];
            coupling = new int[MAX_HOSES];
            made = new int[MAX_HOSES];
            wear = new int[MAX_HOSES];
            lastTestDay = new int[MAX_HOSES];
            place = new int[MAX_HOSES];
            backDay = new int[MAX_HOSES];
            line = new Line();
        }

        void copyFrom(Station other) {
            day = other.day;
            money = other.money;
            hoses = other.hoses;
            tests = other.tests;
            bursts = other.bursts;
            paid = other.paid;
            System.arraycopy(other.wanted, 0, wanted, 0, TRUCKS);
            System.arraycopy(other.settings, 0, settings, 0, SETTINGS);
            System.arraycopy(other.kind, 0, kind, 0, MAX_HOSES);
            System.arraycopy(other.length, 0, length, 0, MAX_HOSES);
            System.arraycopy(other.coupling, 0, coupling, 0, MAX_HOSES);
            System.arraycopy(other.made, 0, made, 0, MAX_HOSES);
            System.arraycopy(other.wear, 0, wear, 0, MAX_HOSES);
            System.arraycopy(other.lastTestDay, 0, lastTestDay, 0, MAX_HOSES);
            System.arraycopy(other.place, 0, place, 0, MAX_HOSES);
            System.arraycopy(other.backDay, 0, backDay, 0, MAX_HOSES);
        }

        boolean isGone(int hose) {
            return place[hose] == NONE;
        }

        boolean isLent(int hose) {
            return place[hose] == LENT;
        }

        boolean isOnTruck(int hose) {
            return isWithin(place[hose], 0, TRUCKS - 1);
        }

        boolean isReady(int hose) {
            return reasonOf(hose) == READY;
        }

        int reasonOf(int hose) {
            if (isGone(hose)) {
                return IS_GONE;
            }
            if (isLent(hose)) {
                return IS_LENT;
            }
            if (day - made[hose] > Kinds.lifeOf(kind[hose])) {
                return IS_TOO_OLD;
            }
            return lastTestDay[hose] == NONE || day > lastTestDay[hose] ? IS_UNTESTED : READY;
        }

        int strengthAt(int hose, int worn) {
            return Kinds.strengthOf(kind[hose], worn, (day - made[hose]) / 100);
        }

        int priceOf(int hose) {
            return Kinds.costOf(kind[hose], length[hose]);
        }

        boolean canBuy(int ofKind, int ofLength) {
            return hoses < MAX_HOSES && Kinds.costOf(ofKind, ofLength) <= money;
        }

        /** Only behind canBuy, which tells that there is a row for it. */
        int addHose(int ofKind, int ofLength, int ofCoupling, int atPlace) {
            int hose = hoses;
            kind[hose] = ofKind;
            length[hose] = ofLength;
            coupling[hose] = ofCoupling;
            made[hose] = day;
            wear[hose] = 0;
            lastTestDay[hose] = NONE;
            place[hose] = atPlace;
            backDay[hose] = NONE;
            hoses++;
            money -= priceOf(hose);
            paid += priceOf(hose);
            return hose;
        }

        /** Only behind canBuy. */
        int replaceHose(int old) {
            int atPlace = place[old];
            place[old] = NONE;
            return addHose(kind[old], length[old], coupling[old], atPlace);
        }

        int lendOut(int hose, int days) {
            place[hose] = LENT;
            backDay[hose] = day + days;
            return backDay[hose];
        }

        static int stepsUpTo(int pressure) {
            return (pressure + PRESSURE_STEP - 1) / PRESSURE_STEP;
        }

        int stepsHeld(int hose, int pressure) {
            int steps = stepsUpTo(pressure);
            int worn = wear[hose];
            for (int held = 0; held < steps; held++) {
                int stepPressure = Math.min(PRESSURE_STEP * (held + 1), pressure);
                if (strengthAt(hose, worn) < stepPressure) {
                    return held;
                }
                worn = Math.min(MAX_WEAR, worn + 1);
            }
            return steps;
        }

        int outcomeOf(int hose, int pressure) {
            int held = stepsHeld(hose, pressure);
            return held < stepsUpTo(pressure) ? held + BURST : held;
        }

        int runTest(int hose, int pressure) {
            int outcome = outcomeOf(hose, pressure);
            boolean burst = outcome >= BURST;
            wear[hose] = Math.min(MAX_WEAR, wear[hose] + (burst ? outcome - BURST : outcome));
            tests++;
            if (burst) {
                bursts++;
                place[hose] = NONE;
            } else if (pressure >= settings[COUNTING_PRESSURE]) {
                lastTestDay[hose] = day + Kinds.daysInForce(kind[hose]);
            }
            return outcome;
        }

        int greatestSafePressure(int hose) {
            for (int pressure = GREATEST_PRESSURE; pressure >= LEAST_PRESSURE; pressure--) {
                if (stepsHeld(hose, pressure) == stepsUpTo(pressure)) {
                    return pressure;
                }
            }
            return NONE;
        }

        void passDay() {
            day++;
            takeBackLent();
            if (day % 10 == 0) {
                wearOnTrucks();
            }
            if (day % 30 == 0) {
                money = Math.min(MAX_MONEY, money + settings[INCOME]);
            }
        }

        private void takeBackLent() {
            for (int h = 0; h < hoses; h++) {
                if (isLent(h) && backDay[h] == day) {
                    place[h] = STORE;
                    backDay[h] = NONE;
                }
            }
        }

        private void wearOnTrucks() {
            for (int h = 0; h < hoses; h++) {
                if (isOnTruck(h) && isReady(h)) {
                    wear[h] = Math.min(MAX_WEAR, wear[h] + 1);
                }
            }
        }

        int hosesAt(int where) {
            int found = 0;
            for (int h = 0; h < hoses; h++) {
                if (place[h] == where) {
                    found++;
                }
            }
            return found;
        }

        int readyHosesAt(int where) {
            int found = 0;
            for (int h = 0; h < hoses; h++) {
                if (place[h] == where && isReady(h)) {
                    found++;
                }
            }
            return found;
        }

        int readyHoses() {
            int found = 0;
            for (int h = 0; h < hoses; h++) {
                if (isReady(h)) {
                    found++;
                }
            }
            return found;
        }

        /** Lays the line as it would be with one hose more on the truck (NONE: as it is); tells if it is whole then. */
        boolean layLine(int truck, int more) {
            line.begin();
            for (int h = 0; h < hoses; h++) {
                if ((place[h] == truck || h == more) && isReady(h)) {
                    line.join(h, length[h], coupling[h], settings[ADAPTERS]);
                }
            }
            return line.metres >= wanted[truck];
        }

        int wholeTrucks() {
            int found = 0;
            for (int t = 0; t < TRUCKS; t++) {
                if (layLine(t, NONE)) {
                    found++;
                }
            }
            return found;
        }

        int cheapestHelp(int truck) {
            if (layLine(truck, NONE)) {
                return NONE;
            }
            int best = NONE;
            int bestPrice = 0;
            for (int h = 0; h < hoses; h++) {
                boolean makesWhole = place[h] == STORE && isReady(h) && layLine(truck, h);
                if (makesWhole && (best == NONE || priceOf(h) < bestPrice)) {
                    best = h;
                    bestPrice = priceOf(h);
                }
            }
            return best;
        }

        int daysToFirstLapse() {
            int first = NONE;
            for (int h = 0; h < hoses; h++) {
                if (isReady(h)) {
                    int lastReadyDay = Math.min(lastTestDay[h], made[h] + Kinds.lifeOf(kind[h]));
                    int days = lastReadyDay + 1 - day;
                    first = first == NONE ? days : Math.min(first, days);
                }
            }
            return first;
        }
    }

    /** The buffer, and what its characters mean. */
    private static final class HoseText {
        private static final int CAPACITY = 60;

        private static final int KIND_DUE = 0;
        private static final int LENGTH_DUE = 1;
        private static final int SECOND_DIGIT_DUE = 2;
        private static final int ZERO_OR_COUPLING_DUE = 3;
        private static final int COUPLING_DUE = 4;
        private static final int PART_COMPLETE = 5;

        final int[] codes;
        int size;

        HoseText() {
            codes = new int[CAPACITY];
            size = 0;
        }

        boolean isFull() {
            return size >= CAPACITY;
        }

        /** Only if it is not full. */
        void addCode(int code) {
            codes[size] = code;
            size++;
        }

        int findError() {
            int state = KIND_DUE;
            for (int i = 0; i < size; i++) {
                state = stateBehind(state, codes[i]);
                if (state == NONE) {
                    return i;
                }
            }
            return size;
        }

        boolean isComplete() {
            int state = KIND_DUE;
            for (int i = 0; i < size && state != NONE; i++) {
                state = stateBehind(state, codes[i]);
            }
            return state == PART_COMPLETE;
        }

        /** NONE if no text goes on with this character. */
        private static int stateBehind(int state, int code) {
            switch (state) {
                case KIND_DUE: return kindOf(code) != NONE ? LENGTH_DUE : NONE;
                case LENGTH_DUE: return stateBehindFirstDigit(code);
                case SECOND_DIGIT_DUE: return isDigit(code) ? COUPLING_DUE : NONE;
                case ZERO_OR_COUPLING_DUE: return code == '0' ? COUPLING_DUE : stateBehindCoupling(code);
                case COUPLING_DUE: return stateBehindCoupling(code);
                default: return code == ',' ? KIND_DUE : NONE;
            }
        }

        /** 1 to 4 metres are too short and 51 too long, so the first digit tells what may follow. */
        private static int stateBehindFirstDigit(int code) {
            if (!isDigit(code) || code == '0') {
                return NONE;
            }
            if (code == '5') {
                return ZERO_OR_COUPLING_DUE;
            }
            return code < '5' ? SECOND_DIGIT_DUE : COUPLING_DUE;
        }

        private static int stateBehindCoupling(int code) {
            return couplingOf(code) != NONE ? PART_COMPLETE : NONE;
        }

        static boolean isDigit(int code) {
            return code >= '0' && code <= '9';
        }

        static int kindOf(int code) {
            switch (code) {
                case 'n': return LINEN;
                case 'r': return RUBBER;
                case 'l': return LINED;
                default: return NONE;
            }
        }

        static int couplingOf(int code) {
            return code >= 'a' && code <= 'c' ? code - 'a' : NONE;
        }
    }
}
