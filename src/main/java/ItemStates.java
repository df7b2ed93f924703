/** Copies in a house: their barcodes, places, states by days, losses and withdrawals. */
public final class ItemStates {
    public static final int NONE = -1;
    public static final int STATE = -2;
    public static final int RIGHT = -3;

    private static final int TYPES = 6;
    private static final int PLACES = 10;
    private static final int PERSONS = 100;
    private static final int MOST_COPIES = 80;
    private static final int MOST_DIGITS = 12;
    private static final int MOST_CENTS = 1000000;
    private static final long LAST_DAY = 1000000000000L;
    // A call enters one act at the most, and an object is promised for 512 calls.
    private static final int MOST_ENTRIES = 512;

    // An act bears the number of the state that it leads to, so these name the acts 0 to 6 too.
    private static final int ON_SHELF = 0;
    private static final int ON_LOAN = 1;
    private static final int IN_TRANSIT = 2;
    private static final int PROCESSING = 3;
    private static final int READING_ROOM = 4;
    private static final int BINDERY = 5;
    private static final int MISSING = 6;
    private static final int WITHDRAWN = 7;

    private final Copy[] copies;
    private int copyCount;
    // Told the other way round, so that a new array means that all rights are there.
    private final boolean[] denied;
    private final int[] fees;
    // 0 serves for "no act yet" too: no day is below it, and the first weeding's day is 1 either way.
    private long greatestDay;
    private int entryCount;

    public ItemStates() {
        copies = new Copy[MOST_COPIES];
        copyCount = 0;
        denied = new boolean[PLACES * TYPES];
        fees = new int[TYPES];
        greatestDay = 0;
        entryCount = 0;
    }

    public int check(long number, int digits) {
        if (number < 0 || digits < 1 || digits > MOST_DIGITS) {
            return NONE;
        }
        long rest = number;
        int sum = 0;
        for (int i = 0; i < digits; i++) {
            int digit = (int) (rest % 10);
            sum += i % 2 == 0 ? doubled(digit) : digit;
            rest /= 10;
        }
        if (rest != 0) {
            return NONE;
        }
        return (10 - sum % 10) % 10;
    }

    public int copy(int type, long barcode, int digits, int home) {
        if (!isType(type) || !isPlace(home) || copyCount >= MOST_COPIES) {
            return NONE;
        }
        if (!isBarcode(barcode, digits) || isTaken(barcode, digits)) {
            return NONE;
        }
        if (!hasRight(home, type)) {
            return RIGHT;
        }
        copies[copyCount] = new Copy(type, barcode, digits, home);
        copyCount++;
        return copyCount;
    }

    public boolean right(int place, int type, boolean on) {
        boolean before = hasRight(place, type);
        if (isPlace(place) && isType(type)) {
            denied[place * TYPES + type] = !on;
        }
        return before;
    }

    public int fee(int type, int cents) {
        if (!isType(type) || cents < 0 || cents > MOST_CENTS) {
            return NONE;
        }
        int before = fees[type];
        fees[type] = cents;
        return before;
    }

    public int act(int copy, int kind, int place, long day) {
        Copy it = find(copy);
        if (it == null || kind < ON_SHELF || kind > MISSING || day < 0 || day > LAST_DAY) {
            return NONE;
        }
        if (kind == IN_TRANSIT && (!isPlace(place) || place == it.place)) {
            return NONE;
        }
        if (entryCount >= MOST_ENTRIES) {
            return NONE;
        }
        boolean late = day < greatestDay;
        int before = late ? stateOn(it, day) : it.state;
        if (!canFollow(kind, before)) {
            return STATE;
        }
        if (lacksRight(it, kind, place, late)) {
            return RIGHT;
        }
        enter(it, day, kind, late);
        if (!late) {
            carryOut(it, kind, place);
        }
        return kind;
    }

    public int state(int copy, long day) {
        Copy it = find(copy);
        return it == null ? NONE : stateOn(it, day);
    }

    public int place(int copy) {
        Copy it = find(copy);
        return it == null ? NONE : it.place;
    }

    public boolean floats(int copy, boolean on) {
        Copy it = find(copy);
        if (it == null) {
            return false;
        }
        boolean before = it.floats;
        it.floats = on;
        return before;
    }

    public int home(int copy) {
        Copy it = find(copy);
        return it == null ? NONE : it.home;
    }

    public int weed(int copy, int by) {
        Copy it = find(copy);
        if (it == null || by < 0 || by >= PERSONS || entryCount >= MOST_ENTRIES) {
            return NONE;
        }
        if (!canBeWeeded(it.state) || it.wantedBy == by) {
            return STATE;
        }
        if (it.wantedBy == NONE) {
            it.wantedBy = by;
            return 1;
        }
        enter(it, greatestDay + 1, WITHDRAWN, false);
        it.state = WITHDRAWN;
        return 2;
    }

    public int owed(int copy) {
        Copy it = find(copy);
        return it == null ? NONE : it.owed;
    }

    public int history(int copy, int i, int what) {
        Copy it = find(copy);
        if (it == null || i < 0 || what < 0 || what > 1) {
            return NONE;
        }
        Entry entry = it.first;
        for (int k = 0; k < i && entry != null; k++) {
            entry = entry.next;
        }
        if (entry == null) {
            return NONE;
        }
        if (what == 0) {
            return entry.state;
        }
        return entry.late ? 1 : 0;
    }

    public int count(int state, int home) {
        int found = 0;
        for (int copy = 1; copy <= copyCount; copy++) {
            Copy it = find(copy);
            if (it != null && it.state == state && (home == NONE || it.home == home)) {
                found++;
            }
        }
        return found;
    }

    private static boolean isType(int type) {
        return type >= 0 && type < TYPES;
    }

    private static boolean isPlace(int place) {
        return place >= 0 && place < PLACES;
    }

    private static int doubled(int digit) {
        int twice = 2 * digit;
        return twice > 9 ? twice - 9 : twice;
    }

    // A barcode below 0 is refused first: its remainder could be the very number that NONE is.
    private boolean isBarcode(long barcode, int digits) {
        return barcode >= 0 && check(barcode / 10, digits) == (int) (barcode % 10);
    }

    private boolean isTaken(long barcode, int digits) {
        for (int copy = 1; copy <= copyCount; copy++) {
            Copy it = find(copy);
            if (it != null && it.barcode == barcode && it.digits == digits) {
                return true;
            }
        }
        return false;
    }

    private Copy find(int copy) {
        if (copy < 1 || copy > copyCount || copy > copies.length) {
            return null;
        }
        return copies[copy - 1];
    }

    private boolean hasRight(int place, int type) {
        return isPlace(place) && isType(type) && !denied[place * TYPES + type];
    }

    private static boolean canFollow(int kind, int state) {
        switch (kind) {
            case ON_SHELF:
                return state >= ON_LOAN && state <= MISSING;
            case ON_LOAN:
                return state == ON_SHELF || state == READING_ROOM;
            case IN_TRANSIT:
            case BINDERY:
                return state == ON_SHELF || state == PROCESSING;
            case PROCESSING:
                return state == ON_SHELF || state == MISSING;
            case READING_ROOM:
                return state == ON_SHELF;
            case MISSING:
                return state >= ON_SHELF && state <= BINDERY;
            default:
                return false;
        }
    }

    private static boolean canBeWeeded(int state) {
        return state == ON_SHELF || state == PROCESSING || state == MISSING;
    }

    private boolean lacksRight(Copy it, int kind, int place, boolean late) {
        if (kind == IN_TRANSIT) {
            return !hasRight(place, it.type);
        }
        boolean arrives = kind == ON_SHELF && it.state == IN_TRANSIT && !late;
        return arrives && !hasRight(it.place, it.type);
    }

    private static Entry lastUpTo(Copy it, long day) {
        Entry last = null;
        Entry entry = it.first;
        while (entry != null && entry.day <= day) {
            last = entry;
            entry = entry.next;
        }
        return last;
    }

    private static int stateOn(Copy it, long day) {
        Entry last = lastUpTo(it, day);
        return last == null ? PROCESSING : last.state;
    }

    private void enter(Copy it, long day, int state, boolean late) {
        Entry before = lastUpTo(it, day);
        if (before == null) {
            it.first = new Entry(day, state, late, it.first);
        } else {
            before.next = new Entry(day, state, late, before.next);
        }
        entryCount++;
        greatestDay = Math.max(greatestDay, day);
    }

    private void carryOut(Copy it, int kind, int place) {
        if (kind == MISSING && it.state == ON_LOAN && isType(it.type)) {
            it.owed += fees[it.type];
        }
        if (kind == IN_TRANSIT) {
            it.place = place;
        }
        if (kind == ON_SHELF && it.floats) {
            it.home = it.place;
        }
        it.state = kind;
        it.wantedBy = NONE;
    }

    /** A copy as it is now, and the chain of all that was entered on it. */
    private static final class Copy {
        private final int type;
        private final long barcode;
        private final int digits;
        private int home;
        // From the sending on this is where it goes: no later act tells another place.
        private int place;
        // Held beside the chain: an act that is late enters the chain, but leaves this as it is.
        private int state;
        private boolean floats;
        private int owed;
        // One person is enough to remember: with the second one the copy is withdrawn.
        private int wantedBy;
        private Entry first;

        private Copy(int type, long barcode, int digits, int home) {
            this.type = type;
            this.barcode = barcode;
            this.digits = digits;
            this.home = home;
            this.place = home;
            this.state = PROCESSING;
            this.floats = false;
            this.owed = 0;
            this.wantedBy = NONE;
            this.first = null;
        }
    }

    /** An act as it was entered; the chain goes by days, those of one day as they were entered. */
    private static final class Entry {
        private final long day;
        private final int state;
        private final boolean late;
        private Entry next;

        private Entry(long day, int state, boolean late, Entry next) {
            this.day = day;
            this.state = state;
            this.late = late;
            this.next = next;
        }
    }
}
