import java.util.Arrays;

/**
 * A heap of small objects on pages of which only a few may be in memory. Garbage is collected without touching the
 * pages that are out: what they hold is known by bookmarks that are set when a page goes.
 *
 * <p>An object is known by its place. All rows are made in the constructor, so that no call makes anything.
 */
public final class BookmarkHeap {
    private static final int PAGES = 8;
    private static final int PLACES_OF_PAGE = 4;
    private static final int PLACES = PAGES * PLACES_OF_PAGE;
    private static final int FIELDS = 2;
    private static final int REGISTERS = 4;

    private static final int LEAST_BUDGET = 2;
    private static final int FIRST_BUDGET = 4;

    private static final int NOTHING = -1;
    private static final int NO_PAGE = -1;

    private static final int EMPTY = 0;
    private static final int IN = 1;
    private static final int OUT = 2;

    private final boolean[] taken;
    private final boolean[] bookmarked;
    private final int[] values;
    /** The fields of place p from FIELDS * p on. A place without an object has NOTHING there. */
    private final int[] fields;
    private final int[] registers;

    private final int[] states;
    private final boolean[] used;
    private final int[] counts;

    private final boolean[] kept;
    private final int[] keptPlaces;
    private int keptSize;

    private int pagesAllowed;
    private int faultsSoFar;
    private int handPage;

    public BookmarkHeap() {
        taken = new boolean[PLACES];
        bookmarked = new boolean[PLACES];
        values = new int[PLACES];
        fields = new int[FIELDS * PLACES];
        registers = new int[REGISTERS];
        states = new int[PAGES];
        used = new boolean[PAGES];
        counts = new int[PAGES];
        kept = new boolean[PLACES];
        keptPlaces = new int[PLACES];
        Arrays.fill(fields, NOTHING);
        Arrays.fill(registers, NOTHING);
        pagesAllowed = FIRST_BUDGET;
    }

    public int make(int r, int value) throws IndexOutOfBoundsException, IllegalStateException {
        checkRegister(r);
        int place = takePlace(true);
        if (place == NOTHING) {
            collectWithin();
            place = takePlace(true);
        }
        if (place == NOTHING) {
            place = takePlaceThoroughly();
        }
        if (place == NOTHING) {
            throw new IllegalStateException("no place for an object");
        }
        values[place] = value;
        registers[r] = place;
        return place;
    }

    public int store(int r, int field, int s) throws IndexOutOfBoundsException, IllegalArgumentException {
        checkRegister(r);
        checkField(field);
        checkRegister(s);
        checkHolds(r);
        int place = registers[r];
        touch(pageOf(place));
        fields[FIELDS * place + field] = registers[s];
        return faultsSoFar;
    }

    public int load(int d, int r, int field) throws IndexOutOfBoundsException, IllegalArgumentException {
        checkRegister(d);
        checkRegister(r);
        checkField(field);
        checkHolds(r);
        int place = registers[r];
        touch(pageOf(place));
        registers[d] = fields[FIELDS * place + field];
        return faultsSoFar;
    }

    public int value(int r) throws IndexOutOfBoundsException, IllegalArgumentException {
        checkRegister(r);
        checkHolds(r);
        int place = registers[r];
        touch(pageOf(place));
        return values[place];
    }

    public int copy(int d, int r) throws IndexOutOfBoundsException {
        checkRegister(d);
        checkRegister(r);
        registers[d] = registers[r];
        return registers[d];
    }

    public boolean drop(int r) throws IndexOutOfBoundsException {
        checkRegister(r);
        boolean held = registers[r] != NOTHING;
        registers[r] = NOTHING;
        return held;
    }

    public int budget(int n) throws IllegalArgumentException {
        if (n < LEAST_BUDGET || n > PAGES) {
            throw new IllegalArgumentException("the budget is 2 to 8 pages");
        }
        pagesAllowed = n;
        return putOutBeyondBudget(NO_PAGE);
    }

    public int collect() {
        return collectWithin();
    }

    public int thorough() {
        bringInAll();
        int gone = collectWithin();
        putOutBeyondBudget(NO_PAGE);
        return gone;
    }

    public int faults() {
        return faultsSoFar;
    }

    public int objects() {
        int sum = 0;
        for (int place = 0; place < PLACES; place++) {
            if (taken[place]) {
                sum++;
            }
        }
        return sum;
    }

    public int page(int p) {
        if (!isPage(p)) {
            return -1;
        }
        if (states[p] == EMPTY) {
            return 0;
        }
        if (states[p] == OUT) {
            return 3;
        }
        return used[p] ? 2 : 1;
    }

    public int count(int p) {
        return isPage(p) ? counts[p] : -1;
    }

    public int places(int p) {
        if (!isPage(p)) {
            return -1;
        }
        int sum = 0;
        for (int k = 0; k < PLACES_OF_PAGE; k++) {
            int place = PLACES_OF_PAGE * p + k;
            if (taken[place]) {
                sum += 1 << k;
            }
            if (bookmarked[place]) {
                sum += 16 << k;
            }
        }
        return sum;
    }

    public int hand() {
        return handPage;
    }

    private static void checkRegister(int r) {
        if (r < 0 || r >= REGISTERS) {
            throw new IndexOutOfBoundsException("there is no such register");
        }
    }

    private static void checkField(int field) {
        if (field < 0 || field >= FIELDS) {
            throw new IndexOutOfBoundsException("there is no such field");
        }
    }

    private void checkHolds(int r) {
        if (registers[r] == NOTHING) {
            throw new IllegalArgumentException("the register holds nothing");
        }
    }

    private static boolean isPage(int p) {
        return p >= 0 && p < PAGES;
    }

    private static int pageOf(int place) {
        return place / PLACES_OF_PAGE;
    }

    private static int firstPlaceOf(int page) {
        return PLACES_OF_PAGE * page;
    }

    private int pagesIn() {
        int sum = 0;
        for (int page = 0; page < PAGES; page++) {
            if (states[page] == IN) {
                sum++;
            }
        }
        return sum;
    }

    private boolean refersTo(int page, int other) {
        if (page == other) {
            return false;
        }
        int start = FIELDS * firstPlaceOf(page);
        for (int i = start; i < start + FIELDS * PLACES_OF_PAGE; i++) {
            if (fields[i] != NOTHING && pageOf(fields[i]) == other) {
                return true;
            }
        }
        return false;
    }

    private void touch(int page) {
        if (states[page] == OUT) {
            faultsSoFar++;
            makeRoomForPage();
            bringIn(page);
        }
        used[page] = true;
    }

    private void makeRoomForPage() {
        if (pagesIn() >= pagesAllowed) {
            putOut(choose(NO_PAGE));
        }
    }

    private void putOut(int page) {
        bookmarkAllOf(page);
        for (int other = 0; other < PAGES; other++) {
            if (refersTo(page, other)) {
                counts[other]++;
            }
        }
        states[page] = OUT;
        used[page] = false;
    }

    private void bookmarkAllOf(int page) {
        int start = firstPlaceOf(page);
        for (int place = start; place < start + PLACES_OF_PAGE; place++) {
            if (taken[place]) {
                bookmarked[place] = true;
            }
        }
        for (int i = FIELDS * start; i < FIELDS * (start + PLACES_OF_PAGE); i++) {
            if (fields[i] != NOTHING) {
                bookmarked[fields[i]] = true;
            }
        }
    }

    private void bringIn(int page) {
        states[page] = IN;
        used[page] = false;
        for (int other = 0; other < PAGES; other++) {
            if (refersTo(page, other)) {
                counts[other]--;
                forgetBookmarksUnlessCounted(other);
            }
        }
        forgetBookmarksUnlessCounted(page);
    }

    /** A page that is out keeps its bookmarks whatever its count: it loses them when it comes in. */
    private void forgetBookmarksUnlessCounted(int page) {
        if (states[page] != IN || counts[page] != 0) {
            return;
        }
        int start = firstPlaceOf(page);
        for (int place = start; place < start + PLACES_OF_PAGE; place++) {
            bookmarked[place] = false;
        }
    }

    /** A count tells how many pages out refer to a page, so with none out all counts are 0 and no bookmark is left. */
    private void bringInAll() {
        for (int page = 0; page < PAGES; page++) {
            if (states[page] == OUT) {
                faultsSoFar++;
                bringIn(page);
            }
        }
    }

    private int putOutBeyondBudget(int spared) {
        int gone = 0;
        for (int in = pagesIn(); in > pagesAllowed; in--) {
            putOut(choose(spared));
            gone++;
        }
        return gone;
    }

    /**
     * Pages are chosen only while two or more are in, so one of them is not spared: one round clears its used bit, and
     * the hand stops at it in the second round at the latest.
     */
    private int choose(int spared) {
        for (int step = 0; step < 2 * PAGES && passes(spared); step++) {
            if (handPage != spared) {
                used[handPage] = false;
            }
            moveHand();
        }
        int chosen = handPage;
        moveHand();
        return chosen;
    }

    private boolean passes(int spared) {
        return states[handPage] != IN || handPage == spared || used[handPage];
    }

    private void moveHand() {
        handPage = (handPage + 1) % PAGES;
    }

    private int collectWithin() {
        markKept();
        int gone = 0;
        for (int place = 0; place < PLACES; place++) {
            if (taken[place] && states[pageOf(place)] == IN && !kept[place]) {
                remove(place);
                gone++;
            }
        }
        for (int page = 0; page < PAGES; page++) {
            if (states[page] == IN && isBare(page)) {
                states[page] = EMPTY;
                used[page] = false;
            }
        }
        return gone;
    }

    private void markKept() {
        for (int place = 0; place < PLACES; place++) {
            kept[place] = false;
        }
        keptSize = 0;
        for (int r = 0; r < REGISTERS; r++) {
            keep(registers[r]);
        }
        for (int place = 0; place < PLACES; place++) {
            if (bookmarked[place]) {
                keep(place);
            }
        }
        // The row grows while it is read: what a kept object holds is kept in its turn.
        for (int i = 0; i < keptSize && i < PLACES; i++) {
            for (int field = 0; field < FIELDS; field++) {
                keep(fields[FIELDS * keptPlaces[i] + field]);
            }
        }
    }

    private void keep(int place) {
        if (place == NOTHING || kept[place] || states[pageOf(place)] != IN) {
            return;
        }
        kept[place] = true;
        keptPlaces[keptSize] = place;
        keptSize++;
    }

    private void remove(int place) {
        taken[place] = false;
        for (int field = 0; field < FIELDS; field++) {
            fields[FIELDS * place + field] = NOTHING;
        }
    }

    private boolean isBare(int page) {
        int start = firstPlaceOf(page);
        for (int place = start; place < start + PLACES_OF_PAGE; place++) {
            if (taken[place]) {
                return false;
            }
        }
        return true;
    }

    /** The place taken for a new object, or NOTHING; withinBudget says whether a page may be put out for it. */
    private int takePlace(boolean withinBudget) {
        int place = freePlaceOnPagesIn();
        if (place == NOTHING) {
            place = placeOnEmptyPage();
            if (place != NOTHING && withinBudget) {
                makeRoomForPage();
            }
        }
        if (place != NOTHING) {
            occupy(place);
        }
        return place;
    }

    private int takePlaceThoroughly() {
        bringInAll();
        collectWithin();
        int place = takePlace(false);
        putOutBeyondBudget(place == NOTHING ? NO_PAGE : pageOf(place));
        return place;
    }

    private int freePlaceOnPagesIn() {
        for (int place = 0; place < PLACES; place++) {
            if (!taken[place] && states[pageOf(place)] == IN) {
                return place;
            }
        }
        return NOTHING;
    }

    private int placeOnEmptyPage() {
        for (int page = 0; page < PAGES; page++) {
            if (states[page] == EMPTY) {
                return firstPlaceOf(page);
            }
        }
        return NOTHING;
    }

    /** The fields of a free place hold nothing and it has no bookmark already. */
    private void occupy(int place) {
        int page = pageOf(place);
        if (states[page] == EMPTY) {
            states[page] = IN;
            counts[page] = 0;
        }
        used[page] = true;
        taken[place] = true;
    }
}
