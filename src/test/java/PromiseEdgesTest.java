/**
 * The boundary cases of making an object, of calls that throw and of promises 1 to 16, a test for each sentence or part
 * of one: the words that it is about stand at its head. The answers were worked out by hand from the document.
 */
public final class PromiseEdgesTest {
    private PromiseEdgesTest() {
    }

    public static void main(String[] args) {
        newObject();
        makeOnLowestPlace();
        makeSetsUsed();
        makeNotOnPageOut();
        makeOnLowestEmptyPage();
        makeCollectsOnlyWhenFull();
        makeAfterCollectionOnPageIn();
        makeAfterCollectionOnEmptyPage();
        makeAfterThoroughOnPageIn();
        makeAfterThoroughOnEmptyPage();
        makeAfterThoroughWithinBudget();
        makeAllNew();
        makeNotBookmarked();
        makeHoldsTheOldWhileCollecting();
        makeHoldsTheOldWhileThorough();
        makeNowhere();
        makeNowhereWithAllIn();
        makeAgainAfterNowhere();
        makeWithoutRegister();
        storeWithoutNumbers();
        storeWithNothing();
        storeNothing();
        storeToItself();
        storeOnPageOut();
        loadWithoutNumbers();
        loadWithNothing();
        loadNothing();
        loadIntoItsOwnRegister();
        loadOnPageOut();
        valueWithoutRegister();
        valueWithNothing();
        valueOnPageOut();
        copyWithoutRegister();
        copyNothing();
        copyToItself();
        dropWithoutRegister();
        dropNothing();
        dropOneOfTwo();
        budgetTooSmallOrLarge();
        budgetLeastAndMost();
        budgetAsItWas();
        collectAnswers();
        thoroughAnswers();
        faultsAtTheEdges();
        objectsAtTheEdges();
        pageAtTheEdges();
        countAtTheEdges();
        placesAtTheEdges();
        handAtTheEdges();
        calls512();
        Due.end();
    }

    private static void newObject() {
        Due.by("All pages are empty, all counts and FAULTS 0, all registers hold nothing.");
        BookmarkHeap heap = new BookmarkHeap();
        Due.is("state", Heaps.state(heap), "00000000 00000000 0 0 0 0 0 0 0 0 0 0 0");
        Due.is("registers", Heaps.registers(heap), "-1 -1 -1 -1");
        Due.is("collect", heap.collect(), 0);
        Due.is("thorough", heap.thorough(), 0);
        Due.is("state", Heaps.state(heap), "00000000 00000000 0 0 0 0 0 0 0 0 0 0 0");
    }

    /** Places 0, 2 and 4 are held by registers 0 to 2, the others of pages 0 and 1 are free. */
    private static BookmarkHeap withGaps() {
        BookmarkHeap heap = Heaps.withBudget(8);
        for (int r : new int[] {0, 3, 1, 3, 2, 3, 3, 3, 3}) {
            heap.make(r, 0);
        }
        heap.drop(3);
        Due.is("collect", heap.collect(), 6);
        Due.is("places 0, 2 and 4", Heaps.state(heap), "22000000 00000000 5 1 0 0 0 0 0 0 0 0 3");
        return heap;
    }

    private static void makeOnLowestPlace() {
        Due.by("1. on the lowest place without an object among those on pages in");
        BookmarkHeap heap = withGaps();
        for (int place : new int[] {1, 3, 5, 6, 7}) {
            Due.is("make", heap.make(3, 0), place);
        }
        Due.is("both pages are full", Heaps.state(heap), "22000000 00000000 15 15 0 0 0 0 0 0 0 0 8");
        Due.is("make", heap.make(3, 0), 8);
    }

    /** Places 0, 4 and 8 (registers 0 to 2) are alone on their pages; page 0 is out, no used bit is set. */
    private static BookmarkHeap withRoomOnPageOut() {
        BookmarkHeap heap = Heaps.withBudget(8);
        for (int r = 0; r < 3; r++) {
            heap.make(r, 0);
            Heaps.fill(heap, 3, 3);
        }
        heap.drop(3);
        Due.is("collect", heap.collect(), 9);
        Due.is("budget(2)", heap.budget(2), 1);
        Due.is("page 0 out", Heaps.state(heap), "31100000 00000000 17 1 1 0 0 0 0 0 1 0 3");
        return heap;
    }

    private static void makeSetsUsed() {
        Due.by("that page's used bit is set");
        BookmarkHeap heap = withRoomOnPageOut();
        heap.make(3, 0);
        Due.is("of page 1", Heaps.state(heap), "32100000 00000000 17 3 1 0 0 0 0 0 1 0 4");
    }

    private static void makeNotOnPageOut() {
        Due.by("among those on pages in");
        BookmarkHeap heap = withRoomOnPageOut();
        for (int place : new int[] {5, 6, 7, 9, 10, 11}) {
            Due.is("make", heap.make(3, 0), place);
        }
        Due.by("when as many pages are in as the budget says, one is chosen and put out first");
        Due.is("make on an empty page, while page 0 has room", heap.make(3, 0), 12);
        Due.is("page 1 is put out for it", Heaps.state(heap), "33120000 00000000 17 255 15 1 0 0 0 0 2 0 10");
    }

    private static void makeOnLowestEmptyPage() {
        Due.by("2. When there is none: on the first place of the lowest empty page");
        BookmarkHeap heap = Heaps.withBudget(8);
        Heaps.chain(heap, 4);
        Heaps.fill(heap, 2, 4);
        Heaps.chain(heap, 4);
        Heaps.fill(heap, 2, 4);
        heap.drop(2);
        Due.is("collect", heap.collect(), 8);
        Due.is("pages 1 and 3 are empty", Heaps.pages(heap), "20200000");
        for (int place : new int[] {4, 5, 6, 7, 12}) {
            Due.is("make", heap.make(3, 0), place);
        }
        Due.by("the page is in, its used bit is set, its count 0");
        Due.is("both are in", Heaps.state(heap), "22220000 00000000 15 15 15 1 0 0 0 0 0 0 13");
    }

    private static void makeCollectsOnlyWhenFull() {
        Due.by("3. When there is none: a collection within");
        BookmarkHeap heap = Heaps.withBudget(8);
        Heaps.fill(heap, 0, 32);
        Due.is("none before", heap.objects(), 32);
        heap.make(0, 0);
        Due.is("one for the 33rd", heap.objects(), 2);
    }

    /** Pages 0 to 5 are out and hold garbage, pages 6 and 7 are in; all places are taken, the hand is at 6. */
    private static BookmarkHeap withGarbageOut() {
        BookmarkHeap heap = Heaps.withBudget(2);
        Heaps.fill(heap, 3, 24);
        heap.drop(3);
        return heap;
    }

    private static void makeAfterCollectionOnPageIn() {
        Due.by("3. When there is none: a collection within, and 1 and 2 again.");
        BookmarkHeap heap = withGarbageOut();
        Heaps.fill(heap, 3, 8);
        Due.is("make on page 7, though page 6 is empty", heap.make(0, 0), 28);
        Due.is("pages out are left", Heaps.state(heap), "33333302 00000000 255 255 255 255 255 255 0 9 6 0 26");
    }

    private static void makeAfterCollectionOnEmptyPage() {
        Due.by("3. When there is none: a collection within, and 1 and 2 again.");
        BookmarkHeap heap = withGarbageOut();
        Heaps.chain(heap, 4);
        Heaps.fill(heap, 3, 4);
        heap.drop(3);
        Due.is("make on page 7, emptied", heap.make(2, 0), 28);
        Due.is("none is put out", Heaps.state(heap), "33333322 00000000 255 255 255 255 255 255 15 1 6 0 29");
    }

    private static void makeAfterThoroughOnPageIn() {
        Due.by("4. When there is none: a thorough collection, but before pages are put out at last, 1 and 2 again");
        BookmarkHeap heap = Heaps.withBudget(2);
        Heaps.fill(heap, 3, 3);
        heap.drop(3);
        Heaps.chain(heap, 29);
        Due.is("before", Heaps.state(heap), "33333322 11111000 255 255 255 255 255 255 15 15 6 0 32");
        Due.is("make on page 0, brought in", heap.make(3, 0), 0);
        // The hand goes from 6 (used) over 7 (used) and 0 (spared) to 1; page 1 holds place 3.
        Due.is("it is not put out, though pages 1 to 6 are", Heaps.state(heap),
            "23333331 11111100 137 255 255 255 255 255 255 15 7 6 30");
    }

    private static void makeAfterThoroughOnEmptyPage() {
        Due.by("4. When there is none: a thorough collection, but before pages are put out at last, 1 and 2 again"
            + " without a page being put out for it");
        BookmarkHeap heap = withGarbageOut();
        Heaps.chain(heap, 8);
        Due.is("make on page 0, emptied", heap.make(3, 0), 0);
        Due.is("page 6 is put out at last", Heaps.state(heap), "20000031 00000000 1 0 0 0 0 0 255 15 7 6 9");
    }

    private static void makeAfterThoroughWithinBudget() {
        Due.by("without a page being put out for it");
        BookmarkHeap heap = withGarbageOut();
        Heaps.chain(heap, 8);
        heap.budget(3);
        Due.is("make on page 0, emptied", heap.make(3, 0), 0);
        Due.is("three are in: none is put out at last", Heaps.state(heap), "20000022 00000000 1 0 0 0 0 0 15 15 6 6 9");
    }

    private static void makeAllNew() {
        Due.by("The new object has the value given, its fields hold nothing, it is not bookmarked.");
        BookmarkHeap heap = new BookmarkHeap();
        heap.make(0, 7);
        heap.store(0, 0, 0);
        heap.store(0, 1, 0);
        heap.drop(0);
        heap.collect();
        Due.is("make on the place of what is gone", heap.make(0, 0), 0);
        Due.is("value", heap.value(0), 0);
        Due.is("field 0", Heaps.held(heap, 1, 0, 0), -1);
        Due.is("field 1", Heaps.held(heap, 1, 0, 1), -1);
    }

    private static void makeNotBookmarked() {
        Due.by("The new object has the value given, its fields hold nothing, it is not bookmarked.");
        BookmarkHeap heap = Heaps.withBookmark();
        heap.collect();
        Due.is("make beside one that is", heap.make(0, 0), 6);
        Due.is("places 4 (bookmarked), 5 and 6", heap.places(1), 23);
        Due.is("count of its page", heap.count(1), 1);
    }

    private static void makeHoldsTheOldWhileCollecting() {
        Due.by("(what it held before counts as held while the object is made)");
        BookmarkHeap heap = Heaps.withBudget(8);
        Heaps.fill(heap, 3, 31);
        heap.drop(3);
        heap.make(0, 31);
        heap.store(0, 0, 0);
        Due.is("make", heap.make(0, 0), 28);
        Due.is("place 31 was held", heap.places(7), 9);
        Due.is("and is no more", heap.collect(), 1);
    }

    private static void makeHoldsTheOldWhileThorough() {
        Due.by("(what it held before counts as held while the object is made)");
        BookmarkHeap heap = withGarbageOut();
        Heaps.chain(heap, 8);
        heap.drop(1);
        Due.is("make", heap.make(0, 0), 0);
        Due.is("the chain was held", heap.objects(), 9);
        Due.is("and is no more", heap.thorough(), 8);
    }

    private static void makeNowhere() {
        Due.by("IllegalStateException when there is no place for it; then the collections have been made, and pages"
            + " been put out at last with none spared.");
        BookmarkHeap heap = Heaps.full(2);
        heap.value(1);
        Due.is("before", Heaps.state(heap), "33333322 11111000 255 255 255 255 255 255 15 15 6 0 32");
        Due.throwing("make", Heaps.STATE, () -> heap.make(3, 0));
        Due.is("six were brought in, six put out", Heaps.state(heap),
            "33333311 11111000 255 255 255 255 255 255 15 15 6 6 32");
        Due.is("registers as they were", Heaps.registers(heap), "31 30 -1 -1");
        Due.throwing("make", Heaps.STATE, () -> heap.make(0, 0));
        Due.is("pages 6, 7, 0, 1, 2 and 3 this time", Heaps.state(heap),
            "33331133 11100110 255 255 255 255 15 143 255 255 4 12 32");
        Due.is("registers as they were", Heaps.registers(heap), "31 30 -1 -1");
    }

    private static void makeNowhereWithAllIn() {
        Due.by("IllegalStateException when there is no place for it");
        BookmarkHeap heap = Heaps.full(8);
        Due.throwing("make", Heaps.STATE, () -> heap.make(3, 0));
        Due.is("none out, none put out", Heaps.state(heap), "22222222 00000000 15 15 15 15 15 15 15 15 0 0 32");
    }

    private static void makeAgainAfterNowhere() {
        Due.by("IllegalStateException when there is no place for it");
        BookmarkHeap heap = Heaps.full(8);
        Due.throwing("make", Heaps.STATE, () -> heap.make(0, 0));
        heap.copy(0, 1);
        Due.is("make when one is held no more", heap.make(3, 5), 31);
        Due.is("value", heap.value(3), 5);
        Due.throwing("make when all are held again", Heaps.STATE, () -> heap.make(2, 0));
    }

    private static void makeWithoutRegister() {
        Due.by("A register number or field number out of its range is an IndexOutOfBoundsException.");
        for (int r : Heaps.NO_REGISTERS) {
            Heaps.refused("make(" + r + ", 0), new", BookmarkHeap::new, Heaps.INDEX, heap -> heap.make(r, 0));
            Heaps.refused("make(" + r + ", 0)", Heaps::withPageOut, Heaps.INDEX, heap -> heap.make(r, 0));
        }
        Due.by("of several exceptions the one that stands first in the throws clause is thrown");
        for (int r : Heaps.NO_REGISTERS) {
            Heaps.refused("make(" + r + ", 0), full", () -> Heaps.full(2), Heaps.INDEX, heap -> heap.make(r, 0));
        }
    }

    private static void storeWithoutNumbers() {
        Due.by("A register number or field number out of its range is an IndexOutOfBoundsException.");
        for (int n : Heaps.NO_REGISTERS) {
            Heaps.refused("store(" + n + ", 0, 0)", Heaps::withPageOut, Heaps.INDEX, heap -> heap.store(n, 0, 0));
            Heaps.refused("store(0, 0, " + n + ")", Heaps::withPageOut, Heaps.INDEX, heap -> heap.store(0, 0, n));
        }
        for (int n : Heaps.NO_FIELDS) {
            Heaps.refused("store(0, " + n + ", 1)", Heaps::withPageOut, Heaps.INDEX, heap -> heap.store(0, n, 1));
        }
        Due.by("of several exceptions the one that stands first in the throws clause is thrown");
        for (int n : Heaps.NO_REGISTERS) {
            Heaps.refused("store(3, 0, " + n + ")", Heaps::withPageOut, Heaps.INDEX, heap -> heap.store(3, 0, n));
        }
        for (int n : Heaps.NO_FIELDS) {
            Heaps.refused("store(3, " + n + ", 1)", Heaps::withPageOut, Heaps.INDEX, heap -> heap.store(3, n, 1));
        }
    }

    private static void storeWithNothing() {
        Due.by("store: IllegalArgumentException when register r holds nothing.");
        for (int r = 0; r < 4; r++) {
            int none = r;
            Heaps.refused("store, new", BookmarkHeap::new, Heaps.ARGUMENT, heap -> heap.store(none, 0, none));
        }
        Heaps.refused("store(3, 0, 0)", Heaps::withPageOut, Heaps.ARGUMENT, heap -> heap.store(3, 0, 0));
        Heaps.refused("store(3, 1, 3)", Heaps::withPageOut, Heaps.ARGUMENT, heap -> heap.store(3, 1, 3));
    }

    private static void storeNothing() {
        Due.by("that field of it holds what register s holds (an object or nothing)");
        BookmarkHeap heap = new BookmarkHeap();
        heap.make(0, 0);
        heap.make(1, 0);
        Due.is("store nothing in what holds nothing", heap.store(0, 0, 3), 0);
        Due.is("nothing", Heaps.held(heap, 3, 0, 0), -1);
        Due.is("store an object", heap.store(0, 0, 1), 0);
        Due.is("an object", Heaps.held(heap, 2, 0, 0), 1);
        Due.is("store nothing in what holds an object", heap.store(0, 0, 3), 0);
        Due.is("nothing", Heaps.held(heap, 2, 0, 0), -1);
        heap.drop(1);
        Due.is("the object is held no more", heap.collect(), 1);
    }

    private static void storeToItself() {
        Due.by("that field of it holds what register s holds (an object or nothing)");
        BookmarkHeap heap = Heaps.withPageOut();
        Due.is("store(0, 1, 0)", heap.store(0, 1, 0), 1);
        Due.is("the object itself", Heaps.held(heap, 3, 0, 1), 0);
    }

    private static void storeOnPageOut() {
        Due.by("Touches the page of the object that register r holds [..] Answers FAULTS.");
        BookmarkHeap heap = Heaps.withPageOut();
        Due.is("store to a page in what is on a page out", heap.store(1, 0, 0), 0);
        Due.is("page 0 is not touched", Heaps.pages(heap), "31200000");
        Due.is("store to a page out", heap.store(0, 0, 1), 1);
        // Page 1, the next of the hand, is not used and goes for it.
        Due.is("page 0 is touched", Heaps.state(heap), "23200000 00000000 15 255 1 0 0 0 0 0 2 1 9");
        Due.is("the fault is no more than one", heap.store(0, 0, 2), 1);
        Due.is("page 1 is not touched", Heaps.pages(heap), "23200000");
    }

    private static void loadWithoutNumbers() {
        Due.by("A register number or field number out of its range is an IndexOutOfBoundsException.");
        for (int n : Heaps.NO_REGISTERS) {
            Heaps.refused("load(" + n + ", 0, 0)", Heaps::withPageOut, Heaps.INDEX, heap -> heap.load(n, 0, 0));
            Heaps.refused("load(1, " + n + ", 0)", Heaps::withPageOut, Heaps.INDEX, heap -> heap.load(1, n, 0));
        }
        for (int n : Heaps.NO_FIELDS) {
            Heaps.refused("load(1, 0, " + n + ")", Heaps::withPageOut, Heaps.INDEX, heap -> heap.load(1, 0, n));
        }
        Due.by("of several exceptions the one that stands first in the throws clause is thrown");
        for (int n : Heaps.NO_REGISTERS) {
            Heaps.refused("load(" + n + ", 3, 0)", Heaps::withPageOut, Heaps.INDEX, heap -> heap.load(n, 3, 0));
        }
        for (int n : Heaps.NO_FIELDS) {
            Heaps.refused("load(1, 3, " + n + ")", Heaps::withPageOut, Heaps.INDEX, heap -> heap.load(1, 3, n));
        }
    }

    private static void loadWithNothing() {
        Due.by("load: IllegalArgumentException when register r holds nothing.");
        for (int r = 0; r < 4; r++) {
            int none = r;
            Heaps.refused("load, new", BookmarkHeap::new, Heaps.ARGUMENT, heap -> heap.load(none, none, 0));
        }
        Heaps.refused("load(0, 3, 0)", Heaps::withPageOut, Heaps.ARGUMENT, heap -> heap.load(0, 3, 0));
        Heaps.refused("load(3, 3, 1)", Heaps::withPageOut, Heaps.ARGUMENT, heap -> heap.load(3, 3, 1));
    }

    private static void loadNothing() {
        Due.by("register d holds what that field of it holds");
        BookmarkHeap heap = Heaps.withPageOut();
        Due.is("load(1, 2, 0)", heap.load(1, 2, 0), 0);
        Due.is("register 1 holds nothing now", Heaps.registers(heap), "0 -1 7 -1");
        Due.is("load(2, 2, 0)", heap.load(2, 2, 0), 0);
        Due.is("register 2 holds nothing now", Heaps.registers(heap), "0 -1 -1 -1");
    }

    private static void loadIntoItsOwnRegister() {
        Due.by("register d holds what that field of it holds");
        BookmarkHeap heap = new BookmarkHeap();
        Heaps.chain(heap, 2);
        Due.is("load(0, 0, 0)", heap.load(0, 0, 0), 0);
        Due.is("the object that it held held it", heap.copy(0, 0), 0);
        Due.is("load(0, 0, 0)", heap.load(0, 0, 0), 0);
        Due.is("the end", heap.copy(0, 0), -1);
        Due.throwing("load(0, 0, 0)", Heaps.ARGUMENT, () -> heap.load(0, 0, 0));
    }

    private static void loadOnPageOut() {
        Due.by("Touches the page of the object that register r holds [..] Answers FAULTS.");
        BookmarkHeap heap = Heaps.withPageOut();
        heap.store(1, 0, 0);
        Due.is("load from a page in what is on a page out", heap.load(3, 1, 0), 0);
        Due.is("page 0 is not touched", Heaps.pages(heap), "31200000");
        Due.is("register 3 holds it", heap.copy(3, 3), 0);
        Due.is("load from a page out", heap.load(1, 3, 0), 1);
        Due.is("page 0 is touched", Heaps.state(heap), "23200000 00000000 15 255 1 0 0 0 0 0 2 1 9");
    }

    private static void valueWithoutRegister() {
        Due.by("A register number or field number out of its range is an IndexOutOfBoundsException.");
        for (int n : Heaps.NO_REGISTERS) {
            Heaps.refused("value(" + n + "), new", BookmarkHeap::new, Heaps.INDEX, heap -> heap.value(n));
            Heaps.refused("value(" + n + ")", Heaps::withPageOut, Heaps.INDEX, heap -> heap.value(n));
        }
    }

    private static void valueWithNothing() {
        Due.by("value: IllegalArgumentException when register r holds nothing.");
        for (int r = 0; r < 4; r++) {
            int none = r;
            Heaps.refused("value(" + r + "), new", BookmarkHeap::new, Heaps.ARGUMENT, heap -> heap.value(none));
        }
        Heaps.refused("value(3)", Heaps::withPageOut, Heaps.ARGUMENT, heap -> heap.value(3));
    }

    private static void valueOnPageOut() {
        Due.by("Touches the page of the object that register r holds and answers its value.");
        BookmarkHeap heap = Heaps.withPageOut();
        Due.is("value", heap.value(0), 50);
        Due.is("page 0 is touched", Heaps.state(heap), "23200000 00000000 15 255 1 0 0 0 0 0 2 1 9");
        Due.is("value again", heap.value(0), 50);
        Due.is("value of the one that went for it", heap.value(2), 6);
        Due.is("page 1 is touched", heap.faults(), 2);
    }

    private static void copyWithoutRegister() {
        Due.by("A register number or field number out of its range is an IndexOutOfBoundsException.");
        for (int n : Heaps.NO_REGISTERS) {
            Heaps.refused("copy(" + n + ", 0)", Heaps::withPageOut, Heaps.INDEX, heap -> heap.copy(n, 0));
            Heaps.refused("copy(0, " + n + ")", Heaps::withPageOut, Heaps.INDEX, heap -> heap.copy(0, n));
            Heaps.refused("copy(" + n + ", " + n + ")", Heaps::withPageOut, Heaps.INDEX, heap -> heap.copy(n, n));
        }
    }

    private static void copyNothing() {
        Due.by("Answers the place of that object, -1 for nothing.");
        BookmarkHeap heap = Heaps.withPageOut();
        Due.is("of place 0, on a page out", heap.copy(3, 0), 0);
        Due.is("registers", Heaps.registers(heap), "0 8 7 0");
        heap.drop(0);
        Due.is("of nothing", heap.copy(3, 0), -1);
        Due.is("registers", Heaps.registers(heap), "-1 8 7 -1");
        Due.is("of nothing to nothing", heap.copy(0, 3), -1);
        Due.is("no page is touched", Heaps.state(heap), "31200000 00000000 255 15 1 0 0 0 0 0 1 0 9");
    }

    private static void copyToItself() {
        Due.by("Register d holds what register r holds.");
        BookmarkHeap heap = Heaps.withPageOut();
        Due.is("copy(0, 0)", heap.copy(0, 0), 0);
        Due.is("copy(3, 3)", heap.copy(3, 3), -1);
        Due.is("registers", Heaps.registers(heap), "0 8 7 -1");
    }

    private static void dropWithoutRegister() {
        Due.by("A register number or field number out of its range is an IndexOutOfBoundsException.");
        for (int n : Heaps.NO_REGISTERS) {
            Heaps.refused("drop(" + n + ")", Heaps::withPageOut, Heaps.INDEX, heap -> heap.drop(n));
        }
    }

    private static void dropNothing() {
        Due.by("Register r holds nothing. Answers whether it held an object.");
        BookmarkHeap heap = Heaps.withPageOut();
        Due.is("drop of nothing", heap.drop(3), false);
        Due.is("drop of place 0, on a page out", heap.drop(0), true);
        Due.is("drop again", heap.drop(0), false);
        Due.is("registers", Heaps.registers(heap), "-1 8 7 -1");
        Due.is("no page is touched, none is gone", Heaps.state(heap), "31200000 00000000 255 15 1 0 0 0 0 0 1 0 9");
    }

    private static void dropOneOfTwo() {
        Due.by("Register r holds nothing.");
        BookmarkHeap heap = new BookmarkHeap();
        heap.make(0, 0);
        heap.copy(3, 0);
        Due.is("drop", heap.drop(0), true);
        Due.is("the other holds it", heap.collect(), 0);
        Due.is("registers", Heaps.registers(heap), "-1 -1 -1 0");
        Due.is("drop of the other", heap.drop(3), true);
        Due.is("none holds it", heap.collect(), 1);
    }

    private static void budgetTooSmallOrLarge() {
        Due.by("IllegalArgumentException when n is not 2 .. 8.");
        for (int n : Heaps.NO_BUDGETS) {
            Heaps.refused("budget(" + n + "), new", BookmarkHeap::new, Heaps.ARGUMENT, heap -> heap.budget(n));
            Heaps.refused("budget(" + n + ")", Heaps::withPageOut, Heaps.ARGUMENT, heap -> heap.budget(n));
            Heaps.refused("budget(" + n + "), full", () -> Heaps.full(8), Heaps.ARGUMENT, heap -> heap.budget(n));
        }
    }

    private static void budgetLeastAndMost() {
        Due.by("The budget is n from now on; while more pages are in, one is chosen and put out. Answers how many"
            + " were.");
        BookmarkHeap heap = Heaps.full(8);
        Due.is("budget(2) with eight in", heap.budget(2), 6);
        Due.is("two are left", Heaps.state(heap), "33333311 11111000 255 255 255 255 255 255 15 15 6 0 32");
        Due.is("budget(8)", heap.budget(8), 0);
        Due.is("none is brought in", Heaps.state(heap), "33333311 11111000 255 255 255 255 255 255 15 15 6 0 32");
        for (int n = 2; n <= 8; n++) {
            Due.is("budget(" + n + ") with eight in", Heaps.full(8).budget(n), 8 - n);
            Due.is("budget(" + n + ") with none in", new BookmarkHeap().budget(n), 0);
        }
    }

    private static void budgetAsItWas() {
        Due.by("while more pages are in, one is chosen and put out");
        BookmarkHeap heap = new BookmarkHeap();
        Heaps.fill(heap, 0, 16);
        Due.is("as many as are in", heap.budget(4), 0);
        Due.is("none is put out, the hand does not move", Heaps.state(heap),
            "22220000 00000000 15 15 15 15 0 0 0 0 0 0 16");
        Due.is("one fewer", heap.budget(3), 1);
        Due.is("one is put out", Heaps.state(heap), "31110000 00000000 255 15 15 15 0 0 0 0 1 0 16");
    }

    private static void collectAnswers() {
        Due.by("A collection within. Answers how many objects are gone.");
        Due.is("none of none", new BookmarkHeap().collect(), 0);
        Due.is("none of 32", Heaps.full(8).collect(), 0);
        BookmarkHeap heap = Heaps.full(8);
        heap.drop(0);
        Due.is("one of 32", heap.collect(), 1);
        heap.drop(1);
        Due.is("all 31", heap.collect(), 31);
        Due.is("no fault", heap.faults(), 0);
    }

    private static void thoroughAnswers() {
        Due.by("A thorough collection. Answers how many objects are gone.");
        Due.is("none of none", new BookmarkHeap().thorough(), 0);
        Due.is("none of 32", Heaps.full(2).thorough(), 0);
        BookmarkHeap heap = Heaps.full(2);
        heap.drop(0);
        Due.is("one of 32", heap.thorough(), 1);
        heap.drop(1);
        Due.is("all 31", heap.thorough(), 31);
    }

    private static void faultsAtTheEdges() {
        Due.by("FAULTS.");
        BookmarkHeap heap = new BookmarkHeap();
        Due.is("none at first", heap.faults(), 0);
        BookmarkHeap full = Heaps.full(2);
        Due.is("none for pages put out", full.faults(), 0);
        for (int i = 1; i <= 20; i++) {
            full.thorough();
            Due.is("six each time", full.faults(), 6 * i);
        }
    }

    private static void objectsAtTheEdges() {
        Due.by("How many objects there are.");
        Due.is("none", new BookmarkHeap().objects(), 0);
        Due.is("32, on pages in", Heaps.full(8).objects(), 32);
        Due.is("32, on pages in and out", Heaps.full(2).objects(), 32);
        BookmarkHeap heap = new BookmarkHeap();
        heap.make(0, 0);
        Due.is("one", heap.objects(), 1);
        heap.drop(0);
        Due.is("one, held by none", heap.objects(), 1);
        heap.collect();
        Due.is("none again", heap.objects(), 0);
    }

    private static void pageAtTheEdges() {
        Due.by("0 when page p is empty, 1 in with its used bit clear, 2 in with it set, 3 out; -1 when there is no such"
            + " page.");
        BookmarkHeap heap = Heaps.full(8);
        heap.budget(2);
        heap.value(0);
        Due.is("page 0", heap.page(0), 3);
        Due.is("page 6", heap.page(6), 1);
        Due.is("page 7", heap.page(7), 2);
        Due.is("page 7 of a new one", new BookmarkHeap().page(7), 0);
        for (int p : Heaps.NO_PAGES) {
            Due.is("page(" + p + ")", heap.page(p), -1);
            Due.is("page(" + p + "), new", new BookmarkHeap().page(p), -1);
        }
    }

    private static void countAtTheEdges() {
        Due.by("The count of page p; -1 when there is no such page.");
        BookmarkHeap heap = Heaps.withBudget(8);
        heap.make(0, 0);
        Heaps.fill(heap, 3, 3);
        for (int p = 1; p < 8; p++) {
            heap.make(1, 0);
            heap.store(1, p % 2, 0);
            Heaps.fill(heap, 3, 3);
        }
        for (int n = 7; n >= 2; n--) {
            heap.budget(n);
            heap.value(0);
            Due.is("page 0 with " + (8 - n) + " out that refer to it", heap.count(0), 8 - n);
        }
        Due.is("six, and no more can be out", Heaps.state(heap),
            "23333331 60000000 255 255 255 255 255 255 255 15 7 1 32");
        Due.is("page 7 of a new one", new BookmarkHeap().count(7), 0);
        for (int p : Heaps.NO_PAGES) {
            Due.is("count(" + p + ")", heap.count(p), -1);
            Due.is("count(" + p + "), new", new BookmarkHeap().count(p), -1);
        }
    }

    private static void placesAtTheEdges() {
        Due.by("The sum of 2^k over the places 4 * p + k, k = 0 .. 3, that have an object, plus 16 times that over"
            + " those whose object is bookmarked; -1 when there is no such page.");
        for (int k = 0; k < 4; k++) {
            BookmarkHeap heap = Heaps.withBudget(8);
            for (int place = 0; place < 32; place++) {
                heap.make(place == 28 + k ? 0 : place == k ? 1 : place == 12 ? 2 : 3, 0);
            }
            heap.drop(3);
            heap.collect();
            Due.is("k alone, on page 0", heap.places(0), 1 << k);
            Due.is("k alone, on page 7", heap.places(7), 1 << k);
            Due.is("none", heap.places(1), 0);
            heap.budget(2);
            Due.is("k alone, bookmarked", heap.places(0), 17 << k);
        }
        Due.is("all four, bookmarked", Heaps.full(2).places(0), 255);
        Due.is("all four", Heaps.full(2).places(7), 15);
        for (int p : Heaps.NO_PAGES) {
            Due.is("places(" + p + ")", Heaps.full(2).places(p), -1);
            Due.is("places(" + p + "), new", new BookmarkHeap().places(p), -1);
        }
    }

    private static void handAtTheEdges() {
        Due.by("The page that the hand points to.");
        BookmarkHeap heap = Heaps.full(8);
        Due.is("at first", heap.hand(), 0);
        for (int n = 7; n >= 2; n--) {
            heap.budget(n);
            Due.is("behind the page put out", heap.hand(), 8 - n);
        }
        // Register 0 walks down the chain: each page that it comes to was put out before.
        for (int i = 0; i < 8; i++) {
            heap.load(0, 0, 0);
        }
        Due.is("place 23, on page 5", heap.copy(0, 0), 23);
        heap.value(0);
        // Pages 6 and 7 are used: the hand goes round and comes back to 6.
        Due.is("behind page 6", heap.hand(), 7);
        for (int i = 0; i < 4; i++) {
            heap.load(0, 0, 0);
        }
        heap.value(0);
        Due.is("behind page 7", heap.hand(), 0);
    }

    private static void calls512() {
        Due.by("An object is used for at most 512 calls after it has been made");
        BookmarkHeap heap = Heaps.withBudget(8);
        Heaps.fill(heap, 0, 32);
        int held = 31;
        int[] due = new int[31];
        for (int i = 0; i < 512 - 33; i++) {
            if (i % 31 == 0) {
                orderAround(held, due);
            }
            held = due[i % 31];
            Due.is("make " + i, heap.make(0, i), held);
        }
    }

    /** The places in the order in which they are taken after a collection that has left one object alone. */
    private static void orderAround(int held, int[] order) {
        int n = 0;
        for (int place = 0; place < 32; place++) {
            if (place / 4 == held / 4 && place != held) {
                order[n++] = place;
            }
        }
        for (int place = 0; place < 32; place++) {
            if (place / 4 != held / 4) {
                order[n++] = place;
            }
        }
    }
}
