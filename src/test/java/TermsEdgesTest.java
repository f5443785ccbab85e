/**
 * The boundary cases of the sentences under 'Terms', a test for each sentence or part of one: the words that it is
 * about stand at its head. The answers were worked out by hand from the document.
 */
public final class TermsEdgesTest {
    private TermsEdgesTest() {
    }

    public static void main(String[] args) {
        places();
        fields();
        registers();
        objectsDoNotMove();
        pageStates();
        budgets();
        refersToAnotherPage();
        refersByAnyField();
        refersFromAnyPageToAny();
        refersOnce();
        refersToSeveral();
        touch();
        putOutWithGaps();
        putOutMarksWhatIsHeld();
        putOutCountsPagesOut();
        bringInWithRoom();
        bringInWithoutRoom();
        bringInMakesRoomFirst();
        bringInLowersCounts();
        bringInLowersCountsOfPagesOut();
        bringInWithCount();
        choosePassesEmptyPages();
        chooseWrapsAround();
        chooseClearsAllUsed();
        chooseSpares();
        collectionOfNothing();
        collectionLeavesPagesOut();
        collectionKeepsWhatIsBookmarked();
        collectionKeepsFirstPlace();
        collectionKeepsLastPlace();
        collectionEmptiesPages();
        collectionOfCycles();
        thoroughWithNoneOut();
        thoroughOverBudget();
        thoroughLeavesNoBookmark();
        thoroughLeavesUsedBitsClear();
        thoroughUpToBudget();
        thoroughBeyondBudget();
        thoroughCollectsCyclesOverPages();
        Due.end();
    }

    private static void places() {
        Due.by("OBJECTS lie on PLACES 0 .. 31; place p is on page p / 4 (pages 0 .. 7).");
        BookmarkHeap heap = Heaps.withBudget(8);
        for (int place = 0; place < 32; place++) {
            Due.is("make", heap.make(0, 0), place);
            Due.is("its page has it", heap.places(place / 4), (2 << place % 4) - 1);
            Due.is("its page is in", heap.page(place / 4), 2);
            Due.is("the next page is empty, none stands behind 7", heap.page(place / 4 + 1), place < 28 ? 0 : -1);
        }
        Due.is("no place 32", heap.make(0, 0), 28);
    }

    private static void fields() {
        Due.by("An object has a VALUE (an int) and two FIELDS 0 and 1, each of which holds an object or nothing.");
        BookmarkHeap heap = new BookmarkHeap();
        heap.make(0, Integer.MIN_VALUE);
        heap.make(1, Integer.MAX_VALUE);
        Due.is("least value", heap.value(0), Integer.MIN_VALUE);
        Due.is("greatest value", heap.value(1), Integer.MAX_VALUE);
        heap.store(0, 0, 0);
        heap.store(0, 1, 1);
        heap.store(1, 1, 0);
        Due.is("field 0 of place 0, the object itself", Heaps.held(heap, 3, 0, 0), 0);
        Due.is("field 1 of place 0", Heaps.held(heap, 3, 0, 1), 1);
        Due.is("field 0 of place 1, nothing", Heaps.held(heap, 3, 1, 0), -1);
        Due.is("field 1 of place 1", Heaps.held(heap, 3, 1, 1), 0);
        heap.drop(3);
        heap.store(0, 0, 3);
        Due.is("field 0 of place 0, nothing again", Heaps.held(heap, 3, 0, 0), -1);
        Due.is("field 1 of place 0 still", Heaps.held(heap, 3, 0, 1), 1);
    }

    private static void registers() {
        Due.by("Four REGISTERS 0 .. 3 hold an object or nothing each.");
        BookmarkHeap heap = new BookmarkHeap();
        Due.is("nothing", Heaps.registers(heap), "-1 -1 -1 -1");
        for (int r = 3; r >= 0; r--) {
            heap.make(r, 0);
        }
        Due.is("an object each", Heaps.registers(heap), "3 2 1 0");
        Due.is("all four are held", heap.collect(), 0);
        heap.drop(0);
        heap.drop(3);
        Due.is("the first and the last nothing", Heaps.registers(heap), "-1 2 1 -1");
        Due.is("two are gone", heap.collect(), 2);
        Due.is("two are left", heap.places(0), 6);
    }

    private static void objectsDoNotMove() {
        Due.by("Objects do not move.");
        BookmarkHeap heap = Heaps.withBudget(2);
        Heaps.fill(heap, 3, 3);
        heap.make(0, 53);
        Heaps.fill(heap, 3, 27);
        heap.make(1, 81);
        heap.drop(3);
        Due.is("collect", heap.collect(), 7);
        Due.is("thorough", heap.thorough(), 23);
        Due.is("the last of page 0 and of page 7", Heaps.state(heap), "10000002 00000000 8 0 0 0 0 0 0 8 6 6 2");
        Due.is("registers", Heaps.registers(heap), "3 31 -1 -1");
        Due.is("value", heap.value(0), 53);
        Due.is("value", heap.value(1), 81);
    }

    private static void pageStates() {
        Due.by("A PAGE is EMPTY (without objects), IN or OUT.");
        BookmarkHeap heap = Heaps.withPageOut();
        Due.is("three states", Heaps.pages(heap), "31200000");
        heap.drop(0);
        heap.drop(1);
        heap.drop(2);
        Due.is("collect", heap.collect(), 5);
        Due.is("out with garbage alone is out, in without objects empty", Heaps.pages(heap), "30000000");
        BookmarkHeap other = Heaps.withPageOut();
        Due.is("collect", other.collect(), 3);
        Due.is("in with one object is in", Heaps.state(other), "31200000 00000000 255 8 1 0 0 0 0 0 1 0 6");
    }

    private static void budgets() {
        Due.by("At most BUDGET pages are in (2 .. 8; 4 at first).");
        full(new BookmarkHeap(), 4);
        for (int n = 2; n <= 8; n++) {
            full(Heaps.withBudget(n), n);
        }
    }

    private static void full(BookmarkHeap heap, int budget) {
        Heaps.fill(heap, 0, 4 * budget);
        Due.is("as many in as the budget " + budget + " says", Heaps.pages(heap),
            "2".repeat(budget) + "0".repeat(8 - budget));
        Due.is("the hand is at 0", heap.hand(), 0);
        if (budget < 8) {
            Due.is("make", heap.make(0, 0), 4 * budget);
            Due.is("no more than the budget " + budget + " says", Heaps.pages(heap),
                "3" + "1".repeat(budget - 1) + "2" + "0".repeat(7 - budget));
            Due.is("the hand has moved", heap.hand(), 1);
        }
    }

    private static void refersToAnotherPage() {
        Due.by("Page v REFERS TO another page w when a field of an object on v holds an object on w.");
        BookmarkHeap heap = Heaps.withBudget(2);
        Heaps.chain(heap, 4);
        heap.store(0, 1, 0);
        Heaps.fill(heap, 2, 5);
        Due.is("fields that hold objects of their own page do not count", Heaps.state(heap),
            "31200000 00000000 255 15 1 0 0 0 0 0 1 0 9");
    }

    private static void refersByAnyField() {
        Due.by("Page v REFERS TO another page w when a field of an object on v holds an object on w.");
        for (int k = 0; k < 8; k++) {
            BookmarkHeap heap = Heaps.withBudget(2);
            for (int place = 0; place < 4; place++) {
                heap.make(place == k / 2 ? 0 : 3, 0);
            }
            heap.make(1, 0);
            heap.store(0, k % 2, 1);
            Heaps.fill(heap, 3, 4);
            Due.is("place " + k / 2 + ", field " + k % 2, Heaps.state(heap),
                "31200000 01000000 255 31 1 0 0 0 0 0 1 0 9");
        }
    }

    private static void refersFromAnyPageToAny() {
        Due.by("Page v REFERS TO another page w when a field of an object on v holds an object on w.");
        for (int v = 0; v < 8; v++) {
            for (int w = 0; w < 8; w++) {
                if (v != w) {
                    refersFromTo(v, w);
                }
            }
        }
    }

    private static void refersFromTo(int v, int w) {
        BookmarkHeap heap = Heaps.withBudget(8);
        int third = v != 0 && w != 0 ? 0 : v != 1 && w != 1 ? 1 : 2;
        for (int place = 0; place < 32; place++) {
            int p = place / 4;
            heap.make(p == v ? 0 : p == w ? 1 : p == third ? 2 : 3, 0);
        }
        heap.store(0, 0, 1);
        Due.is("budget(2)", heap.budget(2), 6);
        // Pages 0 to 5 are out now; 6 goes for the third page, and 7 for page w.
        if (v >= 6) {
            heap.value(2);
        }
        if (v == 7) {
            heap.value(1);
        }
        Due.is("page " + v + " is out", heap.page(v), 3);
        Due.is("page " + v + " to page " + w, Heaps.counts(heap), "0".repeat(w) + "1" + "0".repeat(7 - w));
        heap.budget(8);
        heap.value(0);
        Due.is("page " + v + " in again", Heaps.counts(heap), "00000000");
    }

    /** All eight fields of the objects on page 0 hold place 4 on page 1; register 2 holds place 2. */
    private static BookmarkHeap withEightFields() {
        BookmarkHeap heap = Heaps.withBudget(2);
        for (int r = 0; r < 4; r++) {
            heap.make(r, 0);
        }
        heap.store(2, 0, 3);
        heap.make(3, 0);
        for (int field = 0; field < 2; field++) {
            heap.store(0, field, 3);
            heap.store(1, field, 3);
        }
        heap.load(0, 2, 0);
        for (int field = 0; field < 2; field++) {
            heap.store(0, field, 3);
            heap.store(2, field, 3);
        }
        return heap;
    }

    private static void refersOnce() {
        Due.by("the count of every page that v refers to grows by 1");
        BookmarkHeap heap = withEightFields();
        Heaps.fill(heap, 1, 4);
        Due.is("eight fields count once", Heaps.state(heap), "31200000 01000000 255 31 1 0 0 0 0 0 1 0 9");
        Due.by("the count of every page that v refers to falls by 1");
        heap.budget(8);
        heap.value(2);
        Due.is("and fall once", Heaps.state(heap), "21200000 00000000 15 15 1 0 0 0 0 0 1 1 9");
    }

    private static void refersToSeveral() {
        Due.by("the count of every page that v refers to grows by 1");
        BookmarkHeap heap = Heaps.withBudget(3);
        heap.make(0, 0);
        Heaps.fill(heap, 3, 3);
        heap.make(1, 0);
        Heaps.fill(heap, 3, 3);
        heap.make(2, 0);
        heap.store(0, 0, 1);
        heap.store(0, 1, 2);
        Due.is("budget(2)", heap.budget(2), 1);
        Due.is("two pages, one by each field", Heaps.state(heap), "31100000 01100000 255 31 17 0 0 0 0 0 1 0 9");
        Due.by("the count of every page that v refers to falls by 1");
        heap.budget(8);
        heap.value(0);
        Due.is("both fall", Heaps.state(heap), "21100000 00000000 15 15 1 0 0 0 0 0 1 1 9");
    }

    private static void touch() {
        Due.by("TO TOUCH a page that is not empty: when it is out, FAULTS grows by 1 and it is brought in; then its"
            + " used bit is set.");
        BookmarkHeap heap = Heaps.withPageOut();
        heap.value(1);
        Due.is("in and used", Heaps.state(heap), "31200000 00000000 255 15 1 0 0 0 0 0 1 0 9");
        heap.value(2);
        Due.is("in and not used", Heaps.state(heap), "32200000 00000000 255 15 1 0 0 0 0 0 1 0 9");
        heap.budget(3);
        heap.value(0);
        Due.is("out", Heaps.state(heap), "22200000 00000000 15 15 1 0 0 0 0 0 1 1 9");
        heap.value(0);
        Due.is("in again", Heaps.state(heap), "22200000 00000000 15 15 1 0 0 0 0 0 1 1 9");
    }

    private static void putOutWithGaps() {
        Due.by("all objects on v [..] become bookmarked");
        BookmarkHeap heap = Heaps.withBudget(8);
        for (int r : new int[] {3, 0, 3, 1, 2, 3, 3, 3, 3}) {
            heap.make(r, 0);
        }
        Due.is("collect", heap.collect(), 5);
        Due.is("budget(2)", heap.budget(2), 1);
        Due.is("places without an object are not", Heaps.state(heap), "31100000 00000000 170 1 1 0 0 0 0 0 1 0 4");
    }

    private static void putOutMarksWhatIsHeld() {
        Due.by("all objects on other pages that a field of an object on v holds, become bookmarked");
        BookmarkHeap heap = Heaps.withBookmark();
        Due.is("place 4, but not place 5 that it holds", heap.places(1), 31);
        Due.is("nor what is on another page", heap.places(2), 1);
    }

    /** Pages 0, 1 and 2 are out; places 4 and 8 (registers 1 and 2) hold place 0 (register 0). Three pages are in. */
    private static BookmarkHeap withCountTwo() {
        BookmarkHeap heap = Heaps.withBudget(3);
        heap.make(0, 0);
        Heaps.fill(heap, 3, 3);
        for (int r = 1; r <= 2; r++) {
            heap.make(r, 0);
            heap.store(r, r - 1, 0);
            Heaps.fill(heap, 3, 3);
        }
        Heaps.fill(heap, 3, 9);
        Due.is("pages 0 to 2 out", Heaps.state(heap), "33322200 20000000 255 255 255 15 15 1 0 0 3 0 21");
        return heap;
    }

    private static void putOutCountsPagesOut() {
        Due.by("the count of every page that v refers to grows by 1");
        withCountTwo();
    }

    private static void bringInWithRoom() {
        Due.by("first, when as many pages are in as the budget says, one is chosen and put out.");
        BookmarkHeap heap = Heaps.withPageOut();
        heap.budget(3);
        heap.value(0);
        Due.is("one fewer is in: none is put out", Heaps.state(heap), "21200000 00000000 15 15 1 0 0 0 0 0 1 1 9");
    }

    private static void bringInWithoutRoom() {
        Due.by("first, when as many pages are in as the budget says, one is chosen and put out.");
        BookmarkHeap heap = Heaps.withPageOut();
        heap.value(0);
        Due.is("as many are in", Heaps.state(heap), "23200000 00000000 15 255 1 0 0 0 0 0 2 1 9");
    }

    private static void bringInMakesRoomFirst() {
        Due.by("first, when as many pages are in as the budget says, one is chosen and put out. Then v is in");
        BookmarkHeap heap = Heaps.withPageOut();
        heap.store(2, 0, 0);
        heap.value(0);
        Due.is("page 1, put out for page 0, refers to it", Heaps.state(heap),
            "23100000 10000000 255 255 1 0 0 0 0 0 2 1 9");
        heap.value(2);
        Due.is("page 1 is in again", Heaps.state(heap), "22300000 00000000 15 15 17 0 0 0 0 0 3 2 9");
    }

    private static void bringInLowersCounts() {
        Due.by("a page in for which it falls to 0 thereby has none of its objects bookmarked any more");
        BookmarkHeap heap = withCountTwo();
        heap.value(0);
        Due.is("page 0 in", Heaps.state(heap), "23331100 20000000 255 255 255 255 15 1 0 0 4 1 21");
        heap.value(1);
        Due.is("its count falls to 1", Heaps.state(heap), "22333100 10000000 255 15 255 255 255 1 0 0 5 2 21");
        heap.value(2);
        Due.is("its count falls to 0", Heaps.state(heap), "22233300 00000000 15 15 15 255 255 17 0 0 6 3 21");
    }

    private static void bringInLowersCountsOfPagesOut() {
        Due.by("a page in for which it falls to 0 thereby has none of its objects bookmarked any more");
        BookmarkHeap heap = withCountTwo();
        heap.value(1);
        Due.is("page 0 is out, at 1", Heaps.state(heap), "32331100 10000000 255 15 255 255 15 1 0 0 4 1 21");
        heap.value(2);
        Due.is("page 0 is out, at 0", Heaps.state(heap), "32233100 00000000 255 15 15 255 255 1 0 0 5 2 21");
        Due.by("and so has v, when its own count is 0");
        heap.value(0);
        Due.is("page 0 is in, at 0", Heaps.state(heap), "22233300 00000000 15 15 15 255 255 17 0 0 6 3 21");
    }

    private static void bringInWithCount() {
        Due.by("and so has v, when its own count is 0");
        BookmarkHeap heap = withCountTwo();
        heap.budget(8);
        heap.value(0);
        Due.is("at 2 all stay bookmarked", Heaps.state(heap), "23322200 20000000 255 255 255 15 15 1 0 0 3 1 21");
        heap.value(1);
        Due.is("page 1 has count 0", Heaps.state(heap), "22322200 10000000 255 15 255 15 15 1 0 0 3 2 21");
    }

    private static void choosePassesEmptyPages() {
        Due.by("the hand's page, as long as it is not in, is spared, or has its used bit set");
        BookmarkHeap heap = Heaps.withBudget(8);
        heap.make(0, 0);
        Heaps.fill(heap, 3, 7);
        heap.make(1, 0);
        Heaps.fill(heap, 3, 3);
        heap.make(2, 0);
        heap.drop(3);
        Due.is("collect", heap.collect(), 10);
        Due.is("budget(2)", heap.budget(2), 1);
        Due.is("page 1 is empty", Heaps.state(heap), "30110000 00000000 17 0 1 1 0 0 0 0 1 0 3");
        heap.value(0);
        Due.is("over page 1, empty, to page 2", Heaps.state(heap), "20310000 00000000 1 0 17 1 0 0 0 0 3 1 3");
        heap.value(1);
        Due.is("page 3 at once", Heaps.state(heap), "20230000 00000000 1 0 1 17 0 0 0 0 4 2 3");
        heap.value(2);
        Due.is("over empty, used and out to page 0", Heaps.state(heap), "30120000 00000000 17 0 1 1 0 0 0 0 1 3 3");
    }

    private static void chooseWrapsAround() {
        Due.by("the hand goes to the next page (to 0 after 7). The page that it stops at is chosen, and the hand goes"
            + " to the next one.");
        BookmarkHeap heap = Heaps.withBudget(8);
        heap.make(0, 0);
        Heaps.fill(heap, 3, 3);
        heap.make(2, 0);
        Heaps.fill(heap, 3, 23);
        heap.make(1, 0);
        Heaps.fill(heap, 3, 3);
        Due.is("budget(2)", heap.budget(2), 6);
        Due.is("0 to 5 chosen", Heaps.state(heap), "33333311 00000000 255 255 255 255 255 255 15 15 6 0 32");
        heap.value(0);
        Due.is("6 chosen", Heaps.state(heap), "23333331 00000000 15 255 255 255 255 255 255 15 7 1 32");
        heap.value(2);
        Due.is("7 chosen: the hand is at 0", Heaps.state(heap),
            "22333333 00000000 15 15 255 255 255 255 255 255 0 2 32");
        heap.value(1);
        Due.is("over 7 to 0 and on", Heaps.state(heap), "31333332 00000000 255 15 255 255 255 255 255 15 1 3 32");
    }

    private static void chooseClearsAllUsed() {
        Due.by("a used bit of a page in that is not spared is cleared");
        BookmarkHeap heap = Heaps.withBudget(8);
        Heaps.fill(heap, 3, 32);
        Due.is("all are used", Heaps.pages(heap), "22222222");
        Due.is("budget(7)", heap.budget(7), 1);
        Due.is("one round clears them", Heaps.pages(heap), "31111111");
        Due.is("and stops where it began", heap.hand(), 1);
        heap.value(3);
        Due.is("budget(6)", heap.budget(6), 1);
        Due.is("the next is not used", Heaps.pages(heap), "33111112");
        Due.is("page 7 was not passed", heap.hand(), 2);
    }

    /** Pages 6 and 7 hold a chain of 8 and are in and used, the others hold garbage and are out; the hand is at 6. */
    private static BookmarkHeap withGarbageOut() {
        BookmarkHeap heap = Heaps.withBudget(2);
        Heaps.fill(heap, 2, 24);
        heap.drop(2);
        Heaps.chain(heap, 8);
        return heap;
    }

    private static void chooseSpares() {
        Due.by("the page of the new object is spared when pages are chosen at last");
        BookmarkHeap heap = withGarbageOut();
        Due.is("make", heap.make(2, 0), 0);
        Due.is("page 0 was passed, used still", Heaps.state(heap), "20000031 00000000 1 0 0 0 0 0 255 15 7 6 9");
    }

    private static void collectionOfNothing() {
        Due.by("All other objects on pages in are gone.");
        BookmarkHeap heap = new BookmarkHeap();
        Due.is("no object at all", heap.collect(), 0);
        Heaps.fill(heap, 0, 1);
        Due.is("one, held", heap.collect(), 0);
        heap.drop(0);
        Due.is("one, not held", heap.collect(), 1);
        Due.is("none again", heap.collect(), 0);
        Due.is("as new", Heaps.state(heap), "00000000 00000000 0 0 0 0 0 0 0 0 0 0 0");
    }

    private static void collectionLeavesPagesOut() {
        Due.by("(so objects on pages out are not looked at)");
        BookmarkHeap heap = Heaps.full(2);
        heap.drop(0);
        heap.drop(1);
        Due.is("collect", heap.collect(), 8);
        Due.is("pages 0 to 5 as they were", Heaps.state(heap),
            "33333300 11111000 255 255 255 255 255 255 0 0 6 0 24");
        Due.is("collect with none in", heap.collect(), 0);
    }

    private static void collectionKeepsWhatIsBookmarked() {
        Due.by("a register holds it, it is bookmarked, or a field of a kept object holds it");
        BookmarkHeap heap = Heaps.withBookmark();
        heap.make(0, 0);
        Due.is("collect", heap.collect(), 3);
        Due.is("place 4 by its bookmark, 5 by place 4, 9 by the register", Heaps.state(heap),
            "31200000 01000000 255 19 2 0 0 0 0 0 1 0 7");
    }

    private static void collectionKeepsFirstPlace() {
        Due.by("a register holds it, it is bookmarked, or a field of a kept object holds it");
        BookmarkHeap heap = Heaps.withBudget(8);
        heap.make(0, 0);
        Heaps.fill(heap, 3, 3);
        heap.make(1, 0);
        heap.store(1, 0, 0);
        Heaps.fill(heap, 3, 7);
        heap.budget(2);
        heap.value(0);
        Due.is("page 1, out, holds place 0", Heaps.state(heap), "23100000 10000000 255 255 15 0 0 0 0 0 2 1 12");
        heap.drop(0);
        heap.drop(1);
        heap.drop(3);
        Due.is("collect", heap.collect(), 4);
        Due.is("place 0 is left", Heaps.state(heap), "23000000 10000000 255 255 0 0 0 0 0 0 2 1 8");
    }

    private static void collectionKeepsLastPlace() {
        Due.by("a register holds it, it is bookmarked, or a field of a kept object holds it");
        BookmarkHeap heap = Heaps.withBudget(8);
        heap.make(0, 0);
        Heaps.fill(heap, 1, 31);
        heap.store(0, 1, 1);
        heap.budget(2);
        Due.is("page 0, out, holds place 31", Heaps.state(heap),
            "33333311 00000001 255 255 255 255 255 255 15 143 6 0 32");
        heap.drop(0);
        heap.drop(1);
        Due.is("collect", heap.collect(), 7);
        Due.is("place 31 is left", Heaps.state(heap), "33333301 00000001 255 255 255 255 255 255 0 136 6 0 25");
    }

    private static void collectionEmptiesPages() {
        Due.by("A page in without objects becomes empty then (its used bit clear).");
        BookmarkHeap heap = Heaps.withBudget(8);
        Heaps.fill(heap, 3, 27);
        heap.make(0, 0);
        Heaps.fill(heap, 3, 4);
        heap.drop(3);
        Due.is("collect", heap.collect(), 31);
        Due.is("all but page 6, which keeps its used bit", Heaps.state(heap),
            "00000020 00000000 0 0 0 0 0 0 8 0 0 0 1");
    }

    private static void collectionOfCycles() {
        Due.by("a field of a kept object holds it");
        BookmarkHeap heap = new BookmarkHeap();
        Heaps.chain(heap, 16);
        heap.copy(2, 0);
        for (int i = 0; i < 15; i++) {
            heap.load(2, 2, 0);
        }
        heap.store(2, 1, 0);
        heap.drop(1);
        heap.drop(2);
        Due.is("a ring of sixteen, one of which is held", heap.collect(), 0);
        heap.make(1, 0);
        heap.store(1, 0, 1);
        heap.drop(1);
        heap.budget(8);
        Due.is("one that holds itself alone", heap.collect(), 1);
        heap.drop(0);
        Due.is("the ring, not held, but for what page 0, out, holds", heap.collect(), 0);
        Due.is("thorough", heap.thorough(), 16);
    }

    private static void thoroughWithNoneOut() {
        Due.by("every page that is out is brought in, in the order of pages");
        BookmarkHeap heap = new BookmarkHeap();
        Due.is("no page at all", heap.thorough(), 0);
        Heaps.fill(heap, 0, 16);
        Due.is("none out", heap.thorough(), 15);
        Due.is("no fault", Heaps.state(heap), "00020000 00000000 0 0 0 8 0 0 0 0 0 0 1");
    }

    private static void thoroughOverBudget() {
        Due.by("without one being put out for it, FAULTS growing by 1 for each (the budget is not looked at)");
        BookmarkHeap heap = Heaps.full(2);
        heap.drop(0);
        heap.drop(1);
        Due.is("thorough", heap.thorough(), 32);
        Due.is("six faults, and the hand has not moved", Heaps.state(heap), "00000000 00000000 0 0 0 0 0 0 0 0 6 6 0");
    }

    private static void thoroughLeavesNoBookmark() {
        Due.by("no object is bookmarked then, all counts are 0");
        BookmarkHeap heap = Heaps.full(2);
        Due.is("before", Heaps.state(heap), "33333322 11111000 255 255 255 255 255 255 15 15 6 0 32");
        heap.budget(8);
        Due.is("thorough", heap.thorough(), 0);
        Due.is("after", Heaps.state(heap), "11111122 00000000 15 15 15 15 15 15 15 15 6 6 32");
    }

    private static void thoroughLeavesUsedBitsClear() {
        Due.by("v is out, its used bit is clear [..] Then v is in (used bit clear)");
        BookmarkHeap heap = Heaps.withPageOut();
        heap.value(0);
        heap.value(2);
        Due.is("page 2, used before, is out", Heaps.state(heap), "12300000 00000000 15 15 17 0 0 0 0 0 3 2 9");
        heap.budget(8);
        Due.is("thorough", heap.thorough(), 6);
        Due.is("it is in, not used", Heaps.state(heap), "12100000 00000000 1 8 1 0 0 0 0 0 3 3 3");
        Due.is("budget(2)", heap.budget(2), 1);
        Due.is("page 0 has gone", Heaps.state(heap), "32100000 00000000 17 8 1 0 0 0 0 0 1 3 3");
        heap.value(0);
        Due.is("page 2 goes, page 1 being used", Heaps.state(heap), "21300000 00000000 1 8 17 0 0 0 0 0 3 4 3");
    }

    private static void thoroughUpToBudget() {
        Due.by("At last, while more pages are in than the budget says, one is chosen and put out.");
        BookmarkHeap heap = Heaps.withBudget(2);
        heap.make(0, 0);
        Heaps.fill(heap, 3, 3);
        heap.make(1, 0);
        Heaps.fill(heap, 3, 11);
        heap.drop(3);
        Due.is("thorough", heap.thorough(), 14);
        Due.is("as many as it says: none is put out", Heaps.state(heap), "11000000 00000000 1 1 0 0 0 0 0 0 2 2 2");
    }

    private static void thoroughBeyondBudget() {
        Due.by("At last, while more pages are in than the budget says, one is chosen and put out.");
        BookmarkHeap heap = Heaps.withBudget(2);
        for (int r = 0; r < 3; r++) {
            heap.make(r, 0);
            Heaps.fill(heap, 3, 3);
        }
        Heaps.fill(heap, 3, 4);
        heap.drop(3);
        Due.is("thorough", heap.thorough(), 13);
        Due.is("one more: one is put out", Heaps.state(heap), "31100000 00000000 17 1 1 0 0 0 0 0 1 2 3");
        BookmarkHeap full = Heaps.full(2);
        full.thorough();
        Due.is("six more", Heaps.state(full), "33333311 11111000 255 255 255 255 255 255 15 15 6 6 32");
    }

    private static void thoroughCollectsCyclesOverPages() {
        Due.by("Then there is a collection within.");
        BookmarkHeap heap = Heaps.withBudget(2);
        heap.make(0, 0);
        Heaps.fill(heap, 2, 3);
        heap.make(1, 0);
        heap.store(0, 0, 1);
        heap.store(1, 0, 0);
        Heaps.fill(heap, 2, 7);
        heap.make(2, 0);
        Due.is("two pages out hold one another", Heaps.state(heap), "33220000 11000000 255 255 15 1 0 0 0 0 2 0 13");
        heap.drop(0);
        heap.drop(1);
        heap.drop(2);
        Due.is("collect", heap.collect(), 5);
        Due.is("they are left", Heaps.state(heap), "33000000 11000000 255 255 0 0 0 0 0 0 2 0 8");
        Due.is("thorough", heap.thorough(), 8);
        Due.is("they are gone", Heaps.state(heap), "00000000 00000000 0 0 0 0 0 0 0 0 2 2 0");
    }
}
