/**
 * Each promise by itself, with answers that were worked out by hand from the document. Its boundary cases are in
 * TermsEdgesTest and PromiseEdgesTest.
 */
public final class PromiseTest {
    private PromiseTest() {
    }

    public static void main(String[] args) {
        newObject();
        makeInOrder();
        makeOnPagesInOnly();
        makeOnLowestEmptyPage();
        makeAfterCollection();
        makeOnPageEmptiedByCollection();
        makeAfterThorough();
        makeOnPageInAfterThorough();
        makeNowhere();
        makeClean();
        store();
        load();
        value();
        copy();
        drop();
        budget();
        collect();
        collectCycle();
        thorough();
        thoroughWithinBudget();
        faults();
        objects();
        page();
        count();
        countOfPagesOut();
        places();
        hand();
        Due.end();
    }

    private static void newObject() {
        BookmarkHeap heap = new BookmarkHeap();
        Due.is("1: new", Heaps.state(heap), "00000000 00000000 0 0 0 0 0 0 0 0 0 0 0");
        for (int r = 0; r < 4; r++) {
            Due.is("1: copy of a new register", heap.copy(r, r), -1);
            Due.is("1: drop of a new register", heap.drop(r), false);
        }
        Heaps.fill(heap, 0, 16);
        Due.is("1: four pages in at first", Heaps.pages(heap), "22220000");
        Due.is("1: make on a fifth page", heap.make(0, 0), 16);
        Due.is("1: one of them put out for a fifth", Heaps.pages(heap), "31112000");
        Due.is("1: hand after it", heap.hand(), 1);
        Due.is("1: another new", Heaps.state(new BookmarkHeap()), "00000000 00000000 0 0 0 0 0 0 0 0 0 0 0");
    }

    private static void makeInOrder() {
        BookmarkHeap heap = Heaps.withBudget(8);
        for (int i = 0; i < 32; i++) {
            Due.is("2: make in order", heap.make(i % 4, 100 + i), i);
            Due.is("2: register holds it", heap.copy(i % 4, i % 4), i);
            Due.is("2: its value", heap.value(i % 4), 100 + i);
        }
        Due.is("2: garbage waits", Heaps.state(heap), "22222222 00000000 15 15 15 15 15 15 15 15 0 0 32");
    }

    private static void makeOnPagesInOnly() {
        BookmarkHeap heap = Heaps.withBudget(8);
        for (int r = 0; r < 3; r++) {
            heap.make(r, r);
            Heaps.fill(heap, 3, 3);
        }
        heap.drop(3);
        Due.is("2: collect", heap.collect(), 9);
        Due.is("2: budget(2)", heap.budget(2), 1);
        Due.is("2: pages", Heaps.pages(heap), "31100000");
        Due.is("2: make passes over free places on a page out", heap.make(3, 5), 5);
        Due.is("2: make sets the used bit", Heaps.pages(heap), "32100000");
        Due.is("2: make again", heap.make(3, 5), 6);
        Due.is("2: no fault", heap.faults(), 0);
    }

    private static void makeOnLowestEmptyPage() {
        BookmarkHeap heap = Heaps.withBudget(8);
        Heaps.chain(heap, 4);
        Heaps.fill(heap, 2, 4);
        Heaps.chain(heap, 4);
        heap.drop(2);
        Due.is("2: collect", heap.collect(), 4);
        Due.is("2: page 1 is empty", Heaps.pages(heap), "20200000");
        Due.is("2: make on the lowest empty page", heap.make(3, 9), 4);
        Due.is("2: pages", Heaps.pages(heap), "22200000");
        Due.is("2: objects", heap.objects(), 9);
    }

    private static void makeAfterCollection() {
        BookmarkHeap heap = Heaps.withBudget(8);
        Heaps.fill(heap, 0, 32);
        Due.is("2: make when all places are taken", heap.make(0, 99), 28);
        Due.is("2: what the register held was held", Heaps.state(heap), "00000002 00000000 0 0 0 0 0 0 0 9 0 0 2");
        Due.is("2: value", heap.value(0), 99);
    }

    private static void makeOnPageEmptiedByCollection() {
        BookmarkHeap heap = Heaps.withBudget(8);
        Heaps.fill(heap, 2, 28);
        heap.drop(2);
        Heaps.chain(heap, 4);
        Due.is("2: make on an emptied page", heap.make(3, 5), 0);
        Due.is("2: state", Heaps.state(heap), "20000002 00000000 1 0 0 0 0 0 0 15 0 0 5");
    }

    private static void makeAfterThorough() {
        BookmarkHeap heap = Heaps.withBudget(2);
        Heaps.fill(heap, 2, 24);
        heap.drop(2);
        Heaps.chain(heap, 8);
        Due.is("2: before", Heaps.state(heap), "33333322 00000000 255 255 255 255 255 255 15 15 6 0 32");
        Due.is("2: make by a thorough collection", heap.make(3, 7), 0);
        Due.is("2: its page is spared", Heaps.state(heap), "20000031 00000000 1 0 0 0 0 0 255 15 7 6 9");
        Due.is("2: value", heap.value(3), 7);
        Due.is("2: no fault for it", heap.faults(), 6);
    }

    private static void makeOnPageInAfterThorough() {
        BookmarkHeap heap = Heaps.withBudget(2);
        heap.make(3, 0);
        Heaps.fill(heap, 2, 3);
        heap.drop(2);
        Heaps.chain(heap, 28);
        Due.is("2: before", Heaps.state(heap), "33333322 01111000 255 255 255 255 255 255 15 15 6 0 32");
        Due.is("2: make on a page brought in", heap.make(2, 77), 1);
        Due.is("2: it is spared while six go", Heaps.state(heap),
            "23333331 01111100 3 255 255 255 255 255 255 15 7 6 30");
        Due.is("2: value", heap.value(2), 77);
    }

    private static void makeNowhere() {
        BookmarkHeap heap = Heaps.withBudget(2);
        Heaps.chain(heap, 32);
        Due.is("2: before", Heaps.state(heap), "33333322 11111000 255 255 255 255 255 255 15 15 6 0 32");
        Due.throwing("2: make when all are held", Heaps.STATE, () -> heap.make(2, 0));
        Due.is("2: the collections have been made", Heaps.state(heap),
            "33333311 11111000 255 255 255 255 255 255 15 15 6 6 32");
        Due.is("2: register 2 holds nothing still", heap.copy(2, 2), -1);
        Due.throwing("2: make again", Heaps.STATE, () -> heap.make(0, 0));
        Due.is("2: register 0 holds what it held", heap.copy(0, 0), 31);
        // Pages 6, 7, 0, 1, 2 and 3 go this time; place 23 on page 5 is held by page 6.
        Due.is("2: none spared", Heaps.state(heap), "33331133 11100110 255 255 255 255 15 143 255 255 4 12 32");
    }

    private static void makeClean() {
        BookmarkHeap heap = new BookmarkHeap();
        heap.make(0, 1);
        heap.store(0, 0, 0);
        heap.make(1, 2);
        heap.store(0, 1, 1);
        heap.drop(0);
        Due.is("2: collect", heap.collect(), 1);
        Due.is("2: make on the place of what is gone", heap.make(2, 3), 0);
        for (int field = 0; field < 2; field++) {
            heap.copy(3, 2);
            Due.is("2: load from a new object", heap.load(3, 3, field), 0);
            Due.is("2: its fields hold nothing", heap.copy(3, 3), -1);
        }
    }

    private static void store() {
        BookmarkHeap heap = Heaps.withPageOut();
        Due.is("3: store to a page out", heap.store(0, 1, 1), 1);
        Due.is("3: it is brought in", Heaps.state(heap), "23200000 00000000 15 255 1 0 0 0 0 0 2 1 9");
        Due.is("3: load", heap.load(3, 0, 1), 1);
        Due.is("3: the field holds it", heap.copy(3, 3), 8);
        heap.load(3, 0, 0);
        Due.is("3: the other field does not", heap.copy(3, 3), -1);
        Due.is("3: store nothing", heap.store(0, 1, 3), 1);
        heap.copy(3, 1);
        heap.load(3, 0, 1);
        Due.is("3: the field holds nothing", heap.copy(3, 3), -1);
        BookmarkHeap other = Heaps.withPageOut();
        Due.is("3: store to a page in, what is on a page out", other.store(2, 0, 0), 0);
        Due.is("3: the used bit is set", Heaps.state(other), "32200000 00000000 255 15 1 0 0 0 0 0 1 0 9");
    }

    private static void load() {
        BookmarkHeap heap = Heaps.withPageOut();
        Due.is("4: load of nothing from a page out", heap.load(3, 0, 0), 1);
        Due.is("4: it is brought in", Heaps.state(heap), "23200000 00000000 15 255 1 0 0 0 0 0 2 1 9");
        heap.store(0, 0, 2);
        heap.store(0, 1, 0);
        Due.is("4: load", heap.load(3, 0, 0), 1);
        Due.is("4: register 3 holds it", heap.copy(3, 3), 7);
        Due.is("4: load of what is on a page out does not touch that", heap.page(1), 3);
        Due.is("4: load into the same register", heap.load(0, 0, 1), 1);
        Due.is("4: register 0 holds itself", heap.copy(0, 0), 0);
        Due.is("4: load into the same register again", heap.load(0, 0, 0), 1);
        Due.is("4: register 0 holds place 7", heap.copy(0, 0), 7);
        Due.is("4: load through it", heap.load(0, 0, 0), 2);
        Due.is("4: register 0 holds nothing", heap.copy(0, 0), -1);
        BookmarkHeap other = Heaps.withPageOut();
        Due.is("4: load from a page in", other.load(3, 2, 0), 0);
        Due.is("4: the used bit is set", Heaps.pages(other), "32200000");
    }

    private static void value() {
        BookmarkHeap heap = Heaps.withPageOut();
        Due.is("5: value on a page in", heap.value(2), 6);
        Due.is("5: the used bit is set", Heaps.state(heap), "32200000 00000000 255 15 1 0 0 0 0 0 1 0 9");
        Due.is("5: value on a page out", heap.value(0), 50);
        // Both pages in were used: the hand clears both and comes round to page 1.
        Due.is("5: it is brought in", Heaps.state(heap), "23100000 00000000 15 255 1 0 0 0 0 0 2 1 9");
        for (int v : new int[] {Integer.MIN_VALUE, -1, 0, Integer.MAX_VALUE}) {
            heap.make(3, v);
            Due.is("5: value", heap.value(3), v);
        }
    }

    private static void copy() {
        BookmarkHeap heap = Heaps.withPageOut();
        String before = Heaps.state(heap);
        Due.is("6: copy", heap.copy(3, 1), 8);
        Due.is("6: copy of it", heap.copy(2, 3), 8);
        Due.is("6: copy of what is on a page out", heap.copy(3, 0), 0);
        Due.is("6: copy to itself", heap.copy(3, 3), 0);
        heap.drop(2);
        Due.is("6: copy of nothing", heap.copy(3, 2), -1);
        Due.is("6: register 3 holds nothing", heap.drop(3), false);
        Due.is("6: the source holds what it held", heap.copy(0, 0), 0);
        Due.is("6: no page is touched", Heaps.state(heap), before);
    }

    private static void drop() {
        BookmarkHeap heap = Heaps.withPageOut();
        String before = Heaps.state(heap);
        for (int r = 0; r < 3; r++) {
            Due.is("7: drop", heap.drop(r), true);
            Due.is("7: it holds nothing", heap.copy(r, r), -1);
            Due.is("7: drop again", heap.drop(r), false);
        }
        Due.is("7: drop of nothing", heap.drop(3), false);
        Due.is("7: no page is touched", Heaps.state(heap), before);
    }

    private static void budget() {
        BookmarkHeap heap = new BookmarkHeap();
        Due.is("8: budget(8)", heap.budget(8), 0);
        Heaps.chain(heap, 32);
        Due.is("8: eight pages in", Heaps.pages(heap), "22222222");
        Due.is("8: budget(8) again", heap.budget(8), 0);
        Due.is("8: nothing is put out", Heaps.state(heap), "22222222 00000000 15 15 15 15 15 15 15 15 0 0 32");
        Due.is("8: budget(3)", heap.budget(3), 5);
        Due.is("8: five are put out", Heaps.state(heap), "33333111 11110000 255 255 255 255 255 15 15 15 5 0 32");
        Due.is("8: budget(3) again", heap.budget(3), 0);
        Due.is("8: budget(2)", heap.budget(2), 1);
        Due.is("8: one more is put out", Heaps.state(heap), "33333311 11111000 255 255 255 255 255 255 15 15 6 0 32");
        Due.is("8: budget(4)", heap.budget(4), 0);
        Due.is("8: none comes in by it", Heaps.pages(heap), "33333311");
    }

    private static void collect() {
        Due.is("9: collect of nothing", new BookmarkHeap().collect(), 0);
        BookmarkHeap heap = Heaps.withBookmark();
        Due.is("9: collect", heap.collect(), 3);
        Due.is("9: bookmarked and what that holds is kept, pages out are not looked at", Heaps.state(heap),
            "31000000 01000000 255 19 0 0 0 0 0 0 1 0 6");
        Due.is("9: collect again", heap.collect(), 0);
    }

    private static void collectCycle() {
        BookmarkHeap heap = new BookmarkHeap();
        Heaps.chain(heap, 5);
        heap.make(2, 0);
        heap.make(3, 0);
        heap.store(2, 0, 3);
        heap.store(3, 1, 2);
        heap.drop(2);
        heap.drop(1);
        Due.is("9: a chain and a cycle that registers hold", heap.collect(), 0);
        heap.drop(3);
        Due.is("9: a cycle that none holds", heap.collect(), 2);
        Due.is("9: the chain is kept", Heaps.state(heap), "22000000 00000000 15 1 0 0 0 0 0 0 0 0 5");
        heap.load(1, 0, 0);
        heap.drop(0);
        Due.is("9: its head", heap.collect(), 1);
        Due.is("9: the head's page is empty", Heaps.pages(heap), "20000000");
        heap.load(1, 1, 0);
        heap.copy(2, 3);
        heap.store(1, 0, 2);
        Due.is("9: before and behind", heap.collect(), 3);
        Due.is("9: place 2 is left", heap.places(0), 4);
    }

    private static void thorough() {
        Due.is("10: thorough of nothing", new BookmarkHeap().thorough(), 0);
        BookmarkHeap heap = Heaps.withBookmark();
        Due.is("10: thorough", heap.thorough(), 9);
        Due.is("10: all are gone", Heaps.state(heap), "00000000 00000000 0 0 0 0 0 0 0 0 1 1 0");
        BookmarkHeap full = Heaps.withBudget(2);
        Heaps.chain(full, 32);
        Due.is("10: thorough when all are held", full.thorough(), 0);
        Due.is("10: pages put out at last", Heaps.state(full),
            "33333311 11111000 255 255 255 255 255 255 15 15 6 6 32");
        full.drop(0);
        full.drop(1);
        Due.is("10: collect does not see it", full.collect(), 8);
        Due.is("10: thorough does", full.thorough(), 24);
        Due.is("10: state", Heaps.state(full), "00000000 00000000 0 0 0 0 0 0 0 0 6 12 0");
    }

    private static void thoroughWithinBudget() {
        BookmarkHeap heap = Heaps.withBudget(2);
        Heaps.chain(heap, 32);
        heap.budget(8);
        Due.is("10: thorough", heap.thorough(), 0);
        Due.is("10: brought in with used bits clear, none bookmarked", Heaps.state(heap),
            "11111122 00000000 15 15 15 15 15 15 15 15 6 6 32");
        Due.is("10: thorough with none out", heap.thorough(), 0);
        Due.is("10: no fault", heap.faults(), 6);
    }

    private static void faults() {
        BookmarkHeap heap = Heaps.withPageOut();
        heap.value(1);
        heap.value(2);
        heap.copy(3, 0);
        heap.collect();
        Due.is("11: no fault by pages in", heap.faults(), 0);
        heap.value(0);
        Due.is("11: a fault", heap.faults(), 1);
        heap.value(0);
        Due.is("11: none the second time", heap.faults(), 1);
        heap.budget(8);
        heap.thorough();
        Due.is("11: one by the thorough collection", heap.faults(), 2);
        heap.thorough();
        Due.is("11: none when no page is out", heap.faults(), 2);
    }

    private static void objects() {
        BookmarkHeap heap = Heaps.withBudget(2);
        for (int i = 1; i <= 32; i++) {
            heap.make(0, 0);
            Due.is("12: objects on pages in and out, held or not", heap.objects(), i);
        }
        heap.collect();
        Due.is("12: objects after a collection within", heap.objects(), 25);
        heap.thorough();
        Due.is("12: objects after a thorough collection", heap.objects(), 1);
    }

    private static void page() {
        BookmarkHeap heap = Heaps.withPageOut();
        Due.is("13: out", heap.page(0), 3);
        Due.is("13: in", heap.page(1), 1);
        Due.is("13: in and used", heap.page(2), 2);
        Due.is("13: empty", heap.page(3), 0);
        for (int p : Heaps.NO_PAGES) {
            Due.is("13: page(" + p + ")", heap.page(p), -1);
        }
    }

    private static void count() {
        BookmarkHeap heap = Heaps.withBudget(3);
        heap.make(0, 0);
        Heaps.fill(heap, 2, 3);
        heap.make(1, 4);
        heap.store(1, 0, 0);
        heap.store(1, 1, 0);
        Heaps.fill(heap, 2, 3);
        heap.store(2, 0, 0);
        heap.make(3, 8);
        heap.store(3, 0, 0);
        heap.store(3, 1, 3);
        Heaps.fill(heap, 2, 4);
        Due.is("14: page 0 out", Heaps.state(heap), "31120000 00000000 255 15 15 1 0 0 0 0 1 0 13");
        heap.value(0);
        Due.is("14: page 1 out for it counts once, though three fields hold", Heaps.state(heap),
            "23120000 10000000 255 255 15 1 0 0 0 0 2 1 13");
        Heaps.fill(heap, 2, 4);
        Due.is("14: page 2 out too, its own objects do not count", Heaps.state(heap),
            "23322000 20000000 255 255 255 15 1 0 0 0 3 1 17");
        heap.value(1);
        Due.is("14: page 1 in, page 0 stays bookmarked", Heaps.state(heap),
            "12331000 10000000 255 15 255 255 1 0 0 0 4 2 17");
        heap.value(3);
        Due.is("14: page 2 in, page 0 is bookmarked no more", Heaps.state(heap),
            "12233000 00000000 15 15 15 255 17 0 0 0 5 3 17");
        for (int p : Heaps.NO_PAGES) {
            Due.is("14: count(" + p + ")", heap.count(p), -1);
        }
    }

    private static void countOfPagesOut() {
        BookmarkHeap heap = Heaps.withBudget(2);
        heap.make(0, 0);
        Heaps.fill(heap, 2, 3);
        heap.make(1, 4);
        heap.store(1, 0, 0);
        Heaps.fill(heap, 2, 3);
        Heaps.fill(heap, 2, 5);
        Due.is("14: pages 0 and 1 out", Heaps.state(heap), "33220000 10000000 255 255 15 1 0 0 0 0 2 0 13");
        heap.value(1);
        Due.is("14: page 0 out keeps its bookmarks at 0", Heaps.state(heap),
            "32310000 00000000 255 15 255 1 0 0 0 0 3 1 13");
        heap.value(0);
        Due.is("14: page 0 in has none", Heaps.state(heap), "22330000 00000000 15 15 255 17 0 0 0 0 4 2 13");
    }

    private static void places() {
        BookmarkHeap heap = new BookmarkHeap();
        int[] due = {1, 3, 7, 15};
        for (int i = 0; i < 4; i++) {
            heap.make(i % 2 == 0 ? 3 : i / 2, 0);
            Due.is("15: places(0)", heap.places(0), due[i]);
        }
        heap.drop(3);
        heap.collect();
        Due.is("15: places 1 and 3", heap.places(0), 10);
        Due.is("15: places(1)", heap.places(1), 0);
        Due.is("15: place 4 of page 1 is bookmarked", Heaps.withBookmark().places(1), 31);
        Due.is("15: all of page 0 are bookmarked", Heaps.withBookmark().places(0), 255);
        for (int p : Heaps.NO_PAGES) {
            Due.is("15: places(" + p + ")", heap.places(p), -1);
        }
    }

    private static void hand() {
        BookmarkHeap heap = Heaps.withBudget(8);
        heap.make(1, 0);
        Heaps.fill(heap, 2, 24);
        Heaps.fill(heap, 0, 7);
        Due.is("16: hand at first", heap.hand(), 0);
        heap.budget(2);
        Due.is("16: behind the page chosen last", heap.hand(), 6);
        heap.value(1);
        Due.is("16: page 6 was chosen", Heaps.state(heap), "23333331 00000000 15 255 255 255 255 255 255 15 7 1 32");
        heap.value(0);
        heap.value(2);
        Due.is("16: page 7 was chosen, behind it stands 0", Heaps.state(heap),
            "13333323 00000000 15 255 255 255 255 255 15 255 0 2 32");
        heap.budget(8);
        heap.value(0);
        heap.budget(2);
        Due.is("16: page 0 was chosen", Heaps.state(heap), "33333322 00000000 255 255 255 255 255 255 15 15 1 3 32");
        heap.value(1);
        Due.is("16: over pages out and used ones", Heaps.state(heap),
            "23333331 00000000 15 255 255 255 255 255 255 15 7 4 32");
    }
}
