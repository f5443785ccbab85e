/** Heaps in known states, and what can be seen of a heap. */
final class Heaps {
    interface Recipe {
        BookmarkHeap make();
    }

    interface CallOn {
        Object run(BookmarkHeap heap);
    }

    static final int[] NO_REGISTERS = {-1, 4, Integer.MIN_VALUE, Integer.MAX_VALUE};
    static final int[] NO_FIELDS = {-1, 2, Integer.MIN_VALUE, Integer.MAX_VALUE};
    static final int[] NO_PAGES = {-1, 8, Integer.MIN_VALUE, Integer.MAX_VALUE};
    static final int[] NO_BUDGETS = {1, 9, 0, -1, Integer.MIN_VALUE, Integer.MAX_VALUE};
    static final Class<IndexOutOfBoundsException> INDEX = IndexOutOfBoundsException.class;
    static final Class<IllegalArgumentException> ARGUMENT = IllegalArgumentException.class;
    static final Class<IllegalStateException> STATE = IllegalStateException.class;

    private Heaps() {
    }

    static BookmarkHeap withBudget(int n) {
        BookmarkHeap heap = new BookmarkHeap();
        heap.budget(n);
        return heap;
    }

    static void fill(BookmarkHeap heap, int r, int n) {
        for (int i = 0; i < n; i++) {
            heap.make(r, i);
        }
    }

    /** Register 0 holds the newest object afterwards, the field 0 of each the one before it; register 1 is used. */
    static void chain(BookmarkHeap heap, int n) {
        for (int i = 0; i < n; i++) {
            heap.copy(1, 0);
            heap.make(0, i);
            heap.store(0, 0, 1);
        }
    }

    /** Register 0 holds place 0 on page 0, which is out, register 1 place 8, register 2 place 7 on a page not used. */
    static BookmarkHeap withPageOut() {
        BookmarkHeap heap = withBudget(2);
        heap.make(0, 50);
        fill(heap, 2, 7);
        heap.make(1, 58);
        Due.is("with a page out", state(heap), "31200000 00000000 255 15 1 0 0 0 0 0 1 0 9");
        return heap;
    }

    /** Page 0 is out and holds place 4 on page 1, which holds place 5; page 2 has place 8. No register holds any. */
    static BookmarkHeap withBookmark() {
        BookmarkHeap heap = withBudget(2);
        heap.make(0, 0);
        fill(heap, 1, 3);
        heap.make(1, 4);
        heap.store(0, 0, 1);
        heap.make(2, 5);
        heap.store(1, 1, 2);
        fill(heap, 2, 3);
        Due.is("with a bookmark", state(heap), "31200000 01000000 255 31 1 0 0 0 0 0 1 0 9");
        for (int r = 0; r < 3; r++) {
            heap.drop(r);
        }
        return heap;
    }

    /** One chain over all places: nothing can go. */
    static BookmarkHeap full(int budget) {
        BookmarkHeap heap = withBudget(budget);
        chain(heap, 32);
        return heap;
    }

    static String pages(BookmarkHeap heap) {
        StringBuilder text = new StringBuilder();
        for (int p = 0; p < 8; p++) {
            text.append(heap.page(p));
        }
        return text.toString();
    }

    static String counts(BookmarkHeap heap) {
        StringBuilder text = new StringBuilder();
        for (int p = 0; p < 8; p++) {
            text.append(heap.count(p));
        }
        return text.toString();
    }

    /** The eight pages, the eight counts, the places of the eight pages, the hand, FAULTS and how many objects. */
    static String state(BookmarkHeap heap) {
        StringBuilder text = new StringBuilder();
        text.append(pages(heap)).append(' ').append(counts(heap));
        for (int p = 0; p < 8; p++) {
            text.append(' ').append(heap.places(p));
        }
        text.append(' ').append(heap.hand()).append(' ').append(heap.faults()).append(' ').append(heap.objects());
        return text.toString();
    }

    /** The place that each register holds. */
    static String registers(BookmarkHeap heap) {
        StringBuilder text = new StringBuilder();
        for (int r = 0; r < 4; r++) {
            text.append(r == 0 ? "" : " ").append(heap.copy(r, r));
        }
        return text.toString();
    }

    /** The place that a field holds, -1 for nothing; register d is used for it, and the object's page is touched. */
    static int held(BookmarkHeap heap, int d, int r, int field) {
        heap.load(d, r, field);
        return heap.copy(d, d);
    }

    /** A call that throws and changes nothing: the heap goes on just as one that was made alike and never had it. */
    static void refused(String name, Recipe recipe, Class<? extends RuntimeException> want, CallOn call) {
        BookmarkHeap heap = recipe.make();
        Due.throwing(name, want, () -> call.run(heap));
        Due.is("what follows " + name, future(heap), future(recipe.make()));
    }

    /**
     * All that can be seen of a heap, now and later: values, fields and the budget show only by what follows. These are
     * 292 calls, so that a heap of at most 220 calls is not asked beyond its 512th, where every answer is free.
     */
    private static String future(BookmarkHeap heap) {
        StringBuilder text = new StringBuilder();
        text.append(state(heap)).append(" | ").append(registers(heap));
        for (int r = 0; r < 4; r++) {
            int of = r;
            text.append(" | ").append(Due.answer(() -> heap.value(of)));
        }
        for (int r = 0; r < 3; r++) {
            for (int field = 0; field < 2; field++) {
                int of = r;
                int which = field;
                text.append(" | ").append(Due.answer(() -> heap.load(3, of, which)));
                text.append(' ').append(registers(heap));
            }
        }
        for (int i = 0; i < 20; i++) {
            int r = i % 4;
            text.append(" | ").append(Due.answer(() -> heap.make(r, 0)));
            text.append(' ').append(pages(heap)).append(' ').append(heap.hand());
        }
        return text.append(" | ").append(state(heap)).toString();
    }
}
