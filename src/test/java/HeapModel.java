import java.util.ArrayList;
import java.util.HashSet;
import java.util.List;
import java.util.Set;
import java.util.TreeMap;

/**
 * The document's words once more, written as plainly as they stand and in another way than the program: objects are
 * Java objects, pages are sets. It counts how often the rare paths were taken, so that a test can tell whether it got
 * there.
 */
final class HeapModel {
    private static final class Thing {
        int place;
        int value;
        boolean bookmarked;
        final Thing[] fields = new Thing[2];

        int page() {
            return place / 4;
        }
    }

    private final TreeMap<Integer, Thing> things = new TreeMap<>();
    private final Set<Integer> in = new HashSet<>();
    private final Set<Integer> out = new HashSet<>();
    private final Set<Integer> used = new HashSet<>();
    private final int[] counts = new int[8];
    private final Thing[] registers = new Thing[4];
    private int budget = 4;
    private int faults = 0;
    private int hand = 0;

    int madeAfterCollection = 0;
    int madeAfterThorough = 0;
    int madeOnEmptyAfterThorough = 0;
    int madeNowhere = 0;
    int keptByBookmarkAlone = 0;
    int countsFellShort = 0;

    int make(int r, int value) {
        register(r);
        Thing made = place(true);
        if (made == null) {
            collectionWithin();
            made = place(true);
            madeAfterCollection += made == null ? 0 : 1;
        }
        if (made == null) {
            bringAllIn();
            collectionWithin();
            made = place(false);
            madeAfterThorough += made == null ? 0 : 1;
            madeOnEmptyAfterThorough += made != null && made.place % 4 == 0 ? 1 : 0;
            putOutAtLast(made == null ? -1 : made.page());
        }
        if (made == null) {
            madeNowhere++;
            throw new IllegalStateException();
        }
        made.value = value;
        registers[r] = made;
        return made.place;
    }

    int store(int r, int field, int s) {
        register(r);
        field(field);
        register(s);
        touch(heldBy(r).page());
        registers[r].fields[field] = registers[s];
        return faults;
    }

    int load(int d, int r, int field) {
        register(d);
        register(r);
        field(field);
        touch(heldBy(r).page());
        registers[d] = registers[r].fields[field];
        return faults;
    }

    int value(int r) {
        register(r);
        touch(heldBy(r).page());
        return registers[r].value;
    }

    int copy(int d, int r) {
        register(d);
        register(r);
        registers[d] = registers[r];
        return registers[d] == null ? -1 : registers[d].place;
    }

    boolean drop(int r) {
        register(r);
        Thing held = registers[r];
        registers[r] = null;
        return held != null;
    }

    int budget(int n) {
        if (n < 2 || n > 8) {
            throw new IllegalArgumentException();
        }
        budget = n;
        return putOutAtLast(-1);
    }

    int collect() {
        return collectionWithin();
    }

    int thorough() {
        bringAllIn();
        int gone = collectionWithin();
        putOutAtLast(-1);
        return gone;
    }

    int faults() {
        return faults;
    }

    int objects() {
        return things.size();
    }

    int page(int p) {
        if (p < 0 || p > 7) {
            return -1;
        }
        if (out.contains(p)) {
            return 3;
        }
        return !in.contains(p) ? 0 : used.contains(p) ? 2 : 1;
    }

    int count(int p) {
        return p < 0 || p > 7 ? -1 : counts[p];
    }

    int places(int p) {
        if (p < 0 || p > 7) {
            return -1;
        }
        int sum = 0;
        for (Thing thing : on(p)) {
            sum += (thing.bookmarked ? 17 : 1) << (thing.place % 4);
        }
        return sum;
    }

    int hand() {
        return hand;
    }

    private static void register(int r) {
        if (r < 0 || r > 3) {
            throw new IndexOutOfBoundsException();
        }
    }

    private static void field(int field) {
        if (field != 0 && field != 1) {
            throw new IndexOutOfBoundsException();
        }
    }

    private Thing heldBy(int r) {
        if (registers[r] == null) {
            throw new IllegalArgumentException();
        }
        return registers[r];
    }

    private List<Thing> on(int p) {
        return new ArrayList<>(things.subMap(4 * p, 4 * p + 4).values());
    }

    private Set<Thing> heldOnOtherPagesBy(int v) {
        Set<Thing> held = new HashSet<>();
        for (Thing thing : on(v)) {
            for (Thing other : thing.fields) {
                if (other != null && other.page() != v) {
                    held.add(other);
                }
            }
        }
        return held;
    }

    private Set<Integer> referredToBy(int v) {
        Set<Integer> pages = new HashSet<>();
        for (Thing thing : heldOnOtherPagesBy(v)) {
            pages.add(thing.page());
        }
        return pages;
    }

    private void touch(int p) {
        if (out.contains(p)) {
            faults++;
            if (in.size() == budget) {
                putOut(choose(-1));
            }
            bringIn(p);
        }
        used.add(p);
    }

    private void putOut(int v) {
        for (Thing thing : on(v)) {
            thing.bookmarked = true;
        }
        for (Thing thing : heldOnOtherPagesBy(v)) {
            thing.bookmarked = true;
        }
        for (int w : referredToBy(v)) {
            counts[w]++;
        }
        in.remove(v);
        out.add(v);
        used.remove(v);
    }

    private void bringIn(int v) {
        out.remove(v);
        in.add(v);
        used.remove(v);
        for (int w : referredToBy(v)) {
            counts[w]--;
            if (counts[w] == 0 && in.contains(w)) {
                unmark(w);
            }
            countsFellShort += counts[w] > 0 ? 1 : 0;
        }
        if (counts[v] == 0) {
            unmark(v);
        }
    }

    private void unmark(int p) {
        for (Thing thing : on(p)) {
            thing.bookmarked = false;
        }
    }

    private int choose(int spared) {
        while (!in.contains(hand) || hand == spared || used.contains(hand)) {
            if (in.contains(hand) && hand != spared) {
                used.remove(hand);
            }
            hand = hand == 7 ? 0 : hand + 1;
        }
        int chosen = hand;
        hand = hand == 7 ? 0 : hand + 1;
        return chosen;
    }

    private int collectionWithin() {
        Set<Thing> kept = new HashSet<>();
        for (Thing thing : registers) {
            keep(thing, kept);
        }
        int byRegisters = kept.size();
        for (Thing thing : things.values()) {
            if (thing.bookmarked) {
                keep(thing, kept);
            }
        }
        keptByBookmarkAlone += kept.size() > byRegisters ? 1 : 0;
        int before = things.size();
        things.values().removeIf(thing -> in.contains(thing.page()) && !kept.contains(thing));
        for (int p = 0; p < 8; p++) {
            if (in.contains(p) && on(p).isEmpty()) {
                in.remove(p);
                used.remove(p);
            }
        }
        return before - things.size();
    }

    private void keep(Thing thing, Set<Thing> kept) {
        if (thing != null && in.contains(thing.page()) && kept.add(thing)) {
            keep(thing.fields[0], kept);
            keep(thing.fields[1], kept);
        }
    }

    private void bringAllIn() {
        faults += out.size();
        in.addAll(out);
        out.clear();
        for (int p = 0; p < 8; p++) {
            unmark(p);
            counts[p] = 0;
        }
    }

    private int putOutAtLast(int spared) {
        int sum = 0;
        while (in.size() > budget) {
            putOut(choose(spared));
            sum++;
        }
        return sum;
    }

    private Thing place(boolean withinBudget) {
        for (int place = 0; place < 32; place++) {
            if (in.contains(place / 4) && !things.containsKey(place)) {
                return put(place);
            }
        }
        for (int p = 0; p < 8; p++) {
            if (!in.contains(p) && !out.contains(p)) {
                if (withinBudget && in.size() == budget) {
                    putOut(choose(-1));
                }
                in.add(p);
                counts[p] = 0;
                return put(4 * p);
            }
        }
        return null;
    }

    private Thing put(int place) {
        Thing thing = new Thing();
        thing.place = place;
        things.put(place, thing);
        used.add(place / 4);
        return thing;
    }
}
