import java.util.ArrayList;
import java.util.BitSet;
import java.util.Collection;
import java.util.Comparator;
import java.util.HashMap;
import java.util.HashSet;
import java.util.LinkedHashMap;
import java.util.List;
import java.util.Map;
import java.util.Optional;
import java.util.Set;
import java.util.TreeMap;
import java.util.stream.Collectors;

/** The document once more, with the Java library and without a thought of speed or room. */
final class Model {
    record Name(int teller, int life, int number) {
    }

    record Telling(Name name, int key, int value, int time) {
        boolean rivals(Telling other) {
            return name.equals(other.name) && !equals(other);
        }
    }

    static final class Desk {
        final Map<Telling, Integer> seen = new LinkedHashMap<>();
        final Set<Telling> waiting = new HashSet<>();
        int moment;
        boolean batch;

        boolean has(Telling t) {
            return seen.containsKey(t) || waiting.contains(t);
        }

        void take(Telling t) {
            if (batch) {
                waiting.add(t);
            } else {
                seen.put(t, ++moment);
            }
        }

        Set<Telling> seenBy(int when) {
            return seen.keySet().stream().filter(t -> seen.get(t) <= when).collect(Collectors.toSet());
        }
    }

    private final List<TreeMap<Integer, Integer>> marks = new ArrayList<>();
    private final int[] lives = new int[5];
    private final List<Telling> kept = new ArrayList<>();
    private final Map<Name, Telling> settled = new HashMap<>();
    private final List<Desk> desks = List.of(new Desk(), new Desk(), new Desk());

    Model() {
        for (int i = 0; i < 5; i++) {
            marks.add(new TreeMap<>());
        }
    }

    int mark(int teller, int own, int real) {
        index(in(teller, 5));
        TreeMap<Integer, Integer> of = marks.get(teller);
        turn(of.size() < 6);
        range(in(own, 1_000_001) && in(real, 1_000_001));
        range(of.isEmpty() || (of.lastKey() < own && of.lastEntry().getValue() <= real));
        of.put(own, real);
        return of.size();
    }

    int real(int teller, int own) {
        index(in(teller, 5));
        range(in(own, 1_000_001));
        TreeMap<Integer, Integer> of = marks.get(teller);
        if (of.isEmpty()) {
            return own;
        }
        Map.Entry<Integer, Integer> a = of.floorEntry(own);
        Map.Entry<Integer, Integer> b = of.higherEntry(own);
        if (a == null || b == null) {
            Map.Entry<Integer, Integer> near = a == null ? b : a;
            return own + near.getValue() - near.getKey();
        }
        long product = (long) (b.getValue() - a.getValue()) * (own - a.getKey());
        return a.getValue() + (int) Math.floorDiv(product, (long) (b.getKey() - a.getKey()));
    }

    int tell(int desk, int teller, long told, int value) {
        index(in(desk, 3) && in(teller, 5));
        range(told >= 0 && told < 1L << 30);
        int time = (int) (told % (1 << 20));
        int key = (int) (told / (1 << 20) % 8);
        int number = (int) (told / (1 << 23));
        range(time <= 1_000_000 && number <= 99);
        Telling t = new Telling(new Name(teller, lives[teller], number), key, value, time);
        meaning(kept.contains(t) || kept.size() < 120);
        Desk at = desks.get(desk);
        if (at.has(t)) {
            return 1;
        }
        if (!kept.contains(t)) {
            kept.add(t);
        }
        boolean rival = kept.stream().anyMatch(r -> r.rivals(t) && at.has(r));
        at.take(t);
        return rival ? 2 : 0;
    }

    int restart(int teller) {
        index(in(teller, 5));
        turn(lives[teller] < 3);
        return ++lives[teller];
    }

    int join(int desk, int other) {
        index(in(desk, 3) && in(other, 3) && desk != other);
        List<Telling> fresh = kept.stream()
                .filter(t -> desks.get(other).seen.containsKey(t) && !desks.get(desk).has(t))
                .toList();
        fresh.forEach(desks.get(desk)::take);
        return fresh.size();
    }

    int batch(int desk, boolean on) {
        index(in(desk, 3));
        Desk at = desks.get(desk);
        turn(at.batch != on);
        at.batch = on;
        if (!on && !at.waiting.isEmpty()) {
            at.moment++;
            at.waiting.forEach(t -> at.seen.put(t, at.moment));
            at.waiting.clear();
        }
        return at.moment;
    }

    boolean same(int desk, int other) {
        index(in(desk, 3) && in(other, 3));
        return desks.get(desk).seen.keySet().equals(desks.get(other).seen.keySet());
    }

    int conflicts(int desk) {
        index(in(desk, 3));
        Collection<List<Telling>> byName = desks.get(desk).seen.keySet().stream()
                .collect(Collectors.groupingBy(Telling::name)).values();
        return (int) byName.stream()
                .filter(of -> of.size() >= 2 && !of.contains(settled.get(of.get(0).name())))
                .count();
    }

    int settle(int of, int k) {
        index(of >= 0 && of < 5 * 512 && of % 128 < 100 && k >= 0);
        Name name = new Name(of / 512, of / 128 % 4, of % 128);
        List<Telling> all = kept.stream().filter(t -> t.name().equals(name)).toList();
        index(k < all.size());
        settled.put(name, all.get(k));
        return all.get(k).value();
    }

    int last(int desk, int key, int what) {
        index(in(desk, 3) && in(key, 8) && in(what, 5));
        Optional<Telling> found = lastOf(desks.get(desk).seen.keySet(), key);
        turn(found.isPresent());
        Telling t = found.get();
        return List.of(t.value(), realOf(t), t.name().teller(), t.name().number(), t.name().life()).get(what);
    }

    int known(int desk, int key, int moment) {
        index(in(desk, 3) && in(key, 8));
        range(moment >= 0 && moment <= desks.get(desk).moment);
        Optional<Telling> found = lastOf(desks.get(desk).seenBy(moment), key);
        turn(found.isPresent());
        return found.get().value();
    }

    int many(int desk, int what) {
        index(in(desk, 3) && in(what, 3));
        Desk at = desks.get(desk);
        return List.of(at.seen.size(), at.moment, at.waiting.size()).get(what);
    }

    int gap(int desk, int teller, int k) {
        index(in(desk, 3) && in(teller, 5) && k >= 0);
        BitSet heard = new BitSet();
        desks.get(desk).seen.keySet().stream().map(Telling::name)
                .filter(n -> n.teller() == teller && n.life() == lives[teller])
                .forEach(n -> heard.set(n.number()));
        List<Integer> gaps = new ArrayList<>();
        for (int first = heard.nextClearBit(0); heard.nextSetBit(first) >= 0;) {
            int behind = heard.nextSetBit(first);
            gaps.add(100 * first + behind - 1);
            first = heard.nextClearBit(behind);
        }
        return k < gaps.size() ? gaps.get(k) : -1;
    }

    private Optional<Telling> lastOf(Set<Telling> seen, int key) {
        return seen.stream().filter(t -> t.key() == key && counts(seen, t)).max(
                Comparator.<Telling>comparingInt(this::realOf)
                        .thenComparingInt(t -> t.name().life())
                        .thenComparingInt(t -> t.name().teller())
                        .thenComparingInt(t -> t.name().number()));
    }

    private boolean counts(Set<Telling> seen, Telling t) {
        Telling chosen = settled.get(t.name());
        return chosen == null ? seen.stream().noneMatch(t::rivals) : chosen.equals(t);
    }

    private int realOf(Telling t) {
        return real(t.name().teller(), t.time());
    }

    private static boolean in(int i, int bound) {
        return i >= 0 && i < bound;
    }

    private static void index(boolean right) {
        if (!right) {
            throw new IndexOutOfBoundsException();
        }
    }

    private static void turn(boolean right) {
        if (!right) {
            throw new IllegalStateException();
        }
    }

    private static void range(boolean right) {
        if (!right) {
            throw new IllegalArgumentException();
        }
    }

    private static void meaning(boolean right) {
        if (!right) {
            throw new UnsupportedOperationException();
        }
    }
}
