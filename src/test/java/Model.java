import java.util.ArrayList;
import java.util.HashMap;
import java.util.HashSet;
import java.util.List;
import java.util.Map;
import java.util.NoSuchElementException;
import java.util.Set;
import java.util.TreeSet;

/** The document written down a second time, in another way: sets and searches, slow and plain. */
final class Model {
    private record Find(int number, int source, int day, int[] marks, int[] values) {}

    private record Link(int from, int to, int group) {}

    private record Wish(int mark, int markValue, int attribute, int value) {}

    private int day = 0;
    private final int[] terms = {30, 30, 30, 30};
    private final List<Integer> order = new ArrayList<>(List.of(0, 1, 2, 3));
    private final List<Find> finds = new ArrayList<>();
    private final Set<Integer> struck = new HashSet<>();
    private final Map<Set<Integer>, Integer> told = new HashMap<>();
    private final List<Link> links = new ArrayList<>();
    private final List<Wish> wishes = new ArrayList<>();

    private static void range(int number, int lowest, int highest) {
        if (number < lowest || number > highest) {
            throw new IllegalArgumentException();
        }
    }

    private static void index(int number, List<?> list) {
        if (number < 0 || number >= list.size()) {
            throw new IndexOutOfBoundsException();
        }
    }

    private void counting(int find, int onDay) {
        if (!counts(find, onDay)) {
            throw new NoSuchElementException();
        }
    }

    int pass(int days) {
        range(days, 1, 1000);
        if (day + days > 9999) {
            throw new IllegalStateException();
        }
        return day += days;
    }

    int today() {
        return day;
    }

    int setTerm(int source, int days) {
        range(source, 0, 3);
        range(days, 1, 999);
        int before = terms[source];
        terms[source] = days;
        return before;
    }

    int putFirst(int source) {
        range(source, 0, 3);
        int before = order.indexOf(source);
        order.remove(before);
        order.add(0, source);
        return before;
    }

    int find(int source, int serial, int name, int address, int first, int second) {
        range(source, 0, 3);
        for (int mark : new int[] {serial, name, address}) {
            range(mark, 0, 99);
        }
        range(first, -1, 99);
        range(second, -1, 99);
        if (finds.size() == 60) {
            throw new IllegalStateException();
        }
        finds.add(new Find(finds.size(), source, day, new int[] {serial, name, address},
                new int[] {first, second}));
        return finds.size() - 1;
    }

    boolean strike(int find) {
        index(find, finds);
        return struck.add(find);
    }

    int tell(int one, int other, int what) {
        index(one, finds);
        index(other, finds);
        if (one == other) {
            throw new IllegalArgumentException();
        }
        range(what, 0, 2);
        Integer before = told.put(Set.of(one, other), what);
        return before == null ? 0 : before;
    }

    boolean counts(int find, int onDay) {
        index(find, finds);
        range(onDay, 0, 9999);
        Find f = finds.get(find);
        return !struck.contains(find) && f.day <= onDay && onDay <= f.day + terms[f.source];
    }

    private boolean edge(Find a, Find b) {
        int hand = told.getOrDefault(Set.of(a.number, b.number), 0);
        boolean serials = a.marks[0] > 0 && b.marks[0] > 0;
        boolean bySerial = serials && a.marks[0] == b.marks[0];
        boolean byRest = !serials && a.marks[1] > 0 && a.marks[2] > 0
                && a.marks[1] == b.marks[1] && a.marks[2] == b.marks[2];
        return (bySerial || byRest || hand == 1) && hand != 2;
    }

    /** The things of a day by their numbers, each with its finds in rising order. */
    private Map<Integer, TreeSet<Integer>> sorted(int onDay) {
        Map<Integer, TreeSet<Integer>> things = new HashMap<>();
        Set<Integer> seen = new HashSet<>();
        for (Find start : finds) {
            if (!counts(start.number, onDay) || !seen.add(start.number)) {
                continue;
            }
            TreeSet<Integer> thing = new TreeSet<>(Set.of(start.number));
            List<Integer> open = new ArrayList<>(thing);
            while (!open.isEmpty()) {
                Find a = finds.get(open.remove(open.size() - 1));
                for (Find b : finds) {
                    if (b != a && counts(b.number, onDay) && edge(a, b) && seen.add(b.number)) {
                        thing.add(b.number);
                        open.add(b.number);
                    }
                }
            }
            things.put(thing.first(), thing);
        }
        return things;
    }

    private TreeSet<Integer> thingWith(int find, int onDay) {
        for (TreeSet<Integer> thing : sorted(onDay).values()) {
            if (thing.contains(find)) {
                return thing;
            }
        }
        throw new NoSuchElementException();
    }

    int things(int onDay) {
        range(onDay, 0, 9999);
        return sorted(onDay).size();
    }

    int thingOf(int find, int onDay) {
        index(find, finds);
        range(onDay, 0, 9999);
        return thingWith(find, onDay).first();
    }

    private int valueOf(Set<Integer> thing, int attribute) {
        List<Find> telling = new ArrayList<>();
        for (int find : thing) {
            if (finds.get(find).values[attribute] != -1) {
                telling.add(finds.get(find));
            }
        }
        telling.sort((a, b) -> {
            int byOrder = order.indexOf(a.source) - order.indexOf(b.source);
            int byDay = b.day - a.day;
            return byOrder != 0 ? byOrder : byDay != 0 ? byDay : b.number - a.number;
        });
        return telling.isEmpty() ? -1 : telling.get(0).values[attribute];
    }

    int value(int find, int attribute, int onDay) {
        index(find, finds);
        range(attribute, 0, 1);
        range(onDay, 0, 9999);
        return valueOf(thingWith(find, onDay), attribute);
    }

    int disputed(int attribute, int onDay) {
        range(attribute, 0, 1);
        range(onDay, 0, 9999);
        int number = 0;
        for (Set<Integer> thing : sorted(onDay).values()) {
            Set<Integer> values = new HashSet<>();
            for (int find : thing) {
                values.add(finds.get(find).values[attribute]);
            }
            values.remove(-1);
            number += values.size() > 1 ? 1 : 0;
        }
        return number;
    }

    int link(int find, int other, int group) {
        index(find, finds);
        index(other, finds);
        if (find == other) {
            throw new IllegalArgumentException();
        }
        range(group, 0, 3);
        if (links.size() == 40) {
            throw new IllegalStateException();
        }
        links.add(new Link(find, other, group));
        return links.size();
    }

    /** The numbers of the things that fail if the thing of a find does. */
    private Set<Integer> fallen(int find, int onDay) {
        Map<Integer, TreeSet<Integer>> things = sorted(onDay);
        Map<Integer, Integer> of = new HashMap<>();
        things.forEach((number, thing) -> thing.forEach(f -> of.put(f, number)));
        Map<List<Integer>, Set<Integer>> needs = new HashMap<>();
        for (Link link : links) {
            Integer from = of.get(link.from);
            Integer to = of.get(link.to);
            if (from != null && to != null && !from.equals(to)) {
                needs.computeIfAbsent(List.of(from, link.group), k -> new HashSet<>()).add(to);
            }
        }
        Set<Integer> fallen = new HashSet<>(Set.of(of.get(find)));
        boolean more = true;
        while (more) {
            Set<Integer> next = new HashSet<>(fallen);
            needs.forEach((by, all) -> {
                if (fallen.containsAll(all)) {
                    next.add(by.get(0));
                }
            });
            more = fallen.addAll(next);
        }
        return fallen;
    }

    int impact(int find, int onDay) {
        index(find, finds);
        range(onDay, 0, 9999);
        counting(find, onDay);
        return fallen(find, onDay).size();
    }

    boolean failsWith(int find, int other, int onDay) {
        index(find, finds);
        index(other, finds);
        range(onDay, 0, 9999);
        counting(find, onDay);
        counting(other, onDay);
        return fallen(other, onDay).contains(thingOf(find, onDay));
    }

    int wish(int mark, int markValue, int attribute, int value) {
        range(mark, 0, 2);
        range(markValue, 1, 99);
        range(attribute, 0, 1);
        range(value, 0, 99);
        if (wishes.size() == 20) {
            throw new IllegalStateException();
        }
        wishes.add(new Wish(mark, markValue, attribute, value));
        return wishes.size() - 1;
    }

    int differing(int wish, int onDay) {
        index(wish, wishes);
        range(onDay, 0, 9999);
        Wish w = wishes.get(wish);
        int number = 0;
        for (Set<Integer> thing : sorted(onDay).values()) {
            boolean marked = thing.stream()
                    .anyMatch(f -> finds.get(f).marks[w.mark] == w.markValue);
            number += marked && valueOf(thing, w.attribute) != w.value ? 1 : 0;
        }
        return number;
    }

    int changed(int attribute, int one, int other) {
        range(attribute, 0, 1);
        range(one, 0, 9999);
        range(other, 0, 9999);
        int number = 0;
        for (Find f : finds) {
            if (counts(f.number, one) && counts(f.number, other)
                    && value(f.number, attribute, one) != value(f.number, attribute, other)) {
                number++;
            }
        }
        return number;
    }
}
