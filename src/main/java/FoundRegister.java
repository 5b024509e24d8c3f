import java.util.NoSuchElementException;

/**
 * A register of what was discovered in a house of machines: finds from sources that disagree, the
 * things that they are finds of, links between things, and wishes.
 */
public final class FoundRegister {
    private static final int LAST_DAY = 9999;
    private static final int MOST_DAYS_TO_PASS = 1000;
    private static final int LONGEST_TERM = 999;
    private static final int TERM_AT_FIRST = 30;
    private static final int SOURCES = 4;

    private static final int MOST_FINDS = 60;
    private static final int MARKS = 3;
    private static final int SERIAL = 0;
    private static final int NAME = 1;
    private static final int ADDRESS = 2;
    private static final int MARK_UNKNOWN = 0;
    private static final int HIGHEST_MARK = 99;
    private static final int ATTRIBUTES = 2;
    private static final int VALUE_UNTOLD = -1;
    private static final int HIGHEST_VALUE = 99;

    private static final int NOTHING_TOLD = 0;
    private static final int TOLD_SAME = 1;
    private static final int TOLD_DIFFERENT = 2;

    private static final int MOST_LINKS = 40;
    private static final int GROUPS = 4;
    private static final int MOST_WISHES = 20;

    /** Stands for the thing of a find that does not count, and for a find that is not there. */
    private static final int NONE = -1;

    private int presentDay;
    private final Sources sources;
    private final Finds finds;
    private final Links links;
    private final Wishes wishes;
    private final Things ofDay;
    private final Things ofOtherDay;

    public FoundRegister() {
        presentDay = 0;
        sources = new Sources();
        finds = new Finds();
        links = new Links();
        wishes = new Wishes();
        ofDay = new Things(finds, sources);
        ofOtherDay = new Things(finds, sources);
    }

    // ---- days and sources

    public int pass(int days) throws IllegalArgumentException, IllegalStateException {
        requireRange(days, 1, MOST_DAYS_TO_PASS);
        if (presentDay + days > LAST_DAY) {
            throw new IllegalStateException("it would be later than the last day");
        }
        presentDay += days;
        return presentDay;
    }

    public int today() {
        return presentDay;
    }

    public int setTerm(int source, int days) throws IllegalArgumentException {
        requireRange(source, 0, SOURCES - 1);
        requireRange(days, 1, LONGEST_TERM);
        int before = sources.term[source];
        sources.term[source] = days;
        return before;
    }

    public int putFirst(int source) throws IllegalArgumentException {
        requireRange(source, 0, SOURCES - 1);
        return sources.moveToFront(source);
    }

    // ---- finds

    public int find(int source, int serial, int name, int address, int first, int second)
            throws IllegalArgumentException, IllegalStateException {
        requireRange(source, 0, SOURCES - 1);
        requireRange(serial, MARK_UNKNOWN, HIGHEST_MARK);
        requireRange(name, MARK_UNKNOWN, HIGHEST_MARK);
        requireRange(address, MARK_UNKNOWN, HIGHEST_MARK);
        requireRange(first, VALUE_UNTOLD, HIGHEST_VALUE);
        requireRange(second, VALUE_UNTOLD, HIGHEST_VALUE);
        if (finds.count >= MOST_FINDS) {
            throw new IllegalStateException("no more finds can come");
        }
        int number = finds.take(source, presentDay);
        finds.putMarks(number, serial, name, address);
        finds.putAttributes(number, first, second);
        return number;
    }

    public boolean strike(int find) throws IndexOutOfBoundsException {
        requireFind(find);
        boolean stood = !finds.struck[find];
        finds.struck[find] = true;
        return stood;
    }

    public int tell(int one, int other, int told)
            throws IndexOutOfBoundsException, IllegalArgumentException {
        requireFind(one);
        requireFind(other);
        requireUnlike(one, other);
        requireRange(told, NOTHING_TOLD, TOLD_DIFFERENT);
        int before = finds.told[one][other];
        finds.told[one][other] = told;
        finds.told[other][one] = told;
        return before;
    }

    public boolean counts(int find, int day)
            throws IndexOutOfBoundsException, IllegalArgumentException {
        requireFind(find);
        requireDay(day);
        return finds.standsOn(find, day, sources);
    }

    // ---- things

    public int things(int day) throws IllegalArgumentException {
        requireDay(day);
        ofDay.sortFor(day);
        int number = 0;
        for (int thing = 0; thing < finds.count; thing++) {
            if (ofDay.isThing(thing)) {
                number++;
            }
        }
        return number;
    }

    public int thingOf(int find, int day)
            throws IndexOutOfBoundsException, IllegalArgumentException, NoSuchElementException {
        requireFind(find);
        requireDay(day);
        ofDay.sortFor(day);
        requireCounting(find);
        return ofDay.ofFind[find];
    }

    public int value(int find, int attribute, int day)
            throws IndexOutOfBoundsException, IllegalArgumentException, NoSuchElementException {
        requireFind(find);
        requireAttribute(attribute);
        requireDay(day);
        ofDay.sortFor(day);
        requireCounting(find);
        return ofDay.attributeOf(ofDay.ofFind[find], attribute);
    }

    public int disputed(int attribute, int day) throws IllegalArgumentException {
        requireAttribute(attribute);
        requireDay(day);
        ofDay.sortFor(day);
        int number = 0;
        for (int thing = 0; thing < finds.count; thing++) {
            if (ofDay.isThing(thing) && ofDay.hasUnlikeValues(thing, attribute)) {
                number++;
            }
        }
        return number;
    }

    // ---- links and failures

    public int link(int find, int other, int group)
            throws IndexOutOfBoundsException, IllegalArgumentException, IllegalStateException {
        requireFind(find);
        requireFind(other);
        requireUnlike(find, other);
        requireRange(group, 0, GROUPS - 1);
        if (links.count >= MOST_LINKS) {
            throw new IllegalStateException("no more links can be told");
        }
        links.add(find, other, group);
        return links.count;
    }

    public int impact(int find, int day)
            throws IndexOutOfBoundsException, IllegalArgumentException, NoSuchElementException {
        requireFind(find);
        requireDay(day);
        ofDay.sortFor(day);
        requireCounting(find);
        links.failFrom(ofDay.ofFind[find], ofDay);
        return links.failures();
    }

    public boolean failsWith(int find, int other, int day)
            throws IndexOutOfBoundsException, IllegalArgumentException, NoSuchElementException {
        requireFind(find);
        requireFind(other);
        requireDay(day);
        ofDay.sortFor(day);
        requireCounting(find);
        requireCounting(other);
        links.failFrom(ofDay.ofFind[other], ofDay);
        return links.failed[ofDay.ofFind[find]];
    }

    // ---- wishes

    public int wish(int mark, int markValue, int attribute, int value)
            throws IllegalArgumentException, IllegalStateException {
        requireRange(mark, 0, MARKS - 1);
        requireRange(markValue, MARK_UNKNOWN + 1, HIGHEST_MARK);
        requireAttribute(attribute);
        requireRange(value, 0, HIGHEST_VALUE);
        if (wishes.count >= MOST_WISHES) {
            throw new IllegalStateException("no more wishes can be told");
        }
        return wishes.add(mark, markValue, attribute, value);
    }

    public int differing(int wish, int day)
            throws IndexOutOfBoundsException, IllegalArgumentException {
        if (wish < 0 || wish >= wishes.count) {
            throw new IndexOutOfBoundsException("there is no such wish");
        }
        requireDay(day);
        ofDay.sortFor(day);
        int number = 0;
        for (int thing = 0; thing < finds.count; thing++) {
            if (ofDay.isThing(thing) && wishes.isMissedBy(thing, wish, ofDay)) {
                number++;
            }
        }
        return number;
    }

    public int changed(int attribute, int one, int other) throws IllegalArgumentException {
        requireAttribute(attribute);
        requireDay(one);
        requireDay(other);
        ofDay.sortFor(one);
        ofOtherDay.sortFor(other);
        int number = 0;
        for (int find = 0; find < finds.count; find++) {
            if (hasAnotherValue(find, attribute)) {
                number++;
            }
        }
        return number;
    }

    private boolean hasAnotherValue(int find, int attribute) {
        int thing = ofDay.ofFind[find];
        int otherThing = ofOtherDay.ofFind[find];
        return thing != NONE && otherThing != NONE
                && ofDay.attributeOf(thing, attribute)
                        != ofOtherDay.attributeOf(otherThing, attribute);
    }

    // ---- what a call asks for before it does anything

    private static void requireRange(int number, int lowest, int highest) {
        if (number < lowest || number > highest) {
            throw new IllegalArgumentException("a parameter is out of range");
        }
    }

    private static void requireDay(int day) {
        requireRange(day, 0, LAST_DAY);
    }

    private static void requireAttribute(int attribute) {
        requireRange(attribute, 0, ATTRIBUTES - 1);
    }

    private static void requireUnlike(int find, int other) {
        if (find == other) {
            throw new IllegalArgumentException("both finds are the same");
        }
    }

    private void requireFind(int find) {
        if (find < 0 || find >= finds.count) {
            throw new IndexOutOfBoundsException("there is no such find");
        }
    }

    /** Asks for a find that counts on the day that the things were last sorted for. */
    private void requireCounting(int find) {
        if (ofDay.ofFind[find] == NONE) {
            throw new NoSuchElementException("the find does not count on that day");
        }
    }

    /** The terms of the sources, and the place of each in their order. */
    private static final class Sources {
        final int[] term = new int[SOURCES];
        final int[] place = new int[SOURCES];

        Sources() {
            for (int source = 0; source < SOURCES; source++) {
                term[source] = TERM_AT_FIRST;
                place[source] = source;
            }
        }

        int moveToFront(int source) {
            int before = place[source];
            for (int other = 0; other < SOURCES; other++) {
                if (place[other] < before) {
                    place[other]++;
                }
            }
            place[source] = 0;
            return before;
        }
    }

    /** The finds in the order in which they came, and what was told of pairs of them. */
    private static final class Finds {
        int count = 0;
        final int[] source = new int[MOST_FINDS];
        final int[] cameOn = new int[MOST_FINDS];
        final boolean[] struck = new boolean[MOST_FINDS];
        final int[][] marks = new int[MARKS][MOST_FINDS];
        final int[][] attributes = new int[ATTRIBUTES][MOST_FINDS];
        final int[][] told = new int[MOST_FINDS][MOST_FINDS];

        int take(int fromSource, int day) {
            int number = count;
            source[number] = fromSource;
            cameOn[number] = day;
            count++;
            return number;
        }

        void putMarks(int find, int serial, int name, int address) {
            marks[SERIAL][find] = serial;
            marks[NAME][find] = name;
            marks[ADDRESS][find] = address;
        }

        void putAttributes(int find, int first, int second) {
            attributes[0][find] = first;
            attributes[1][find] = second;
        }

        boolean standsOn(int find, int day, Sources sources) {
            return !struck[find] && cameOn[find] <= day
                    && day - cameOn[find] <= sources.term[source[find]];
        }

        /** Whether the two are joined at once, not only by way of other finds. */
        boolean joined(int one, int other) {
            if (told[one][other] != NOTHING_TOLD) {
                return told[one][other] == TOLD_SAME;
            }
            if (knowsSerial(one) && knowsSerial(other)) {
                return shareMark(SERIAL, one, other);
            }
            return shareMark(NAME, one, other) && shareMark(ADDRESS, one, other);
        }

        private boolean knowsSerial(int find) {
            return marks[SERIAL][find] != MARK_UNKNOWN;
        }

        private boolean shareMark(int mark, int one, int other) {
            return marks[mark][one] != MARK_UNKNOWN && marks[mark][one] == marks[mark][other];
        }
    }

    /** The finds that count on one day, sorted into things; a thing has its lowest find's number. */
    private static final class Things {
        final Finds finds;
        final Sources sources;
        final int[] ofFind = new int[MOST_FINDS];

        Things(Finds finds, Sources sources) {
            this.finds = finds;
            this.sources = sources;
        }

        void sortFor(int day) {
            for (int find = 0; find < finds.count; find++) {
                ofFind[find] = finds.standsOn(find, day, sources) ? find : NONE;
            }
            for (int find = 1; find < finds.count; find++) {
                if (ofFind[find] != NONE) {
                    joinToEarlier(find);
                }
            }
        }

        private void joinToEarlier(int find) {
            for (int earlier = 0; earlier < find; earlier++) {
                if (ofFind[earlier] != NONE && ofFind[earlier] != ofFind[find]
                        && finds.joined(earlier, find)) {
                    merge(ofFind[earlier], ofFind[find]);
                }
            }
        }

        private void merge(int one, int other) {
            int lower = Math.min(one, other);
            int higher = Math.max(one, other);
            for (int find = 0; find < finds.count; find++) {
                if (ofFind[find] == higher) {
                    ofFind[find] = lower;
                }
            }
        }

        boolean isThing(int number) {
            return ofFind[number] == number;
        }

        int attributeOf(int thing, int attribute) {
            int best = NONE;
            for (int find = 0; find < finds.count; find++) {
                if (tells(thing, attribute, find) && (best == NONE || goesBefore(find, best))) {
                    best = find;
                }
            }
            return best == NONE ? VALUE_UNTOLD : finds.attributes[attribute][best];
        }

        /** Whether a find is asked before one of a lower number. */
        private boolean goesBefore(int find, int lower) {
            int place = sources.place[finds.source[find]];
            int lowerPlace = sources.place[finds.source[lower]];
            // Days only go on, so of one source the higher number is never the earlier by day.
            return place <= lowerPlace;
        }

        boolean hasUnlikeValues(int thing, int attribute) {
            int seen = VALUE_UNTOLD;
            for (int find = 0; find < finds.count; find++) {
                if (tells(thing, attribute, find)) {
                    int told = finds.attributes[attribute][find];
                    if (seen != VALUE_UNTOLD && told != seen) {
                        return true;
                    }
                    seen = told;
                }
            }
            return false;
        }

        private boolean tells(int thing, int attribute, int find) {
            return ofFind[find] == thing && finds.attributes[attribute][find] != VALUE_UNTOLD;
        }

        boolean hasMark(int thing, int mark, int markValue) {
            for (int find = 0; find < finds.count; find++) {
                if (ofFind[find] == thing && finds.marks[mark][find] == markValue) {
                    return true;
                }
            }
            return false;
        }
    }

    /** The links between finds, and which things fail by them. */
    private static final class Links {
        int count = 0;
        final int[] needing = new int[MOST_LINKS];
        final int[] needed = new int[MOST_LINKS];
        final int[] group = new int[MOST_LINKS];
        final boolean[] failed = new boolean[MOST_FINDS];

        void add(int find, int other, int inGroup) {
            needing[count] = find;
            needed[count] = other;
            group[count] = inGroup;
            count++;
        }

        void failFrom(int first, Things things) {
            for (int thing = 0; thing < MOST_FINDS; thing++) {
                failed[thing] = false;
            }
            failed[first] = true;
            boolean more = true;
            // A round that brings more fails one thing at least, and there are no more than finds.
            for (int round = 0; more && round < MOST_FINDS; round++) {
                more = failMore(things);
            }
        }

        private boolean failMore(Things things) {
            boolean more = false;
            for (int link = 0; link < count; link++) {
                int thing = things.ofFind[needing[link]];
                if (holds(link, things) && !failed[thing] && lost(thing, group[link], things)) {
                    failed[thing] = true;
                    more = true;
                }
            }
            return more;
        }

        /** Whether a link is one between two things on the day that they were sorted for. */
        private boolean holds(int link, Things things) {
            int thing = things.ofFind[needing[link]];
            int other = things.ofFind[needed[link]];
            return thing != NONE && other != NONE && thing != other;
        }

        /** Whether a thing is without all that it needs by a group, by which it needs something. */
        private boolean lost(int thing, int inGroup, Things things) {
            for (int link = 0; link < count; link++) {
                if (group[link] == inGroup && things.ofFind[needing[link]] == thing
                        && holds(link, things) && !failed[things.ofFind[needed[link]]]) {
                    return false;
                }
            }
            return true;
        }

        int failures() {
            int number = 0;
            for (int thing = 0; thing < MOST_FINDS; thing++) {
                if (failed[thing]) {
                    number++;
                }
            }
            return number;
        }
    }

    /** The wishes in the order in which they were told. */
    private static final class Wishes {
        int count = 0;
        final int[] mark = new int[MOST_WISHES];
        final int[] markValue = new int[MOST_WISHES];
        final int[] attribute = new int[MOST_WISHES];
        final int[] wished = new int[MOST_WISHES];

        int add(int ofMark, int ofMarkValue, int forAttribute, int wishedValue) {
            int number = count;
            mark[number] = ofMark;
            markValue[number] = ofMarkValue;
            attribute[number] = forAttribute;
            wished[number] = wishedValue;
            count++;
            return number;
        }

        boolean isMissedBy(int thing, int wish, Things things) {
            // A value that nobody tells is -1, which no wish can ask for.
            return things.hasMark(thing, mark[wish], markValue[wish])
                    && things.attributeOf(thing, attribute[wish]) != wished[wish];
        }
    }
}
