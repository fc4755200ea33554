import java.util.ArrayList;
import java.util.Arrays;
import java.util.List;
import java.util.function.ToIntFunction;
import java.util.stream.IntStream;

/**
 * A test of its own for each sentence of the document that names a boundary case; what is printed
 * names the promise and quotes the sentence. No object is used for more than its 512 calls: the
 * same line is made again for each part of a look at the whole of it.
 */
public final class BoundariesTest {
    private static final int NONE = OrderLine.NONE;
    private static final int YES = 1;
    private static final int NO = 0;
    /** What stands for an answer of a method that has none. */
    private static final int DONE = 0;
    private static final int THROWN = -1000;
    private static final int OTHER_THROWN = -1001;
    private static final int MOST_CALLS = 512;
    private static final int MIN = Integer.MIN_VALUE;
    private static final int MAX = Integer.MAX_VALUE;

    /** A call of the face with its arguments. */
    private record Call(String text, ToIntFunction<OrderLine> body) {
        int on(OrderLine x) {
            try {
                return body.applyAsInt(x);
            } catch (RuntimeException e) {
                return e.getClass() == IllegalArgumentException.class ? THROWN : OTHER_THROWN;
            }
        }
    }

    private static Call behind(int stamp) {
        return new Call("behind(" + stamp + ")", x -> x.behind(stamp));
    }

    private static Call several(int stamp, int n) {
        return new Call("several(" + stamp + ", " + n + ")", x -> x.several(stamp, n));
    }

    private static Call remove(int stamp) {
        return new Call("remove(" + stamp + ")", x -> x.remove(stamp) ? YES : NO);
    }

    private static Call clear(int from, int to) {
        return new Call("clear(" + from + ", " + to + ")", x -> x.clear(from, to));
    }

    private static Call carry(int from, int to, int behind) {
        String text = "carry(" + from + ", " + to + ", " + behind + ")";
        return new Call(text, x -> x.carry(from, to, behind));
    }

    private static Call compare(int a, int b) {
        return new Call("compare(" + a + ", " + b + ")", x -> x.compare(a, b));
    }

    private static Call next(int stamp, boolean forth) {
        return new Call("next(" + stamp + ", " + forth + ")", x -> x.next(stamp, forth));
    }

    private static Call has(int stamp) {
        return new Call("has(" + stamp + ")", x -> x.has(stamp) ? YES : NO);
    }

    private static Call place(int stamp) {
        return new Call("place(" + stamp + ")", x -> x.place(stamp));
    }

    private static Call at(int place) {
        return new Call("at(" + place + ")", x -> x.at(place));
    }

    private static Call greatest(int from, int to) {
        return new Call("greatest(" + from + ", " + to + ")", x -> x.greatest(from, to));
    }

    private static Call wipe() {
        return new Call("wipe()", x -> {
            x.wipe();
            return DONE;
        });
    }

    private static Call look(int which) {
        return new Call("look(" + which + ")", x -> x.look(which));
    }

    /** A line that some calls make, and the order in which its stamps are due. */
    private record Line(String name, List<Call> calls, int[] order) {
        OrderLine made() {
            OrderLine x = new OrderLine();
            for (Call call : calls) {
                call.on(x);
            }
            return x;
        }

        Line with(Call call, int[] newOrder) {
            List<Call> more = new ArrayList<>(calls);
            more.add(call);
            return new Line(name + ", " + call.text(), more, newOrder);
        }

        boolean holds(int stamp) {
            return IntStream.of(order).anyMatch(other -> other == stamp);
        }

        int last() {
            return order[order.length - 1];
        }
    }

    private static final Line ALONE = new Line("a new line", List.of(), new int[] {0});
    /** Its order is not that of the NUMBERS, and 2 has gone. */
    private static final Line MIXED = new Line("0 4 5 6 1 3",
        List.of(several(0, 6), carry(0, 4, 6), remove(2)), new int[] {0, 4, 5, 6, 1, 3});
    private static final Line FULL = upTo(1000);
    /** Full as well, the greater half of the NUMBERS ahead of the lesser ones. */
    private static final Line FULL_MIXED = FULL.with(carry(0, 500, 999),
        join(range(0, 1), range(500, 1000), range(1, 500)));

    /** The stamps 0 .. size - 1 in their order, by calls of several and at most one of behind. */
    private static Line upTo(int size) {
        List<Call> calls = new ArrayList<>();
        int made = 1;
        while (size - made >= 2) {
            int n = Math.min(64, size - made);
            calls.add(several(made - 1, n));
            made += n;
        }
        if (made < size) {
            calls.add(behind(made - 1));
        }
        return new Line("0 .. " + (size - 1), calls, range(0, size));
    }

    private static int[] range(int from, int end) {
        return IntStream.range(from, end).toArray();
    }

    private static int[] join(int[]... parts) {
        return Arrays.stream(parts).flatMapToInt(IntStream::of).toArray();
    }

    private static int[] without(int[] order, int stamp) {
        return IntStream.of(order).filter(other -> other != stamp).toArray();
    }

    /** What is never a stamp of the line, next to the edges and far from them. */
    private static int[] missing(Line line) {
        return IntStream.of(-1, -2, 2, 7, 64, 998, 999, 1000, 1001, 1024, 65536, 65537, MIN, MIN + 1,
            MAX).filter(stamp -> !line.holds(stamp)).toArray();
    }

    private static final List<Call> LOOKS = looks();
    /** Calls that change the line, each for a line of its own: they show which NUMBER is due next. */
    private static final List<Call> LAST_LOOKS = List.of(behind(0), several(0, 2));
    private static final int LOOKS_A_LINE = 400;

    private static List<Call> looks() {
        List<Call> looks = new ArrayList<>(List.of(look(0), look(1), look(2)));
        for (int i = -1; i <= 1000; i++) {
            looks.addAll(List.of(at(i), has(i), place(i), next(i, true), next(i, false)));
        }
        return looks;
    }

    private static int[] seen(Line line) {
        int[] answers = new int[LOOKS.size() + LAST_LOOKS.size()];
        int n = 0;
        OrderLine x = null;
        for (Call look : LOOKS) {
            x = n % LOOKS_A_LINE == 0 ? line.made() : x;
            answers[n++] = look.on(x);
        }
        for (Call look : LAST_LOOKS) {
            answers[n++] = look.on(line.made());
        }
        return answers;
    }

    /** What the looks must answer, from the order alone. */
    private static int[] dueFor(int[] order) {
        int size = order.length;
        int[] places = new int[1002];
        Arrays.fill(places, NONE);
        for (int i = 0; i < size; i++) {
            places[order[i]] = i;
        }
        int free = IntStream.range(0, 1000).filter(i -> places[i] == NONE).findFirst().orElse(NONE);
        IntStream.Builder due = IntStream.builder().add(size).add(order[size - 1]).add(free);
        for (int i = -1; i <= 1000; i++) {
            int place = i < 0 ? NONE : places[i];
            boolean there = place != NONE;
            due.add(stampAt(order, i)).add(there ? YES : NO).add(there ? place : THROWN);
            due.add(there ? stampAt(order, place + 1) : THROWN);
            due.add(there ? stampAt(order, place - 1) : THROWN);
        }
        return due.add(free).add(size + 2 > 1000 ? NONE : free).build().toArray();
    }

    private static int stampAt(int[] order, int place) {
        return place < 0 || place >= order.length ? NONE : order[place];
    }

    private static String sentence = "";
    private static boolean holds = true;
    private static int sentences = 0;
    private static int broken = 0;

    private static void wrong(String what, int got, int want) {
        holds = false;
        System.out.println(sentence + ": " + what + " answered " + told(got) + ", due is "
            + told(want));
    }

    private static String told(int answer) {
        return answer == THROWN ? "throws.IllegalArgumentException"
            : answer == OTHER_THROWN ? "throws.another" : String.valueOf(answer);
    }

    private static void dueWhole(String what, Line line) {
        int[] got = seen(line);
        int[] want = dueFor(line.order());
        for (int i = 0; i < want.length; i++) {
            if (got[i] != want[i]) {
                Call look = i < LOOKS.size() ? LOOKS.get(i) : LAST_LOOKS.get(i - LOOKS.size());
                wrong(what + ", then " + look.text(), got[i], want[i]);
                return;
            }
        }
    }

    /** The answer is due, and then the whole line stands in the order that is told. */
    private static void makes(Line line, Call call, int want, int... order) {
        String what = "on " + line.name() + ": " + call.text();
        int got = call.on(line.made());
        if (got != want) {
            wrong(what, got, want);
            return;
        }
        dueWhole(what, line.with(call, order));
    }

    private static void keeps(Line line, Call call, int want) {
        makes(line, call, want, line.order());
    }

    private static void refuses(Line line, Call... calls) {
        for (Call call : calls) {
            keeps(line, call, THROWN);
        }
    }

    // What it is, and the terms

    private static void usedFor512Calls() {
        Line grown = repeated(MOST_CALLS - 1, behind(0));
        dueAfter(grown, behind(0), 512);
        dueAfter(grown, several(1, 64), 512);
        dueAfter(grown, remove(1), YES);
        dueAfter(grown, clear(0, 1), 510);
        dueAfter(grown, carry(0, 1, 1), 510);
        dueAfter(grown, compare(1, 511), 1);
        dueAfter(grown, next(511, false), 0);
        dueAfter(grown, has(511), YES);
        dueAfter(grown, place(1), 511);
        dueAfter(grown, at(511), 1);
        dueAfter(grown, greatest(510, 1), 510);
        dueAfter(grown, wipe(), DONE);
        dueAfter(grown, look(0), 512);
        dueAfter(grown, place(512), THROWN);
        dueAfter(repeated(MOST_CALLS - 1, behind(-1)), behind(0), 1);
        dueAfter(repeated(MOST_CALLS - 1, wipe()), behind(0), 1);
        dueAfter(repeated(MOST_CALLS - 1, several(0, 64)), look(0), 961);
        dueAfter(repeated((MOST_CALLS - 2) / 2, several(0, 64), wipe()), several(0, 64), 1);
        dueAfter(repeated((MOST_CALLS - 2) / 2, behind(0), remove(1)), behind(0), 1);
    }

    /** The order is of no use here: the line has no call left for a look at it. */
    private static Line repeated(int times, Call... calls) {
        List<Call> all = new ArrayList<>();
        for (int i = 0; i < times; i++) {
            all.addAll(List.of(calls));
        }
        return new Line(times + " times " + calls[0].text(), all, new int[] {0});
    }

    private static void dueAfter(Line line, Call call, int want) {
        int got = call.on(line.made());
        if (got != want) {
            wrong("after " + line.name() + ": " + call.text(), got, want);
        }
    }

    private static void numbersAre0To999() {
        dueWhole("a full line", FULL);
        dueWhole("a full line, mixed", FULL_MIXED);
        makes(upTo(999), behind(998), 999, range(0, 1000));
        makes(upTo(998), several(997, 2), 998, range(0, 1000));
    }

    private static void stamp0IsAlwaysFirst() {
        makes(MIXED, behind(0), 2, 0, 2, 4, 5, 6, 1, 3);
        makes(MIXED, several(0, 2), 2, 0, 2, 7, 4, 5, 6, 1, 3);
        keeps(MIXED, remove(0), NO);
        makes(MIXED, remove(4), YES, 0, 5, 6, 1, 3);
        makes(MIXED, clear(0, 3), 4, 0, 3);
        makes(MIXED, carry(6, 3, 0), 1, 0, 1, 4, 5, 6, 3);
        makes(MIXED, carry(0, 3, 3), 4, 0, 3, 4, 5, 6, 1);
        keeps(MIXED, carry(0, 3, 0), 4);
        makes(MIXED, wipe(), DONE, 0);
    }

    private static void newOneGetsLeastNumber() {
        makes(ALONE, behind(0), 1, 0, 1);
        makes(MIXED, behind(3), 2, 0, 4, 5, 6, 1, 3, 2);
        Line twoGone = MIXED.with(remove(1), new int[] {0, 4, 5, 6, 3});
        makes(twoGone, behind(6), 1, 0, 4, 5, 6, 1, 3);
        makes(twoGone, several(6, 3), 1, 0, 4, 5, 6, 1, 2, 7, 3);
        Line goneAndBack = twoGone.with(behind(0), new int[] {0, 1, 4, 5, 6, 3});
        makes(goneAndBack, behind(0), 2, 0, 2, 1, 4, 5, 6, 3);
        makes(upTo(3), behind(1), 3, 0, 1, 3, 2);
        makes(MIXED.with(clear(4, 3), new int[] {0, 4, 3}), several(0, 3), 1, 0, 1, 2, 5, 4, 3);
        makes(MIXED.with(wipe(), new int[] {0}), several(0, 2), 1, 0, 1, 2);
    }

    private static void refusedChangesNothing() {
        Line line = keepsAfterAll(MIXED, NO, remove(2), remove(0), remove(-1), remove(1000));
        line = keepsAfterAll(line, NONE, several(0, 1), several(0, 65), carry(1, 0, 3),
            carry(4, 4, 0), carry(0, 3, 5), next(3, true), next(0, false), at(-1), at(6),
            greatest(3, 0), look(3));
        keepsAfterAll(line, THROWN, behind(2), several(2, 2), clear(0, 2), clear(2, 3),
            carry(2, 3, 0), carry(0, 2, 3), carry(0, 1, 2), compare(2, 0), compare(0, 2),
            next(2, true), place(2), greatest(2, 3), greatest(0, 2));
        Line full = keepsAfterAll(FULL_MIXED, NONE, behind(0), behind(499), several(0, 2),
            several(499, 64), look(2), at(1000), carry(499, 0, 500));
        full = keepsAfterAll(full, NO, remove(0), remove(1000), remove(-1));
        keepsAfterAll(full, THROWN, behind(1000), behind(-1), several(-1, 2), clear(0, 1000),
            carry(0, 499, 1000), compare(-1, 0), greatest(0, 1000));
    }

    /** Each call on the line that has already refused those ahead of it. */
    private static Line keepsAfterAll(Line line, int want, Call... calls) {
        Line after = line;
        for (Call call : calls) {
            keeps(after, call, want);
            after = after.with(call, line.order());
        }
        return after;
    }

    private static void severalExceptionsAreOne() {
        refuses(MIXED, clear(2, 7), clear(-1, 1000), compare(2, 7), compare(1000, -1),
            greatest(2, 7), greatest(MAX, MIN), carry(2, 7, 0), carry(2, 0, 7), carry(0, 2, 7),
            carry(2, 7, 8), carry(-1, 1000, MIN), several(2, 65), several(-1, -1));
    }

    // Promise 1

    private static void newObjectHas0Alone() {
        dueWhole("new OrderLine()", ALONE);
        OrderLine other = new OrderLine();
        FULL.made();
        if (other.look(0) != 1) {
            wrong("look(0), another object being full,", other.look(0), 1);
        }
    }

    // Promise 2

    private static void behindWhenThereAre1000() {
        for (int stamp : new int[] {0, 1, 499, 500, 999}) {
            keeps(FULL, behind(stamp), NONE);
            keeps(FULL_MIXED, behind(stamp), NONE);
        }
        makes(upTo(999), behind(0), 999, join(range(0, 1), range(999, 1000), range(1, 999)));
        makes(upTo(998), behind(997), 998, range(0, 999));
        int[] order = without(FULL_MIXED.order(), 1);
        makes(FULL_MIXED.with(remove(1), order), behind(499), 1, join(order, range(1, 2)));
    }

    private static void behindNoSuchStamp() {
        for (Line line : List.of(ALONE, MIXED, FULL)) {
            for (int stamp : missing(line)) {
                refuses(line, behind(stamp));
            }
        }
    }

    // Promise 3

    private static void several2To64() {
        makes(ALONE, several(0, 2), 1, 0, 1, 2);
        makes(ALONE, several(0, 3), 1, 0, 1, 2, 3);
        makes(ALONE, several(0, 63), 1, range(0, 64));
        makes(ALONE, several(0, 64), 1, range(0, 65));
        makes(MIXED, several(3, 2), 2, 0, 4, 5, 6, 1, 3, 2, 7);
        makes(MIXED, several(5, 64), 2,
            join(new int[] {0, 4, 5, 2}, range(7, 70), new int[] {6, 1, 3}));
    }

    private static void severalOfNoSuchN() {
        for (int n : new int[] {1, 0, -1, -2, -64, 65, 66, 128, 999, 1000, 65538, MIN, MIN + 2, MAX}) {
            keeps(ALONE, several(0, n), NONE);
            keeps(MIXED, several(5, n), NONE);
            keeps(FULL, several(999, n), NONE);
        }
        keeps(upTo(999), several(0, 1), NONE);
    }

    private static void severalWouldBeMoreThan1000() {
        keeps(FULL, several(0, 2), NONE);
        keeps(FULL, several(999, 64), NONE);
        keeps(upTo(999), several(998, 2), NONE);
        makes(upTo(998), several(997, 2), 998, range(0, 1000));
        keeps(upTo(998), several(997, 3), NONE);
        makes(upTo(937), several(936, 63), 937, range(0, 1000));
        keeps(upTo(937), several(936, 64), NONE);
        makes(upTo(936), several(935, 64), 936, range(0, 1000));
        makes(upTo(936), several(0, 64), 936,
            join(range(0, 1), range(936, 1000), range(1, 936)));
    }

    private static void severalLeastNumberFirst() {
        Line gaps = upTo(7).with(remove(5), new int[] {0, 1, 2, 3, 4, 6});
        gaps = gaps.with(remove(2), new int[] {0, 1, 3, 4, 6});
        makes(gaps, several(3, 2), 2, 0, 1, 3, 2, 5, 4, 6);
        makes(gaps, several(6, 4), 2, 0, 1, 3, 4, 6, 2, 5, 7, 8);
        int[] order = without(without(FULL_MIXED.order(), 0), 999);
        Line nearFull = FULL_MIXED.with(remove(999), without(FULL_MIXED.order(), 999));
        nearFull = nearFull.with(remove(1), join(range(0, 1), without(order, 1)));
        makes(nearFull, several(0, 2), 1, join(new int[] {0, 1, 999}, without(order, 1)));
    }

    private static void severalNoSuchStamp() {
        for (Line line : List.of(ALONE, MIXED, FULL)) {
            for (int stamp : missing(line)) {
                refuses(line, several(stamp, 2), several(stamp, 64), several(stamp, 1),
                    several(stamp, 65), several(stamp, -1), several(stamp, MAX));
            }
        }
    }

    // Promise 4

    private static void removeOfNoSuchStamp() {
        for (Line line : List.of(ALONE, MIXED, FULL)) {
            for (int stamp : missing(line)) {
                keeps(line, remove(stamp), NO);
            }
        }
        keeps(MIXED.with(remove(5), new int[] {0, 4, 6, 1, 3}), remove(5), NO);
        makes(MIXED, remove(3), YES, 0, 4, 5, 6, 1);
        makes(MIXED, remove(4), YES, 0, 5, 6, 1, 3);
        makes(FULL, remove(999), YES, range(0, 999));
        makes(FULL, remove(1), YES, without(FULL.order(), 1));
    }

    private static void removeOfStamp0() {
        for (Line line : List.of(ALONE, MIXED, FULL, FULL_MIXED)) {
            keeps(line, remove(0), NO);
        }
        makes(upTo(2), remove(1), YES, 0);
    }

    // Promise 5

    private static void clearIfFirstIsEarlier() {
        makes(MIXED, clear(0, 3), 4, 0, 3);
        makes(MIXED, clear(4, 1), 2, 0, 4, 1, 3);
        makes(MIXED, clear(6, 3), 1, 0, 4, 5, 6, 3);
        makes(FULL, clear(0, 999), 998, 0, 999);
        keeps(MIXED, clear(3, 0), 0);
        keeps(MIXED, clear(1, 4), 0);
        keeps(MIXED, clear(3, 6), 0);
        keeps(FULL, clear(999, 0), 0);
        keeps(MIXED, clear(5, 4), 0);
        keeps(MIXED, clear(4, 5), 0);
        keeps(MIXED, clear(0, 4), 0);
        for (int stamp : MIXED.order()) {
            keeps(MIXED, clear(stamp, stamp), 0);
        }
        keeps(ALONE, clear(0, 0), 0);
    }

    private static void clearNoSuchStamp() {
        for (Line line : List.of(ALONE, MIXED, FULL)) {
            for (int stamp : missing(line)) {
                refuses(line, clear(stamp, line.last()), clear(0, stamp), clear(stamp, 0),
                    clear(line.last(), stamp), clear(stamp, stamp));
            }
        }
    }

    // Promise 6

    private static void carryIfFirstIsNotEarlier() {
        for (int behind : MIXED.order()) {
            keeps(MIXED, carry(3, 0, behind), NONE);
            keeps(MIXED, carry(1, 4, behind), NONE);
            keeps(MIXED, carry(5, 4, behind), NONE);
            keeps(MIXED, carry(6, 6, behind), NONE);
            keeps(MIXED, carry(0, 0, behind), NONE);
            keeps(MIXED, carry(3, 3, behind), NONE);
            keeps(MIXED, carry(4, 5, behind), 0);
        }
        keeps(ALONE, carry(0, 0, 0), NONE);
        keeps(FULL, carry(999, 0, 500), NONE);
        keeps(FULL_MIXED, carry(1, 500, 0), NONE);
    }

    private static void carryIfThirdIsBetween() {
        keeps(MIXED, carry(4, 1, 5), NONE);
        keeps(MIXED, carry(4, 1, 6), NONE);
        keeps(MIXED, carry(4, 6, 5), NONE);
        for (int behind : new int[] {4, 5, 6, 1}) {
            keeps(MIXED, carry(0, 3, behind), NONE);
        }
        keeps(FULL, carry(0, 999, 1), NONE);
        keeps(FULL, carry(0, 999, 998), NONE);
    }

    private static void carryInItsOrder() {
        makes(MIXED, carry(4, 1, 0), 2, 0, 5, 6, 4, 1, 3);
        keeps(MIXED, carry(4, 1, 4), 2);
        makes(MIXED, carry(4, 1, 1), 2, 0, 4, 1, 5, 6, 3);
        makes(MIXED, carry(4, 1, 3), 2, 0, 4, 1, 3, 5, 6);
        keeps(MIXED, carry(0, 3, 0), 4);
        makes(MIXED, carry(0, 3, 3), 4, 0, 3, 4, 5, 6, 1);
        makes(FULL, carry(0, 999, 999), 998, join(new int[] {0, 999}, range(1, 999)));
        makes(FULL, carry(499, 999, 0), 499,
            join(range(0, 1), range(500, 999), range(1, 500), range(999, 1000)));
    }

    private static void carryNoSuchStamp() {
        for (Line line : List.of(ALONE, MIXED, FULL)) {
            int last = line.last();
            for (int stamp : missing(line)) {
                refuses(line, carry(stamp, last, 0), carry(0, stamp, last), carry(0, last, stamp),
                    carry(last, stamp, 0), carry(stamp, 0, last), carry(last, 0, stamp),
                    carry(0, 0, stamp), carry(stamp, stamp, 0), carry(stamp, 0, stamp),
                    carry(0, stamp, stamp), carry(stamp, stamp, stamp));
            }
        }
    }

    // Promise 7

    private static void compareOfTheSame() {
        keeps(ALONE, compare(0, 0), 0);
        int[] order = MIXED.order();
        for (int i = 0; i < order.length; i++) {
            for (int k = 0; k < order.length; k++) {
                keeps(MIXED, compare(order[i], order[k]), Integer.compare(i, k));
            }
        }
        keeps(FULL, compare(999, 999), 0);
        keeps(FULL, compare(998, 999), -1);
        keeps(FULL, compare(999, 998), 1);
        keeps(FULL_MIXED, compare(0, 499), -1);
        keeps(FULL_MIXED, compare(1, 999), 1);
    }

    private static void compareNoSuchStamp() {
        for (Line line : List.of(ALONE, MIXED, FULL)) {
            for (int stamp : missing(line)) {
                refuses(line, compare(stamp, 0), compare(0, stamp), compare(stamp, stamp),
                    compare(stamp, line.last()), compare(line.last(), stamp));
            }
        }
    }

    // Promise 8

    private static void nextIfThereIsNone() {
        keeps(ALONE, next(0, true), NONE);
        for (Line line : List.of(ALONE, MIXED, FULL, FULL_MIXED)) {
            keeps(line, next(0, false), NONE);
            keeps(line, next(line.last(), true), NONE);
        }
        keeps(MIXED, next(0, true), 4);
        keeps(MIXED, next(4, false), 0);
        keeps(MIXED, next(1, true), 3);
        keeps(MIXED, next(3, false), 1);
        Line shorter = MIXED.with(remove(3), new int[] {0, 4, 5, 6, 1});
        keeps(shorter, next(1, true), NONE);
        keeps(MIXED.with(wipe(), new int[] {0}), next(0, true), NONE);
    }

    private static void nextNoSuchStamp() {
        for (Line line : List.of(ALONE, MIXED, FULL)) {
            for (int stamp : missing(line)) {
                refuses(line, next(stamp, true), next(stamp, false));
            }
        }
    }

    // Promise 9

    private static void hasWhatIsThere() {
        for (Line line : List.of(ALONE, MIXED, FULL, FULL_MIXED)) {
            keeps(line, has(0), YES);
            keeps(line, has(line.last()), YES);
            for (int stamp : missing(line)) {
                keeps(line, has(stamp), NO);
            }
        }
        keeps(FULL, has(999), YES);
        keeps(MIXED.with(behind(0), new int[] {0, 2, 4, 5, 6, 1, 3}), has(2), YES);
    }

    // Promise 10

    private static void placeIsHowManyAreAhead() {
        for (Line line : List.of(ALONE, MIXED, FULL, FULL_MIXED)) {
            keeps(line, place(0), 0);
            keeps(line, place(line.last()), line.order().length - 1);
        }
        keeps(MIXED, place(4), 1);
        keeps(MIXED, place(6), 3);
    }

    private static void placeNoSuchStamp() {
        for (Line line : List.of(ALONE, MIXED, FULL)) {
            for (int stamp : missing(line)) {
                refuses(line, place(stamp));
            }
        }
    }

    // Promise 11

    private static void atIfThereIsNone() {
        for (Line line : List.of(ALONE, MIXED, FULL, FULL_MIXED)) {
            int size = line.order().length;
            keeps(line, at(0), 0);
            keeps(line, at(size - 1), line.last());
            for (int place : new int[] {-1, -2, size, size + 1, 1000, 1001, 65536, MIN, MAX}) {
                keeps(line, at(place), NONE);
            }
        }
        keeps(MIXED.with(remove(4), new int[] {0, 5, 6, 1, 3}), at(5), NONE);
        keeps(MIXED.with(clear(0, 3), new int[] {0, 3}), at(2), NONE);
        keeps(MIXED.with(wipe(), new int[] {0}), at(1), NONE);
    }

    // Promise 12

    private static void greatestWithBoth() {
        keeps(MIXED, greatest(6, 3), 6);
        keeps(MIXED, greatest(0, 6), 6);
        keeps(MIXED, greatest(0, 3), 6);
        keeps(MIXED, greatest(0, 5), 5);
        keeps(MIXED, greatest(1, 3), 3);
        keeps(MIXED, greatest(0, 4), 4);
        for (int stamp : MIXED.order()) {
            keeps(MIXED, greatest(stamp, stamp), stamp);
        }
        keeps(ALONE, greatest(0, 0), 0);
        keeps(FULL, greatest(0, 999), 999);
        keeps(FULL, greatest(0, 998), 998);
        keeps(FULL_MIXED, greatest(999, 499), 999);
        keeps(FULL_MIXED, greatest(1, 499), 499);
    }

    private static void greatestIfFirstIsLater() {
        keeps(MIXED, greatest(3, 0), NONE);
        keeps(MIXED, greatest(1, 6), NONE);
        keeps(MIXED, greatest(5, 4), NONE);
        keeps(MIXED, greatest(4, 0), NONE);
        keeps(FULL, greatest(999, 0), NONE);
        keeps(FULL_MIXED, greatest(1, 500), NONE);
    }

    private static void greatestNoSuchStamp() {
        for (Line line : List.of(ALONE, MIXED, FULL)) {
            for (int stamp : missing(line)) {
                refuses(line, greatest(stamp, 0), greatest(0, stamp), greatest(stamp, stamp),
                    greatest(stamp, line.last()), greatest(line.last(), stamp));
            }
        }
    }

    // Promise 13

    private static void wipeLeaves0() {
        for (Line line : List.of(ALONE, upTo(2), MIXED, FULL, FULL_MIXED)) {
            makes(line, wipe(), DONE, 0);
            Line wiped = line.with(wipe(), new int[] {0});
            keeps(wiped, wipe(), DONE);
            makes(wiped, several(0, 64), 1, range(0, 65));
        }
    }

    // Promise 14

    private static void lookWhat0And1Tell() {
        for (Line line : List.of(ALONE, upTo(2), MIXED, upTo(999), FULL, FULL_MIXED)) {
            keeps(line, look(0), line.order().length);
            keeps(line, look(1), line.last());
        }
        keeps(MIXED.with(remove(3), new int[] {0, 4, 5, 6, 1}), look(1), 1);
    }

    private static void lookIfAllHaveOne() {
        keeps(FULL, look(2), NONE);
        keeps(FULL_MIXED, look(2), NONE);
        keeps(upTo(999), look(2), 999);
        keeps(FULL.with(remove(1), without(FULL.order(), 1)), look(2), 1);
        keeps(FULL.with(remove(998), without(FULL.order(), 998)), look(2), 998);
        keeps(MIXED, look(2), 2);
        keeps(ALONE, look(2), 1);
    }

    private static void lookAtAnyOther() {
        for (Line line : List.of(ALONE, MIXED, FULL)) {
            for (int which : new int[] {-1, -2, 3, 4, 256, 65536, MIN, MAX}) {
                keeps(line, look(which), NONE);
            }
        }
    }

    private static void test(String where, String words, Runnable body) {
        sentence = where + ", '" + words + "'";
        holds = true;
        body.run();
        sentences++;
        if (!holds) {
            broken++;
        }
    }

    private static void terms() {
        test("What it is", "at most 512 calls", BoundariesTest::usedFor512Calls);
        test("Terms", "STAMPS have NUMBERS 0 .. 999", BoundariesTest::numbersAre0To999);
        test("Terms", "Stamp 0 is always there, and the first of the LINE",
            BoundariesTest::stamp0IsAlwaysFirst);
        test("Terms", "A new one gets the least NUMBER that none has",
            BoundariesTest::newOneGetsLeastNumber);
        test("Terms", "What answers false, NONE or throws changes nothing",
            BoundariesTest::refusedChangesNothing);
        test("Terms", "Of several exceptions the first one listed is thrown",
            BoundariesTest::severalExceptionsAreOne);
    }

    private static void promises1To4() {
        test("Promise 1", "Stamp 0 alone", BoundariesTest::newObjectHas0Alone);
        test("Promise 2", "NONE if there are 1000", BoundariesTest::behindWhenThereAre1000);
        test("Promise 2", "STAMP", BoundariesTest::behindNoSuchStamp);
        test("Promise 3", "2 .. 64", BoundariesTest::several2To64);
        test("Promise 3", "NONE if n is none", BoundariesTest::severalOfNoSuchN);
        test("Promise 3", "or there would be more than 1000",
            BoundariesTest::severalWouldBeMoreThan1000);
        test("Promise 3", "the one with the least NUMBER first",
            BoundariesTest::severalLeastNumberFirst);
        test("Promise 3", "STAMP", BoundariesTest::severalNoSuchStamp);
        test("Promise 4", "false if there is none such", BoundariesTest::removeOfNoSuchStamp);
        test("Promise 4", "or it is stamp 0", BoundariesTest::removeOfStamp0);
    }

    private static void promises5To8() {
        test("Promise 5", "if the first one is the earlier one",
            BoundariesTest::clearIfFirstIsEarlier);
        test("Promise 5", "STAMP", BoundariesTest::clearNoSuchStamp);
        test("Promise 6", "NONE if the first is not the earlier one",
            BoundariesTest::carryIfFirstIsNotEarlier);
        test("Promise 6", "or the third one is between them",
            BoundariesTest::carryIfThirdIsBetween);
        test("Promise 6", "in its order", BoundariesTest::carryInItsOrder);
        test("Promise 6", "STAMP", BoundariesTest::carryNoSuchStamp);
        test("Promise 7", "0 if both are the same", BoundariesTest::compareOfTheSame);
        test("Promise 7", "STAMP", BoundariesTest::compareNoSuchStamp);
        test("Promise 8", "NONE if there is none", BoundariesTest::nextIfThereIsNone);
        test("Promise 8", "STAMP", BoundariesTest::nextNoSuchStamp);
    }

    private static void promises9To14() {
        test("Promise 9", "Whether a stamp is there", BoundariesTest::hasWhatIsThere);
        test("Promise 10", "How many are ahead of a stamp", BoundariesTest::placeIsHowManyAreAhead);
        test("Promise 10", "STAMP", BoundariesTest::placeNoSuchStamp);
        test("Promise 11", "NONE if there is none", BoundariesTest::atIfThereIsNone);
        test("Promise 12", "both with them", BoundariesTest::greatestWithBoth);
        test("Promise 12", "NONE if the first is later", BoundariesTest::greatestIfFirstIsLater);
        test("Promise 12", "STAMP", BoundariesTest::greatestNoSuchStamp);
        test("Promise 13", "All but stamp 0 go", BoundariesTest::wipeLeaves0);
        test("Promise 14", "0: stamps, 1: the last one of the LINE",
            BoundariesTest::lookWhat0And1Tell);
        test("Promise 14", "NONE if all have one", BoundariesTest::lookIfAllHaveOne);
        test("Promise 14", "NONE for any other which", BoundariesTest::lookAtAnyOther);
    }

    public static void main(String[] args) {
        terms();
        promises1To4();
        promises5To8();
        promises9To14();
        System.out.println(broken == 0 ? "all " + sentences + " sentences hold"
            : broken + " of " + sentences + " sentences are broken");
        if (broken != 0) {
            System.exit(1);
        }
    }
}
