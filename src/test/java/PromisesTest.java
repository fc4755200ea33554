/** Each promise of the document by hand: ordinary calls, the edges it names, and wrong inputs. */
public final class PromisesTest {
    private static final int NONE = OrderLine.NONE;
    /** Stands for a thrown IllegalArgumentException among the answers. */
    private static final int THROWN = -1000;
    private static final int[] NO_STAMPS = {
        -1, -2, 7, 999, 1000, 1001, 65536, Integer.MIN_VALUE, Integer.MAX_VALUE
    };

    private static int wrong = 0;

    private interface Call {
        int answer();
    }

    private static void due(String what, int want, Call call) {
        int got;
        try {
            got = call.answer();
        } catch (RuntimeException e) {
            boolean right = e.getClass() == IllegalArgumentException.class;
            got = right ? THROWN : THROWN - 1;
        }
        if (got != want) {
            wrong++;
            System.out.println(what + ": answered " + got + ", due is " + want);
        }
    }

    private static void due(String what, boolean want, boolean got) {
        due(what, want ? 1 : 0, () -> got ? 1 : 0);
    }

    /** The whole state, by every method that tells some of it; seven calls a stamp and five more. */
    private static void dueLine(String what, OrderLine x, int... want) {
        int n = want.length;
        due(what + ": look(0)", n, () -> x.look(0));
        due(what + ": look(1)", want[n - 1], () -> x.look(1));
        due(what + ": look(2)", leastMissing(want), () -> x.look(2));
        due(what + ": at(-1)", NONE, () -> x.at(-1));
        due(what + ": at(" + n + ")", NONE, () -> x.at(n));
        for (int i = 0; i < n; i++) {
            int place = i;
            int stamp = want[i];
            int ahead = i == 0 ? NONE : want[i - 1];
            int after = i == n - 1 ? NONE : want[i + 1];
            due(what + ": at(" + i + ")", stamp, () -> x.at(place));
            due(what + ": has(" + stamp + ")", true, x.has(stamp));
            due(what + ": place(" + stamp + ")", place, () -> x.place(stamp));
            due(what + ": next(" + stamp + ", true)", after, () -> x.next(stamp, true));
            due(what + ": next(" + stamp + ", false)", ahead, () -> x.next(stamp, false));
            due(what + ": compare(0, " + stamp + ")", i == 0 ? 0 : -1, () -> x.compare(0, stamp));
            due(what + ": compare(" + stamp + ", 0)", i == 0 ? 0 : 1, () -> x.compare(stamp, 0));
        }
    }

    private static int leastMissing(int[] stamps) {
        for (int number = 0; ; number++) {
            boolean found = false;
            for (int stamp : stamps) {
                found |= stamp == number;
            }
            if (!found) {
                return number;
            }
        }
    }

    /** 0 1 2 3 4 5 6 */
    private static OrderLine seven() {
        OrderLine x = new OrderLine();
        x.several(0, 6);
        return x;
    }

    /** All NUMBERS in their order, by 16 calls. */
    private static OrderLine full() {
        OrderLine x = new OrderLine();
        for (int i = 0; i < 15; i++) {
            x.several(i * 64, 64);
        }
        x.several(960, 39);
        return x;
    }

    private static void newObject() {
        dueLine("new", new OrderLine(), 0);
        due("NONE", -1, () -> OrderLine.NONE);
        OrderLine one = new OrderLine();
        OrderLine other = new OrderLine();
        one.behind(0);
        dueLine("another object", other, 0);
    }

    private static void behind() {
        OrderLine x = new OrderLine();
        due("behind the first", 1, () -> x.behind(0));
        due("behind the first again", 2, () -> x.behind(0));
        due("behind the last", 3, () -> x.behind(1));
        due("behind one in the middle", 4, () -> x.behind(2));
        dueLine("behind", x, 0, 2, 4, 1, 3);
        x.remove(4);
        x.remove(2);
        due("the least free number", 2, () -> x.behind(3));
        due("the next free number", 4, () -> x.behind(1));
        due("no free number below", 5, () -> x.behind(0));
        dueLine("behind after remove", x, 0, 5, 1, 4, 3, 2);
    }

    private static void behindWhenFull() {
        OrderLine x = full();
        x.remove(999);
        due("look(2), only the last number", 999, () -> x.look(2));
        due("the last number", 999, () -> x.behind(500));
        due("look(0) when full", 1000, () -> x.look(0));
        due("look(1) when full", 998, () -> x.look(1));
        due("look(2) when full", NONE, () -> x.look(2));
        due("behind when full", NONE, () -> x.behind(0));
        due("behind the last when full", NONE, () -> x.behind(998));
        due("behind(1000) when full", THROWN, () -> x.behind(1000));
        due("behind(-1) when full", THROWN, () -> x.behind(-1));
        due("nothing has moved, 1", 1, () -> x.at(1));
        due("nothing has moved, 501", 999, () -> x.at(501));
        due("nothing has moved, 999", 998, () -> x.at(999));
        due("at(1000) when full", NONE, () -> x.at(1000));
        x.remove(7);
        due("look(2) after remove", 7, () -> x.look(2));
        due("behind takes the one gap", 7, () -> x.behind(998));
        due("full again", NONE, () -> x.behind(7));
        due("the last one", 7, () -> x.look(1));
    }

    private static void several() {
        OrderLine x = new OrderLine();
        due("several, fewest", 1, () -> x.several(0, 2));
        due("several in the middle", 3, () -> x.several(1, 3));
        dueLine("several", x, 0, 1, 3, 4, 5, 2);
        x.remove(1);
        x.remove(4);
        due("several into gaps", 1, () -> x.several(2, 4));
        dueLine("several into gaps", x, 0, 3, 5, 2, 1, 4, 6, 7);
        for (int n : new int[] {1, 0, -1, -64, 65, 66, Integer.MIN_VALUE, Integer.MAX_VALUE}) {
            due("several(0, " + n + ")", NONE, () -> x.several(0, n));
            due("several(8, " + n + ")", THROWN, () -> x.several(8, n));
        }
        dueLine("several refused", x, 0, 3, 5, 2, 1, 4, 6, 7);
        due("several, most", 8, () -> x.several(0, 64));
        due("64 more", 72, () -> x.look(0));
        due("the last of 64", 71, () -> x.at(64));
        due("behind the last of 64", 3, () -> x.at(65));
    }

    private static void severalNearFull() {
        OrderLine x = full();
        due("several when full", NONE, () -> x.several(0, 2));
        x.remove(10);
        due("several, room for one", NONE, () -> x.several(0, 2));
        x.remove(900);
        due("several, one too many", NONE, () -> x.several(0, 3));
        due("nothing is added", 998, () -> x.look(0));
        due("several fills it", 10, () -> x.several(999, 2));
        due("full", 1000, () -> x.look(0));
        due("last but one", 10, () -> x.at(998));
        due("last", 900, () -> x.at(999));
        due("64 go, for 10 is no more among them", 64, () -> x.clear(0, 66));
        due("64 fill it", 1, () -> x.several(900, 64));
        due("full again", NONE, () -> x.look(2));
        due("the last of 64", 65, () -> x.look(1));
    }

    private static void remove() {
        OrderLine x = seven();
        due("remove(0)", false, x.remove(0));
        for (int stamp : NO_STAMPS) {
            due("remove(" + stamp + ")", false, x.remove(stamp));
        }
        dueLine("remove refused", x, 0, 1, 2, 3, 4, 5, 6);
        due("remove(3)", true, x.remove(3));
        due("remove(3) again", false, x.remove(3));
        due("remove the last", true, x.remove(6));
        due("remove the second", true, x.remove(1));
        due("has(3)", false, x.has(3));
        due("place(3)", THROWN, () -> x.place(3));
        dueLine("remove", x, 0, 2, 4, 5);
        OrderLine alone = new OrderLine();
        due("remove(0) alone", false, alone.remove(0));
        dueLine("remove(0) alone", alone, 0);
    }

    private static void clear() {
        OrderLine x = seven();
        due("clear, later first", 0, () -> x.clear(5, 2));
        due("clear, the same", 0, () -> x.clear(3, 3));
        due("clear, neighbours", 0, () -> x.clear(3, 4));
        due("clear, neighbours turned", 0, () -> x.clear(4, 3));
        dueLine("clear of none", x, 0, 1, 2, 3, 4, 5, 6);
        due("clear one", 1, () -> x.clear(2, 4));
        dueLine("clear one", x, 0, 1, 2, 4, 5, 6);
        due("the number is free again", 3, () -> x.behind(6));
        dueLine("behind after clear", x, 0, 1, 2, 4, 5, 6, 3);
    }

    private static void clearMore() {
        OrderLine x = seven();
        for (int stamp : NO_STAMPS) {
            due("clear(0, " + stamp + ")", THROWN, () -> x.clear(0, stamp));
            due("clear(" + stamp + ", 6)", THROWN, () -> x.clear(stamp, 6));
            due("clear(" + stamp + ", same)", THROWN, () -> x.clear(stamp, stamp));
        }
        dueLine("clear refused", x, 0, 1, 2, 3, 4, 5, 6);
        due("clear(1, 5)", 3, () -> x.clear(1, 5));
        dueLine("clear(1, 5)", x, 0, 1, 5, 6);
        due("clear(0, 6)", 2, () -> x.clear(0, 6));
        dueLine("clear(0, 6)", x, 0, 6);
        due("a number that has gone", THROWN, () -> x.clear(0, 5));
        due("new ones behind", 1, () -> x.several(6, 3));
        due("clear(6, 3), the earlier one has the greater number", 2, () -> x.clear(6, 3));
        dueLine("clear(6, 3)", x, 0, 6, 3);
        OrderLine all = full();
        due("clear a full line", 998, () -> all.clear(0, 999));
        dueLine("clear a full line", all, 0, 999);
    }

    private static void carry() {
        OrderLine x = seven();
        due("carry back", 3, () -> x.carry(1, 5, 6));
        dueLine("carry back", x, 0, 1, 5, 6, 2, 3, 4);
        due("carry ahead", 2, () -> x.carry(6, 4, 0));
        dueLine("carry ahead", x, 0, 2, 3, 1, 5, 6, 4);
        due("carry behind the second", 2, () -> x.carry(2, 5, 5));
        dueLine("carry behind the second", x, 0, 2, 5, 3, 1, 6, 4);
        due("carry behind the first", 3, () -> x.carry(2, 6, 2));
        dueLine("carry behind the first", x, 0, 2, 5, 3, 1, 6, 4);
        due("carry of none", 0, () -> x.carry(5, 3, 4));
        due("carry of none behind the second", 0, () -> x.carry(5, 3, 3));
        due("carry of none behind the first", 0, () -> x.carry(5, 3, 5));
        dueLine("carry of none", x, 0, 2, 5, 3, 1, 6, 4);
        due("carry all behind the last", 5, () -> x.carry(0, 4, 4));
        dueLine("carry all behind the last", x, 0, 4, 2, 5, 3, 1, 6);
    }

    private static void carryRefused() {
        OrderLine x = seven();
        due("carry, the same", NONE, () -> x.carry(3, 3, 0));
        due("carry, all the same", NONE, () -> x.carry(3, 3, 3));
        due("carry, later first", NONE, () -> x.carry(5, 2, 0));
        due("carry, later first, third between", NONE, () -> x.carry(5, 2, 3));
        due("carry, neighbours turned", NONE, () -> x.carry(4, 3, 0));
        due("carry, third right behind the first", NONE, () -> x.carry(1, 5, 2));
        due("carry, third right ahead of the second", NONE, () -> x.carry(1, 5, 4));
        for (int stamp : NO_STAMPS) {
            due("carry(" + stamp + ", 5, 6)", THROWN, () -> x.carry(stamp, 5, 6));
            due("carry(1, " + stamp + ", 6)", THROWN, () -> x.carry(1, stamp, 6));
            due("carry(1, 5, " + stamp + ")", THROWN, () -> x.carry(1, 5, stamp));
            due("carry(5, 1, " + stamp + ")", THROWN, () -> x.carry(5, 1, stamp));
        }
        dueLine("carry refused", x, 0, 1, 2, 3, 4, 5, 6);
    }

    private static void carryWhenFull() {
        OrderLine x = full();
        due("carry ahead when full", 499, () -> x.carry(499, 999, 0));
        due("at(1)", 500, () -> x.at(1));
        due("at(499)", 998, () -> x.at(499));
        due("at(500)", 1, () -> x.at(500));
        due("at(998)", 499, () -> x.at(998));
        due("at(999)", 999, () -> x.at(999));
        due("carry back when full", 998, () -> x.carry(0, 999, 999));
        due("at(1) again", 999, () -> x.at(1));
        due("at(2) again", 500, () -> x.at(2));
        due("the last one", 499, () -> x.look(1));
        due("how many", 1000, () -> x.look(0));
    }

    private static void compare() {
        OrderLine x = seven();
        x.carry(0, 4, 6);
        dueLine("before compare", x, 0, 4, 5, 6, 1, 2, 3);
        due("compare(4, 1)", -1, () -> x.compare(4, 1));
        due("compare(1, 4)", 1, () -> x.compare(1, 4));
        due("compare(4, 3)", -1, () -> x.compare(4, 3));
        due("compare(6, 1)", -1, () -> x.compare(6, 1));
        due("compare(1, 6)", 1, () -> x.compare(1, 6));
        due("compare(2, 2)", 0, () -> x.compare(2, 2));
        for (int stamp : NO_STAMPS) {
            due("compare(0, " + stamp + ")", THROWN, () -> x.compare(0, stamp));
            due("compare(" + stamp + ", 0)", THROWN, () -> x.compare(stamp, 0));
            due("compare(" + stamp + ", same)", THROWN, () -> x.compare(stamp, stamp));
        }
    }

    private static void nextAndHasAndPlace() {
        OrderLine x = seven();
        x.carry(2, 6, 0);
        dueLine("before next", x, 0, 3, 4, 5, 1, 2, 6);
        due("next behind the last", NONE, () -> x.next(6, true));
        due("next ahead of the first", NONE, () -> x.next(0, false));
        for (int stamp : NO_STAMPS) {
            due("next(" + stamp + ", true)", THROWN, () -> x.next(stamp, true));
            due("next(" + stamp + ", false)", THROWN, () -> x.next(stamp, false));
            due("has(" + stamp + ")", false, x.has(stamp));
            due("place(" + stamp + ")", THROWN, () -> x.place(stamp));
        }
        OrderLine all = full();
        due("has(999) when full", true, all.has(999));
        due("has(1000) when full", false, all.has(1000));
        due("has(-1) when full", false, all.has(-1));
        due("place(999) when full", 999, () -> all.place(999));
        due("next(999, true) when full", NONE, () -> all.next(999, true));
        due("next(999, false) when full", 998, () -> all.next(999, false));
    }

    private static void at() {
        OrderLine x = seven();
        x.remove(6);
        due("at the last place", 5, () -> x.at(5));
        due("at a place that has gone", NONE, () -> x.at(6));
        for (int place : NO_STAMPS) {
            due("at(" + place + ")", NONE, () -> x.at(place));
        }
    }

    private static void greatest() {
        OrderLine x = seven();
        x.carry(0, 4, 6);
        dueLine("before greatest", x, 0, 4, 5, 6, 1, 2, 3);
        due("greatest inside", 6, () -> x.greatest(0, 3));
        due("greatest is the second", 6, () -> x.greatest(4, 6));
        due("greatest is the first", 6, () -> x.greatest(6, 2));
        due("greatest without its neighbour ahead", 3, () -> x.greatest(1, 3));
        due("greatest without its neighbour behind", 5, () -> x.greatest(0, 5));
        due("greatest of one", 1, () -> x.greatest(1, 1));
        due("greatest of stamp 0", 0, () -> x.greatest(0, 0));
        due("greatest, later first", NONE, () -> x.greatest(1, 6));
        due("greatest, later first, far", NONE, () -> x.greatest(3, 0));
        for (int stamp : NO_STAMPS) {
            due("greatest(0, " + stamp + ")", THROWN, () -> x.greatest(0, stamp));
            due("greatest(" + stamp + ", 0)", THROWN, () -> x.greatest(stamp, 0));
            due("greatest(" + stamp + ", same)", THROWN, () -> x.greatest(stamp, stamp));
        }
        OrderLine all = full();
        due("greatest when full", 999, () -> all.greatest(0, 999));
    }

    private static void wipe() {
        OrderLine x = seven();
        x.wipe();
        dueLine("wipe", x, 0);
        due("has(1) after wipe", false, x.has(1));
        due("has(6) after wipe", false, x.has(6));
        x.wipe();
        dueLine("wipe of one alone", x, 0);
        due("behind after wipe", 1, () -> x.behind(0));
        dueLine("behind after wipe", x, 0, 1);
        OrderLine all = full();
        all.wipe();
        dueLine("wipe when full", all, 0);
        due("has(999) after wipe", false, all.has(999));
    }

    private static void look() {
        OrderLine x = seven();
        for (int which : new int[] {-1, 3, 4, Integer.MIN_VALUE, Integer.MAX_VALUE}) {
            due("look(" + which + ")", NONE, () -> x.look(which));
        }
        x.carry(0, 6, 6);
        due("the last one by place", 5, () -> x.look(1));
        x.remove(4);
        x.remove(2);
        due("how many", 5, () -> x.look(0));
        due("the least of two gaps", 2, () -> x.look(2));
    }

    /** The example of README.md, so that it stays true. */
    private static void example() {
        OrderLine line = new OrderLine();
        int a = line.behind(0);
        int b = line.behind(0);
        due("example: a", 1, () -> a);
        due("example: b", 2, () -> b);
        dueLine("example: behind", line, 0, 2, 1);
        due("example: several", 3, () -> line.several(b, 3));
        dueLine("example: several", line, 0, 2, 3, 4, 5, 1);
        due("example: compare", -1, () -> line.compare(b, a));
        due("example: carry", 3, () -> line.carry(b, a, a));
        dueLine("example: carry", line, 0, 2, 1, 3, 4, 5);
        due("example: remove", true, line.remove(4));
        dueLine("example: remove", line, 0, 2, 1, 3, 5);
        due("example: look", 4, () -> line.look(2));
        due("example: greatest", 3, () -> line.greatest(b, 3));
        due("example: clear", 2, () -> line.clear(b, 5));
        dueLine("example: clear", line, 0, 2, 5);
        due("example: next", 5, () -> line.next(b, true));
        due("example: next ahead of the first", NONE, () -> line.next(0, false));
        due("example: place", THROWN, () -> line.place(3));
        line.wipe();
        dueLine("example: wipe", line, 0);
    }

    public static void main(String[] args) {
        newObject();
        behind();
        behindWhenFull();
        several();
        severalNearFull();
        remove();
        clear();
        clearMore();
        carry();
        carryRefused();
        carryWhenFull();
        compare();
        nextAndHasAndPlace();
        at();
        greatest();
        wipe();
        look();
        example();
        System.out.println(wrong == 0 ? "all answers are as due" : wrong + " answers are not as due");
        if (wrong != 0) {
            System.exit(1);
        }
    }
}
