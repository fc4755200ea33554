import java.util.ArrayList;
import java.util.List;
import java.util.Random;

/** Many runs of mixed calls, each answer held against a slow and plain model of the line. */
public final class ModelTest {
    private static final int RUNS = 200;
    /** What an object is used for; every second run leaves some calls for a look at the line. */
    private static final int MOST_CALLS = 512;
    private static final int LOOKS = 200;
    private static final int THROWN = -1000;
    private static final int OTHER_THROWN = -1001;

    private interface Line {
        int call(int kind, int a, int b, int c);
    }

    /** The class under test, its methods by number. */
    private static final class Real implements Line {
        private final OrderLine x = new OrderLine();

        @Override
        public int call(int kind, int a, int b, int c) {
            try {
                return answer(kind, a, b, c);
            } catch (RuntimeException e) {
                return e.getClass() == IllegalArgumentException.class ? THROWN : OTHER_THROWN;
            }
        }

        private int answer(int kind, int a, int b, int c) {
            switch (kind) {
                case 0: return x.behind(a);
                case 1: return x.several(a, b);
                case 2: return x.remove(a) ? 1 : 0;
                case 3: return x.clear(a, b);
                case 4: return x.carry(a, b, c);
                case 5: return x.compare(a, b);
                case 6: return x.next(a, b > 0);
                case 7: return x.has(a) ? 1 : 0;
                case 8: return x.place(a);
                case 9: return x.at(a);
                case 10: return x.greatest(a, b);
                case 11: return x.look(a);
                default: x.wipe(); return 0;
            }
        }
    }

    /** The document's words over one list. */
    private static final class Model implements Line {
        private final List<Integer> line = new ArrayList<>(List.of(0));

        @Override
        public int call(int kind, int a, int b, int c) {
            boolean first = kind <= 1 || (kind >= 3 && kind <= 6) || kind == 8 || kind == 10;
            boolean second = kind >= 3 && kind <= 5 || kind == 10;
            if (first && !line.contains(a) || second && !line.contains(b)
                    || kind == 4 && !line.contains(c)) {
                return THROWN;
            }
            switch (kind) {
                case 0: return add(a, 1);
                case 1: return b < 2 || b > 64 ? -1 : add(a, b);
                case 2: return a != 0 && line.remove((Integer) a) ? 1 : 0;
                case 3: return clear(a, b);
                case 4: return carry(a, b, c);
                case 5: return Integer.signum(line.indexOf(a) - line.indexOf(b));
                case 6: return stampAt(line.indexOf(a) + (b > 0 ? 1 : -1));
                case 7: return line.contains(a) ? 1 : 0;
                case 8: return line.indexOf(a);
                case 9: return stampAt(a);
                case 10: return greatest(a, b);
                case 11: return look(a);
                default: line.removeIf(stamp -> stamp != 0); return 0;
            }
        }

        private int stampAt(int place) {
            return place < 0 || place >= line.size() ? -1 : line.get(place);
        }

        private int free() {
            for (int number = 0; number < 1000; number++) {
                if (!line.contains(number)) {
                    return number;
                }
            }
            return -1;
        }

        private int add(int stamp, int n) {
            if (line.size() + n > 1000) {
                return -1;
            }
            int answer = free();
            int last = stamp;
            for (int i = 0; i < n; i++) {
                int number = free();
                line.add(line.indexOf(last) + 1, number);
                last = number;
            }
            return answer;
        }

        private List<Integer> between(int from, int to) {
            int start = line.indexOf(from) + 1;
            int end = line.indexOf(to);
            return new ArrayList<>(start < end ? line.subList(start, end) : List.of());
        }

        private int clear(int from, int to) {
            List<Integer> gone = between(from, to);
            line.removeAll(gone);
            return gone.size();
        }

        private int carry(int from, int to, int behind) {
            List<Integer> moved = between(from, to);
            if (line.indexOf(from) >= line.indexOf(to) || moved.contains(behind)) {
                return -1;
            }
            line.removeAll(moved);
            line.addAll(line.indexOf(behind) + 1, moved);
            return moved.size();
        }

        private int greatest(int from, int to) {
            int best = -1;
            for (int place = line.indexOf(from); place <= line.indexOf(to); place++) {
                best = Math.max(best, line.get(place));
            }
            return best;
        }

        private int look(int which) {
            switch (which) {
                case 0: return line.size();
                case 1: return line.get(line.size() - 1);
                case 2: return free();
                default: return -1;
            }
        }
    }

    private static final String[] NAMES = {
        "behind", "several", "remove", "clear", "carry", "compare", "next", "has", "place", "at",
        "greatest", "look", "wipe"
    };

    /** Mostly stamps that may be there, now and then the edges and what never is. */
    private static int pick(Random random, int size) {
        int[] edges = {-1, 0, 998, 999, 1000, size - 1, size, size + 1, Integer.MIN_VALUE,
            Integer.MAX_VALUE};
        return random.nextInt(20) == 0 ? edges[random.nextInt(edges.length)]
            : random.nextInt(size + 1);
    }

    private static int pickKind(Random random, boolean growing) {
        if (random.nextInt(3) == 0) {
            return growing ? 1 : 0;
        }
        int kind = random.nextInt(NAMES.length);
        boolean rare = kind == 12 || kind == 3 && growing;
        return rare && random.nextInt(30) != 0 ? 4 : kind;
    }

    private static boolean runFails(int seed) {
        Random random = new Random(seed);
        Line real = new Real();
        Model model = new Model();
        List<int[]> run = new ArrayList<>();
        boolean growing = seed % 4 == 0;
        boolean looked = seed / 4 % 2 == 0;
        int calls = looked ? MOST_CALLS - LOOKS : MOST_CALLS;
        for (int i = 0; i < calls; i++) {
            int size = model.line.size();
            int kind = pickKind(random, growing);
            int a = kind == 11 ? random.nextInt(5) - 1 : pick(random, size);
            int b = kind == 1 ? random.nextInt(67) : pick(random, size);
            int c = pick(random, size);
            int want = model.call(kind, a, b, c);
            int got = real.call(kind, a, b, c);
            if (got != want) {
                System.out.println("run " + seed + ", call " + i + ": " + NAMES[kind] + " of " + a
                    + ", " + b + ", " + c + " answered " + got + ", due is " + want);
                return true;
            }
            run.add(new int[] {kind, a, b, c});
        }
        return looked && !sameLine(seed, run, model);
    }

    private static Line again(List<int[]> run) {
        Line real = new Real();
        for (int[] call : run) {
            real.call(call[0], call[1], call[2], call[3]);
        }
        return real;
    }

    /** Looks at every stamp, on new objects with the same run: one has not calls enough left. */
    private static boolean sameLine(int seed, List<int[]> run, Model model) {
        Line real = null;
        int looks = 0;
        for (int i = -1; i <= 1000; i++) {
            for (int kind : new int[] {6, 8, 9}) {
                real = looks % LOOKS == 0 ? again(run) : real;
                looks++;
                if (real.call(kind, i, i % 2, 0) != model.call(kind, i, i % 2, 0)) {
                    System.out.println("run " + seed + ": " + NAMES[kind] + " of " + i
                        + " is wrong when the run has ended");
                    return false;
                }
            }
        }
        return true;
    }

    public static void main(String[] args) {
        int wrong = 0;
        for (int seed = 0; seed < RUNS; seed++) {
            if (runFails(seed)) {
                wrong++;
            }
        }
        System.out.println(wrong == 0 ? "all runs are as due" : wrong + " runs are not as due");
        if (wrong != 0) {
            System.exit(1);
        }
    }
}
