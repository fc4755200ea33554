/**
 * A line of stamps: new ones come behind others, some go, and of any two it is told at once
 * which is the earlier one.
 */
public final class OrderLine {
    /** There is none. */
    public static final int NONE = -1;

    private static final int MOST_STAMPS = 1000;
    private static final int LEAST_SEVERAL = 2;
    private static final int MOST_SEVERAL = 64;

    private static final int LOOK_STAMPS = 0;
    private static final int LOOK_LAST = 1;
    private static final int LOOK_LEAST_FREE = 2;

    // Both rows tell the same line, so that neither a place nor a stamp has to be searched for:
    // line[p] is a stamp exactly where p < count, and places[line[p]] is p; a NUMBER that no
    // stamp has stands in places as NONE. Stamp 0 never leaves place 0, so count is never 0.
    private final int[] line;
    private final int[] places;
    private int count;

    /** Stamp 0 alone. */
    public OrderLine() {
        line = new int[MOST_STAMPS];
        places = new int[MOST_STAMPS];
        // Only the others: the zeroes of a new row already tell that stamp 0 is at place 0.
        for (int number = 1; number < MOST_STAMPS; number++) {
            places[number] = NONE;
        }
        count = 1;
    }

    /** A new stamp right behind another one: its NUMBER; NONE if the line is full. */
    public int behind(int stamp) throws IllegalArgumentException {
        demand(stamp);
        if (count >= MOST_STAMPS) {
            return NONE;
        }
        return addBehind(stamp, 1);
    }

    /** n new stamps right behind another one, the least NUMBER first: the first one's NUMBER. */
    public int several(int stamp, int n) throws IllegalArgumentException {
        demand(stamp);
        if (n < LEAST_SEVERAL || n > MOST_SEVERAL || n > MOST_STAMPS - count) {
            return NONE;
        }
        return addBehind(stamp, n);
    }

    /** A stamp goes: true; false if there is none such, or it is stamp 0. */
    public boolean remove(int stamp) {
        if (stamp == 0 || !has(stamp)) {
            return false;
        }
        int place = places[stamp];
        takeOut(place, place + 1);
        return true;
    }

    /** All between two stamps go, if the first one is the earlier one: how many. */
    public int clear(int from, int to) throws IllegalArgumentException {
        demand(from);
        demand(to);
        int start = places[from] + 1;
        int end = places[to];
        if (start >= end) {
            return 0;
        }
        takeOut(start, end);
        return end - start;
    }

    /** All between two stamps comes, in its order, right behind a third one: how many. */
    public int carry(int from, int to, int behind) throws IllegalArgumentException {
        demand(from);
        demand(to);
        demand(behind);
        int start = places[from] + 1;
        int end = places[to];
        int goal = places[behind];
        if (start > end || (start <= goal && goal < end)) {
            return NONE;
        }
        if (goal < start) {
            swapBlocks(goal + 1, start, end);
        } else {
            swapBlocks(start, end, goal + 1);
        }
        return end - start;
    }

    /** -1 if the first stamp is the earlier one, 0 if both are the same, else 1. */
    public int compare(int a, int b) throws IllegalArgumentException {
        demand(a);
        demand(b);
        if (a == b) {
            return 0;
        }
        return places[a] < places[b] ? -1 : 1;
    }

    /** The stamp right behind (forth) or ahead of one; NONE if there is none. */
    public int next(int stamp, boolean forth) throws IllegalArgumentException {
        demand(stamp);
        return at(forth ? places[stamp] + 1 : places[stamp] - 1);
    }

    /** Whether a stamp is there. */
    public boolean has(int stamp) {
        return stamp >= 0 && stamp < MOST_STAMPS && places[stamp] != NONE;
    }

    /** How many are ahead of a stamp. */
    public int place(int stamp) throws IllegalArgumentException {
        demand(stamp);
        return places[stamp];
    }

    /** The stamp with so many ahead of it; NONE if there is none. */
    public int at(int place) {
        return place >= 0 && place < count ? line[place] : NONE;
    }

    /** The greatest NUMBER from one stamp to another, both with them; NONE if the first is later. */
    public int greatest(int from, int to) throws IllegalArgumentException {
        demand(from);
        demand(to);
        int end = places[to];
        int best = NONE;
        for (int place = places[from]; place <= end; place++) {
            best = Math.max(best, line[place]);
        }
        return best;
    }

    /** All but stamp 0 go. */
    public void wipe() {
        takeOut(1, count);
    }

    /** 0: how many stamps, 1: the last one, 2: the least NUMBER that none has; else NONE. */
    public int look(int which) {
        switch (which) {
            case LOOK_STAMPS:
                return count;
            case LOOK_LAST:
                return at(count - 1);
            case LOOK_LEAST_FREE:
                return leastFree();
            default:
                return NONE;
        }
    }

    private void demand(int stamp) {
        if (!has(stamp)) {
            throw new IllegalArgumentException("there is no such stamp");
        }
    }

    private int leastFree() {
        for (int number = 0; number < MOST_STAMPS; number++) {
            if (places[number] == NONE) {
                return number;
            }
        }
        return NONE;
    }

    /** The caller has seen that n more stamps have room. */
    private int addBehind(int stamp, int n) {
        int start = places[stamp] + 1;
        openGap(start, n);
        fillGap(start, start + n);
        return line[start];
    }

    private void openGap(int start, int width) {
        // From the last one on, or a stamp would be written over before it has moved.
        for (int place = count - 1; place >= start; place--) {
            put(line[place], place + width);
        }
        count += width;
    }

    private void fillGap(int start, int end) {
        int place = start;
        for (int number = 0; number < MOST_STAMPS && place < end; number++) {
            if (places[number] == NONE) {
                put(number, place);
                place++;
            }
        }
    }

    /** The stamps at the places start .. end - 1 go; start is never 0. */
    private void takeOut(int start, int end) {
        for (int place = start; place < end; place++) {
            places[line[place]] = NONE;
        }
        int width = end - start;
        for (int place = end; place < count; place++) {
            put(line[place], place - width);
        }
        count -= width;
    }

    /** The places start .. middle - 1 and middle .. end - 1 change sides, each in its order. */
    private void swapBlocks(int start, int middle, int end) {
        // Turning each block and then both together needs no second row to hold one of them.
        turn(start, middle);
        turn(middle, end);
        turn(start, end);
    }

    private void turn(int start, int end) {
        int high = end - 1;
        for (int low = start; low < high; low++) {
            int stamp = line[low];
            put(line[high], low);
            put(stamp, high);
            high--;
        }
    }

    private void put(int stamp, int place) {
        line[place] = stamp;
        places[stamp] = place;
    }
}
