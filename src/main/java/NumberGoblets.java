/** Numbers that are handed out from a jug into goblets, so that none is out twice. */
public final class NumberGoblets {
    private static final int FIRST_SIZE = 100;
    private static final int LARGEST_SIZE = 5000;
    private static final int LARGEST_COUNT = 200;

    // The places of a number are told by placeOf; 0 to 7 are the goblets.
    private static final int GOBLETS = 8;
    private static final int JUG = 8;
    private static final int DRUNK = 9;
    private static final int SPILT = 10;
    private static final int NOWHERE = -1;

    /** Numbers that follow one another and are at one place. */
    private static final class Stretch {
        private final int first;
        private int last;
        private int place;
        private Stretch next;

        private Stretch(int first, int last, int place, Stretch next) {
            this.first = first;
            this.last = last;
            this.place = place;
            this.next = next;
        }

        private int length() {
            return last - first + 1;
        }

        /** Leaves no more numbers than most (at least 1) in this stretch; the others become the next one. */
        private void shortenTo(int most) {
            if (length() > most) {
                int end = first + most - 1;
                next = new Stretch(end + 1, last, place, next);
                last = end;
            }
        }

        private void absorbNextOnesOfSamePlace() {
            Stretch above = next;
            while (above != null && above.place == place) {
                last = above.last;
                above = above.next;
            }
            next = above;
        }
    }

    // The chain holds 1 to LARGEST_SIZE by rising numbers, those above the size too (NOWHERE), so that
    // a larger jug is a move like all others. Between two calls no two neighbours have the same place:
    // therefore each stretch is a whole range of its place.
    private final Stretch lowest;
    private int size;
    private int round;

    public NumberGoblets() {
        Stretch outside = new Stretch(FIRST_SIZE + 1, LARGEST_SIZE, NOWHERE, null);
        lowest = new Stretch(1, FIRST_SIZE, JUG, outside);
        size = FIRST_SIZE;
        round = 1;
    }

    public int enlarge(int size) throws IllegalArgumentException {
        if (size <= this.size || size > LARGEST_SIZE) {
            throw new IllegalArgumentException("the size is not above the old one and up to 5000");
        }
        move(NOWHERE, JUG, 0, size - this.size);
        this.size = size;
        return numbersAt(JUG);
    }

    public int pour(int goblet, int count)
            throws IndexOutOfBoundsException, IllegalArgumentException, IllegalStateException {
        checkGoblet(goblet);
        checkCount(count);
        if (lowestAt(JUG) == 0) {
            throw new IllegalStateException("the jug is empty");
        }
        return move(JUG, goblet, 0, count);
    }

    public int drink(int goblet) throws IndexOutOfBoundsException, IllegalStateException {
        checkGoblet(goblet);
        if (lowestAt(goblet) == 0) {
            move(JUG, goblet, 0, 1);
        }
        int number = lowestAt(goblet);
        if (number == 0) {
            throw new IllegalStateException("the goblet and the jug are empty");
        }
        move(goblet, DRUNK, 0, 1);
        return number;
    }

    public int pourBack(int goblet) throws IndexOutOfBoundsException {
        checkGoblet(goblet);
        return moveAll(goblet, JUG);
    }

    public int share(int from, int to, int count) throws IndexOutOfBoundsException, IllegalArgumentException {
        checkGoblet(from);
        checkGoblet(to);
        if (from == to) {
            throw new IllegalArgumentException("both goblets are the same");
        }
        checkCount(count);
        int staying = Math.max(0, numbersAt(from) - count);
        return move(from, to, staying, count);
    }

    public int giveBack(int number) throws IllegalStateException {
        if (placeOf(number) != DRUNK) {
            throw new IllegalStateException("the number is not drunk");
        }
        move(DRUNK, JUG, numbersAtBelow(DRUNK, number), 1);
        return numbersAt(JUG);
    }

    public int spill(int goblet) throws IndexOutOfBoundsException {
        checkGoblet(goblet);
        return moveAll(goblet, SPILT);
    }

    public int nextRound() throws IllegalStateException {
        if (numbersAt(DRUNK) + numbersAt(SPILT) != size) {
            throw new IllegalStateException("the jug or some goblet is not empty");
        }
        moveAll(DRUNK, JUG);
        moveAll(SPILT, JUG);
        round++;
        return round;
    }

    public int size() {
        return size;
    }

    public int round() {
        return round;
    }

    public int inJug() {
        return numbersAt(JUG);
    }

    public int ranges() {
        return rangesAt(JUG);
    }

    public int rangeFrom(int range) throws IndexOutOfBoundsException {
        Stretch found = rangeOfJug(range);
        if (found == null) {
            throw new IndexOutOfBoundsException("the jug has no such range");
        }
        return found.first;
    }

    public int rangeTo(int range) throws IndexOutOfBoundsException {
        Stretch found = rangeOfJug(range);
        if (found == null) {
            throw new IndexOutOfBoundsException("the jug has no such range");
        }
        return found.last;
    }

    public int longestRange() {
        int longest = -1;
        int most = 0;
        int range = 0;
        for (Stretch s = lowest; s != null; s = s.next) {
            if (s.place == JUG) {
                if (s.length() > most) {
                    most = s.length();
                    longest = range;
                }
                range++;
            }
        }
        return longest;
    }

    public int inGoblet(int goblet) throws IndexOutOfBoundsException {
        checkGoblet(goblet);
        return numbersAt(goblet);
    }

    public int rangesOf(int goblet) throws IndexOutOfBoundsException {
        checkGoblet(goblet);
        return rangesAt(goblet);
    }

    public int nextOf(int goblet) throws IndexOutOfBoundsException {
        checkGoblet(goblet);
        int number = lowestAt(goblet);
        return number != 0 ? number : lowestAt(JUG);
    }

    public int placeOf(int number) {
        for (Stretch s = lowest; s != null; s = s.next) {
            if (number >= s.first && number <= s.last) {
                return s.place;
            }
        }
        return NOWHERE;
    }

    public int drunk() {
        return numbersAt(DRUNK);
    }

    public int spilt() {
        return numbersAt(SPILT);
    }

    public int lowestLeft() {
        for (Stretch s = lowest; s != null; s = s.next) {
            if (s.place != DRUNK && s.place != NOWHERE) {
                return s.first;
            }
        }
        return 0;
    }

    private static void checkGoblet(int goblet) {
        if (goblet < 0 || goblet >= GOBLETS) {
            throw new IndexOutOfBoundsException("there is no such goblet");
        }
    }

    private static void checkCount(int count) {
        if (count < 1 || count > LARGEST_COUNT) {
            throw new IllegalArgumentException("the count is not 1 to 200");
        }
    }

    /** Lets the lowest numbers of a place stay, and moves count of those above them; answers how many it moved. */
    private int move(int from, int to, int staying, int count) {
        int toStay = staying;
        int toMove = count;
        for (Stretch s = lowest; s != null && toMove > 0; s = s.next) {
            if (s.place == from && toStay > 0) {
                s.shortenTo(toStay);
                toStay -= s.length();
            } else if (s.place == from) {
                s.shortenTo(toMove);
                toMove -= s.length();
                s.place = to;
            }
        }
        joinNeighbours();
        return count - toMove;
    }

    private int moveAll(int from, int to) {
        return move(from, to, 0, LARGEST_SIZE);
    }

    private void joinNeighbours() {
        for (Stretch s = lowest; s != null; s = s.next) {
            s.absorbNextOnesOfSamePlace();
        }
    }

    private int numbersAt(int place) {
        return numbersAtBelow(place, LARGEST_SIZE + 1);
    }

    private int numbersAtBelow(int place, int number) {
        int numbers = 0;
        for (Stretch s = lowest; s != null && s.first < number; s = s.next) {
            if (s.place == place) {
                numbers += Math.min(s.last, number - 1) - s.first + 1;
            }
        }
        return numbers;
    }

    private int rangesAt(int place) {
        int ranges = 0;
        for (Stretch s = lowest; s != null; s = s.next) {
            if (s.place == place) {
                ranges++;
            }
        }
        return ranges;
    }

    /** The lowest number of a place; 0 if there is none. */
    private int lowestAt(int place) {
        for (Stretch s = lowest; s != null; s = s.next) {
            if (s.place == place) {
                return s.first;
            }
        }
        return 0;
    }

    /** A range of the jug, from 0, by rising numbers; null if there is no such range. */
    private Stretch rangeOfJug(int range) {
        int index = 0;
        for (Stretch s = lowest; s != null; s = s.next) {
            if (s.place == JUG) {
                if (index == range) {
                    return s;
                }
                index++;
            }
        }
        return null;
    }
}
