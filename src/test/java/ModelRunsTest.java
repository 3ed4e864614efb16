import java.util.Arrays;

/**
 * Runs of 512 calls, as many as the document allows, answer by answer against a plain model that holds one
 * place for each number. The last calls of a run only ask.
 */
public final class ModelRunsTest {
    private static final int RUNS = 3000;
    private static final int CALLS = 512;
    private static final int KINDS_THAT_CHANGE = 8;
    private static final int KINDS = 22;
    private static final int JUG = 8;
    private static final int DRUNK = 9;
    private static final int SPILT = 10;

    // Answers of the model that stand for an exception.
    private static final long INDEX = Long.MIN_VALUE;
    private static final long ARGUMENT = Long.MIN_VALUE + 1;
    private static final long STATE = Long.MIN_VALUE + 2;
    private static final long OTHER = Long.MIN_VALUE + 3;

    private static int wrong = 0;
    private static long seed = 20261120L;

    /** The state as plainly as it can be held: the place of each number. */
    private static final class Model {
        final int[] placeOf = new int[5001];
        int size = 100;
        int round = 1;

        Model() {
            Arrays.fill(placeOf, -1);
            Arrays.fill(placeOf, 1, 101, JUG);
        }

        int count(int place) {
            int count = 0;
            for (int number = 1; number <= size; number++) {
                count += placeOf[number] == place ? 1 : 0;
            }
            return count;
        }

        int lowest(int place) {
            for (int number = 1; number <= size; number++) {
                if (placeOf[number] == place) {
                    return number;
                }
            }
            return 0;
        }

        int highest(int place) {
            for (int number = size; number >= 1; number--) {
                if (placeOf[number] == place) {
                    return number;
                }
            }
            return 0;
        }

        /** The edges of the ranges of a place, from and to in turn. */
        int[] edges(int place) {
            int[] edges = new int[2 * size];
            int used = 0;
            for (int number = 1; number <= size; number++) {
                if (placeOf[number] == place) {
                    if (number == 1 || placeOf[number - 1] != place) {
                        edges[used++] = number;
                    }
                    if (number == size || placeOf[number + 1] != place) {
                        edges[used++] = number;
                    }
                }
            }
            return Arrays.copyOf(edges, used);
        }

        int longest() {
            int[] edges = edges(JUG);
            int longest = -1;
            for (int range = 0; range < edges.length / 2; range++) {
                if (longest == -1 || edges[2 * range + 1] - edges[2 * range]
                        > edges[2 * longest + 1] - edges[2 * longest]) {
                    longest = range;
                }
            }
            return longest;
        }

        int lowestLeft() {
            for (int number = 1; number <= size; number++) {
                if (placeOf[number] != DRUNK) {
                    return number;
                }
            }
            return 0;
        }

        int replace(int from, int to) {
            int count = 0;
            for (int number = 1; number <= size; number++) {
                if (placeOf[number] == from) {
                    placeOf[number] = to;
                    count++;
                }
            }
            return count;
        }

        long call(int kind, int a, int b, int c) {
            switch (kind) {
                case 0: return enlarge(a);
                case 1: return pour(a, b);
                case 2: return drink(a);
                case 3: return noGoblet(a) ? INDEX : replace(a, JUG);
                case 4: return share(a, b, c);
                case 5: return giveBack(a);
                case 6: return noGoblet(a) ? INDEX : replace(a, SPILT);
                case 7: return nextRound();
                default: return ask(kind, a);
            }
        }

        private long ask(int kind, int a) {
            switch (kind) {
                case 8: return size;
                case 9: return round;
                case 10: return count(JUG);
                case 11: return edges(JUG).length / 2;
                case 12: return edgeOfJug(a, 0);
                case 13: return edgeOfJug(a, 1);
                case 14: return longest();
                case 15: return noGoblet(a) ? INDEX : count(a);
                case 16: return noGoblet(a) ? INDEX : edges(a).length / 2;
                case 17: return noGoblet(a) ? INDEX : lowest(a) != 0 ? lowest(a) : lowest(JUG);
                case 18: return a < 0 || a > 5000 ? -1 : placeOf[a];
                case 19: return count(DRUNK);
                case 20: return count(SPILT);
                default: return lowestLeft();
            }
        }

        private long edgeOfJug(int range, int side) {
            int[] edges = edges(JUG);
            return range < 0 || range >= edges.length / 2 ? INDEX : edges[2 * range + side];
        }

        private static boolean noGoblet(int goblet) {
            return goblet < 0 || goblet > 7;
        }

        private long enlarge(int newSize) {
            if (newSize <= size || newSize > 5000) {
                return ARGUMENT;
            }
            Arrays.fill(placeOf, size + 1, newSize + 1, JUG);
            size = newSize;
            return count(JUG);
        }

        private long pour(int goblet, int count) {
            if (noGoblet(goblet)) {
                return INDEX;
            }
            if (count < 1 || count > 200) {
                return ARGUMENT;
            }
            if (lowest(JUG) == 0) {
                return STATE;
            }
            int poured = 0;
            while (poured < count && lowest(JUG) != 0) {
                placeOf[lowest(JUG)] = goblet;
                poured++;
            }
            return poured;
        }

        private long drink(int goblet) {
            if (noGoblet(goblet)) {
                return INDEX;
            }
            int number = lowest(goblet) != 0 ? lowest(goblet) : lowest(JUG);
            if (number == 0) {
                return STATE;
            }
            placeOf[number] = DRUNK;
            return number;
        }

        private long share(int from, int to, int count) {
            if (noGoblet(from) || noGoblet(to)) {
                return INDEX;
            }
            if (from == to || count < 1 || count > 200) {
                return ARGUMENT;
            }
            int poured = 0;
            while (poured < count && highest(from) != 0) {
                placeOf[highest(from)] = to;
                poured++;
            }
            return poured;
        }

        private long giveBack(int number) {
            if (number < 1 || number > size || placeOf[number] != DRUNK) {
                return STATE;
            }
            placeOf[number] = JUG;
            return count(JUG);
        }

        private long nextRound() {
            if (count(DRUNK) + count(SPILT) != size) {
                return STATE;
            }
            Arrays.fill(placeOf, 1, size + 1, JUG);
            return ++round;
        }
    }

    private static long callProgram(NumberGoblets x, int kind, int a, int b, int c) {
        try {
            switch (kind) {
                case 0: return x.enlarge(a);
                case 1: return x.pour(a, b);
                case 2: return x.drink(a);
                case 3: return x.pourBack(a);
                case 4: return x.share(a, b, c);
                case 5: return x.giveBack(a);
                case 6: return x.spill(a);
                case 7: return x.nextRound();
                default: return askProgram(x, kind, a);
            }
        } catch (RuntimeException e) {
            if (e.getClass() == IndexOutOfBoundsException.class) {
                return INDEX;
            }
            if (e.getClass() == IllegalArgumentException.class) {
                return ARGUMENT;
            }
            return e.getClass() == IllegalStateException.class ? STATE : OTHER;
        }
    }

    private static long askProgram(NumberGoblets x, int kind, int a) {
        switch (kind) {
            case 8: return x.size();
            case 9: return x.round();
            case 10: return x.inJug();
            case 11: return x.ranges();
            case 12: return x.rangeFrom(a);
            case 13: return x.rangeTo(a);
            case 14: return x.longestRange();
            case 15: return x.inGoblet(a);
            case 16: return x.rangesOf(a);
            case 17: return x.nextOf(a);
            case 18: return x.placeOf(a);
            case 19: return x.drunk();
            case 20: return x.spilt();
            default: return x.lowestLeft();
        }
    }

    /** A row of numbers that looks thrown, but is the same in each run of the test. */
    private static int below(int bound) {
        seed = seed * 6364136223846793005L + 1442695040888963407L;
        return (int) ((seed >>> 33) % bound);
    }

    private static int someGoblet() {
        return below(40) == 0 ? below(2) * 9 - 1 : below(8);
    }

    private static int someCount() {
        int kind = below(20);
        return kind == 0 ? 200 + below(3) : kind == 1 ? -below(2) : kind < 8 ? 1 + below(60) : 1 + below(6);
    }

    private static int someChange(int run) {
        int kind = below(run % 2 == 0 ? 100 : 60);
        return kind < 2 ? 0 : kind < 14 ? 1 : kind < 30 ? 2 : kind < 34 ? 3 : kind < 46 ? 4
                : kind < 56 ? 5 : kind < 59 ? 6 : kind < 60 ? 7 : kind < 80 ? 2 : 5;
    }

    private static int someQuestion() {
        return KINDS_THAT_CHANGE + below(KINDS - KINDS_THAT_CHANGE);
    }

    /** The first argument, mostly one that the call takes. */
    private static int someArgument(int run, int kind, Model model) {
        switch (kind) {
            case 0: return run % 40 == 0 && below(4) == 0 ? 4990 + below(12) : model.size + below(12) - 1;
            case 5: return below(20) == 0 ? below(model.size + 3) - 1 : someDrunk(model);
            case 12:
            case 13: return below(model.edges(JUG).length / 2 + 2) - 1;
            case 18: return below(model.size + 3) - 1;
            default: return someGoblet();
        }
    }

    private static int someDrunk(Model model) {
        int start = 1 + below(model.size);
        for (int i = 0; i < model.size; i++) {
            int number = 1 + (start + i) % model.size;
            if (model.placeOf[number] == DRUNK) {
                return number;
            }
        }
        return start;
    }

    private static void due(int run, int call, String what, long got, long want) {
        if (got != want && wrong++ < 20) {
            System.out.println("run " + run + ", call " + call + ": " + what + " answered " + got + ", due is " + want);
        }
    }

    private static void oneRun(int run) {
        NumberGoblets x = new NumberGoblets();
        Model model = new Model();
        int changing = 20 + below(CALLS - 20);
        for (int call = 1; call <= CALLS; call++) {
            int kind = call <= changing && below(4) != 0 ? someChange(run) : someQuestion();
            int a = someArgument(run, kind, model);
            int b = kind == 4 ? someGoblet() : someCount();
            int c = someCount();
            String what = "kind " + kind + " (" + a + ", " + b + ", " + c + ")";
            due(run, call, what, callProgram(x, kind, a, b, c), model.call(kind, a, b, c));
        }
    }

    public static void main(String[] args) {
        for (int run = 1; run <= RUNS && wrong == 0; run++) {
            oneRun(run);
        }
        System.out.println(wrong == 0 ? "all answers are as due" : wrong + " answers are not as due");
        if (wrong != 0) {
            System.exit(1);
        }
    }
}
