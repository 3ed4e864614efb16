import java.util.Arrays;

/** Long runs of calls, answer by answer against a plain model that holds one place for each number. */
public final class ModelRunsTest {
    private static final int RUNS = 400;
    private static final int CALLS = 512;
    private static final int JUG = 8;
    private static final int DRUNK = 9;
    private static final int SPILT = 10;

    // Answers of the model that stand for an exception.
    private static final long INDEX = Long.MIN_VALUE;
    private static final long ARGUMENT = Long.MIN_VALUE + 1;
    private static final long STATE = Long.MIN_VALUE + 2;
    private static final long OTHER = Long.MIN_VALUE + 3;

    private static int wrong = 0;
    private static long seed = 20261120L;

    /** The state as plainly as it can be held: the place of each number. */
    private static final class Model {
        final int[] placeOf = new int[5001];
        int size = 100;
        int round = 1;

        Model() {
            Arrays.fill(placeOf, -1);
            Arrays.fill(placeOf, 1, 101, JUG);
        }

        int count(int place) {
            int count = 0;
            for (int number = 1; number <= size; number++) {
                count += placeOf[number] == place ? 1 : 0;
            }
            return count;
        }

        int lowest(int place) {
            for (int number = 1; number <= size; number++) {
                if (placeOf[number] == place) {
                    return number;
                }
            }
            return 0;
        }

        int highest(int place) {
            for (int number = size; number >= 1; number--) {
                if (placeOf[number] == place) {
                    return number;
                }
            }
            return 0;
        }

        /** The edges of the ranges of a place, from and to in turn. */
        int[] edges(int place) {
            int[] edges = new int[2 * size];
            int used = 0;
            for (int number = 1; number <= size; number++) {
                if (placeOf[number] == place) {
                    if (number == 1 || placeOf[number - 1] != place) {
                        edges[used++] = number;
                    }
                    if (number == size || placeOf[number + 1] != place) {
                        edges[used++] = number;
                    }
                }
            }
            return Arrays.copyOf(edges, used);
        }

        int longest() {
            int[] edges = edges(JUG);
            int longest = -1;
            for (int range = 0; range < edges.length / 2; range++) {
                if (longest == -1 || edges[2 * range + 1] - edges[2 * range]
                        > edges[2 * longest + 1] - edges[2 * longest]) {
                    longest = range;
                }
            }
            return longest;
        }

        int lowestLeft() {
            for (int number = 1; number <= size; number++) {
                if (placeOf[number] != DRUNK) {
                    return number;
                }
            }
            return 0;
        }

        int replace(int from, int to) {
            int count = 0;
            for (int number = 1; number <= size; number++) {
                if (placeOf[number] == from) {
                    placeOf[number] = to;
                    count++;
                }
            }
            return count;
        }

        long call(int kind, int a, int b, int c) {
            switch (kind) {
                case 0: return enlarge(a);
                case 1: return pour(a, b);
                case 2: return drink(a);
                case 3: return noGoblet(a) ? INDEX : replace(a, JUG);
                case 4: return share(a, b, c);
                case 5: return giveBack(a);
                case 6: return noGoblet(a) ? INDEX : replace(a, SPILT);
                default: return nextRound();
            }
        }

        private static boolean noGoblet(int goblet) {
            return goblet < 0 || goblet > 7;
        }

        private long enlarge(int newSize) {
            if (newSize <= size || newSize > 5000) {
                return ARGUMENT;
            }
            Arrays.fill(placeOf, size + 1, newSize + 1, JUG);
            size = newSize;
            return count(JUG);
        }

        private long pour(int goblet, int count) {
            if (noGoblet(goblet)) {
                return INDEX;
            }
            if (count < 1 || count > 200) {
                return ARGUMENT;
            }
            if (lowest(JUG) == 0) {
                return STATE;
            }
            int poured = 0;
            while (poured < count && lowest(JUG) != 0) {
                placeOf[lowest(JUG)] = goblet;
                poured++;
            }
            return poured;
        }

        private long drink(int goblet) {
            if (noGoblet(goblet)) {
                return INDEX;
            }
            int number = lowest(goblet) != 0 ? lowest(goblet) : lowest(JUG);
            if (number == 0) {
                return STATE;
            }
            placeOf[number] = DRUNK;
            return number;
        }

        private long share(int from, int to, int count) {
            if (noGoblet(from) || noGoblet(to)) {
                return INDEX;
            }
            if (from == to || count < 1 || count > 200) {
                return ARGUMENT;
            }
            int poured = 0;
            while (poured < count && highest(from) != 0) {
                placeOf[highest(from)] = to;
                poured++;
            }
            return poured;
        }

        private long giveBack(int number) {
            if (number < 1 || number > size || placeOf[number] != DRUNK) {
                return STATE;
            }
            placeOf[number] = JUG;
            return count(JUG);
        }

        private long nextRound() {
            if (count(DRUNK) + count(SPILT) != size) {
                return STATE;
            }
            Arrays.fill(placeOf, 1, size + 1, JUG);
            return ++round;
        }
    }

    private static long callProgram(NumberGoblets x, int kind, int a, int b, int c) {
        try {
            switch (kind) {
                case 0: return x.enlarge(a);
                case 1: return x.pour(a, b);
                case 2: return x.drink(a);
                case 3: return x.pourBack(a);
                case 4: return x.share(a, b, c);
                case 5: return x.giveBack(a);
                case 6: return x.spill(a);
                default: return x.nextRound();
            }
        } catch (RuntimeException e) {
            if (e.getClass() == IndexOutOfBoundsException.class) {
                return INDEX;
            }
            if (e.getClass() == IllegalArgumentException.class) {
                return ARGUMENT;
            }
            return e.getClass() == IllegalStateException.class ? STATE : OTHER;
        }
    }

    /** A row of numbers that looks thrown, but is the same in each run of the test. */
    private static int below(int bound) {
        seed = seed * 6364136223846793005L + 1442695040888963407L;
        return (int) ((seed >>> 33) % bound);
    }

    private static int someGoblet() {
        return below(40) == 0 ? below(2) * 9 - 1 : below(8);
    }

    private static int someCount() {
        int kind = below(20);
        return kind == 0 ? 200 + below(3) : kind == 1 ? -below(2) : kind < 8 ? 1 + below(60) : 1 + below(6);
    }

    private static int someKind(int run) {
        int kind = below(run % 2 == 0 ? 100 : 60);
        return kind < 2 ? 0 : kind < 14 ? 1 : kind < 30 ? 2 : kind < 34 ? 3 : kind < 46 ? 4
                : kind < 56 ? 5 : kind < 59 ? 6 : kind < 60 ? 7 : kind < 80 ? 2 : 5;
    }

    private static int someDrunk(Model model) {
        int start = 1 + below(model.size);
        for (int i = 0; i < model.size; i++) {
            int number = 1 + (start + i) % model.size;
            if (model.placeOf[number] == DRUNK) {
                return number;
            }
        }
        return start;
    }

    private static void due(int run, int call, String what, long got, long want) {
        if (got != want && wrong++ < 20) {
            System.out.println("run " + run + ", call " + call + ": " + what + " answered " + got + ", due is " + want);
        }
    }

    private static void compare(int run, int call, NumberGoblets x, Model model) {
        due(run, call, "size", x.size(), model.size);
        due(run, call, "round", x.round(), model.round);
        due(run, call, "inJug", x.inJug(), model.count(JUG));
        due(run, call, "drunk", x.drunk(), model.count(DRUNK));
        due(run, call, "spilt", x.spilt(), model.count(SPILT));
        due(run, call, "lowestLeft", x.lowestLeft(), model.lowestLeft());
        due(run, call, "longestRange", x.longestRange(), model.longest());
        int[] edges = model.edges(JUG);
        due(run, call, "ranges", x.ranges(), edges.length / 2);
        for (int range = 0; range < Math.min(x.ranges(), edges.length / 2); range++) {
            due(run, call, "rangeFrom " + range, x.rangeFrom(range), edges[2 * range]);
            due(run, call, "rangeTo " + range, x.rangeTo(range), edges[2 * range + 1]);
        }
        for (int goblet = 0; goblet < 8; goblet++) {
            due(run, call, "inGoblet " + goblet, x.inGoblet(goblet), model.count(goblet));
            due(run, call, "rangesOf " + goblet, x.rangesOf(goblet), model.edges(goblet).length / 2);
            int next = model.lowest(goblet) != 0 ? model.lowest(goblet) : model.lowest(JUG);
            due(run, call, "nextOf " + goblet, x.nextOf(goblet), next);
        }
    }

    private static void comparePlaces(int run, int call, NumberGoblets x, Model model) {
        for (int number = 1; number <= 5000; number++) {
            due(run, call, "placeOf " + number, x.placeOf(number), model.placeOf[number]);
        }
    }

    private static void oneRun(int run) {
        NumberGoblets x = new NumberGoblets();
        Model model = new Model();
        for (int call = 1; call <= CALLS; call++) {
            int kind = someKind(run);
            int a = someGoblet();
            int b = kind == 4 ? someGoblet() : someCount();
            int c = someCount();
            if (kind == 0) {
                a = run % 40 == 0 && below(4) == 0 ? 4990 + below(12) : model.size + below(12) - 1;
            }
            if (kind == 5) {
                a = below(20) == 0 ? below(model.size + 3) - 1 : someDrunk(model);
            }
            String what = "kind " + kind + " (" + a + ", " + b + ", " + c + ")";
            due(run, call, what, callProgram(x, kind, a, b, c), model.call(kind, a, b, c));
            if (model.size < 1000 || call % 16 == 0) {
                compare(run, call, x, model);
            }
            if (call % 32 == 0) {
                comparePlaces(run, call, x, model);
            }
        }
    }

    public static void main(String[] args) {
        for (int run = 1; run <= RUNS && wrong == 0; run++) {
            oneRun(run);
        }
        System.out.println(wrong == 0 ? "all answers are as due" : wrong + " answers are not as due");
        if (wrong != 0) {
            System.exit(1);
        }
    }
}
