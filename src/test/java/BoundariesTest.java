import java.util.Arrays;

/**
 * A test of its own for each sentence of the document that names a boundary case: the last value that is
 * allowed and the first one that is not, the empty jug and the empty goblet, a count of more than is there,
 * each exception where the document names it. The name of a test tells the promise and the sentence.
 */
public final class BoundariesTest {
    private static final int JUG = 8;
    private static final int DRUNK = 9;
    private static final int SPILT = 10;
    private static final int NOWHERE = -1;

    private static String test = "";
    private static int tests = 0;
    private static int failedTests = 0;
    private static int wrong = 0;

    private interface Call {
        int answer();
    }

    private interface CallOf {
        int answer(NumberGoblets x);
    }

    private interface Maker {
        NumberGoblets make();
    }

    private interface GobletCall {
        int answer(NumberGoblets x, int goblet);
    }

    // ---- what is due

    private static void wrong(String text) {
        wrong++;
        System.out.println(test + ": " + text);
    }

    private static void due(String what, int got, int want) {
        if (got != want) {
            wrong(what + " answered " + got + ", due is " + want);
        }
    }

    private static void throwsExactly(String what, Class<? extends RuntimeException> want, Call call) {
        String got;
        try {
            got = "nothing, but answered " + call.answer();
        } catch (RuntimeException e) {
            got = e.getClass().getName();
        }
        if (!got.equals(want.getName())) {
            wrong(what + " threw " + got + ", due is " + want.getName());
        }
    }

    private static void noIndex(String what, Call call) {
        throwsExactly(what, IndexOutOfBoundsException.class, call);
    }

    private static void noArgument(String what, Call call) {
        throwsExactly(what, IllegalArgumentException.class, call);
    }

    private static void noState(String what, Call call) {
        throwsExactly(what, IllegalStateException.class, call);
    }

    /** Every answer is that of a twin that was made in the same way; no object is asked beyond its 512 calls. */
    private static void isUnchanged(String what, NumberGoblets x, Maker maker) {
        String got = answersOf(x);
        String want = answersOf(maker.make());
        if (!got.equals(want)) {
            wrong(what + " left " + got + ", due is " + want);
        }
    }

    /** The call throws exactly this exception, and changes nothing. */
    private static void refused(String what, Maker maker, Class<? extends RuntimeException> want, CallOf call) {
        NumberGoblets x = maker.make();
        throwsExactly(what, want, () -> call.answer(x));
        isUnchanged(what, x, maker);
    }

    private static void refusedIndex(String what, Maker maker, CallOf call) {
        refused(what, maker, IndexOutOfBoundsException.class, call);
    }

    private static void refusedArgument(String what, Maker maker, CallOf call) {
        refused(what, maker, IllegalArgumentException.class, call);
    }

    private static void refusedState(String what, Maker maker, CallOf call) {
        refused(what, maker, IllegalStateException.class, call);
    }

    private static String answersOf(NumberGoblets x) {
        StringBuilder answers = new StringBuilder();
        answers.append("size ").append(x.size()).append(" round ").append(x.round()).append(" jug ")
                .append(x.inJug()).append(' ').append(x.longestRange()).append(' ')
                .append(Arrays.toString(edgesOf(x))).append(" drunk ").append(x.drunk()).append(" spilt ")
                .append(x.spilt()).append(" left ").append(x.lowestLeft()).append(" goblets");
        for (int goblet = 0; goblet < 8; goblet++) {
            answers.append(' ').append(x.inGoblet(goblet)).append('/').append(x.rangesOf(goblet)).append('/')
                    .append(x.nextOf(goblet));
        }
        answers.append(" places");
        for (int number = 0; number <= 102; number++) {
            answers.append(' ').append(x.placeOf(number));
        }
        for (int number : new int[] {199, 200, 201, 202, 1000, 1001, 4999, 5000, 5001}) {
            answers.append(' ').append(x.placeOf(number));
        }
        return answers.toString();
    }

    private static int[] edgesOf(NumberGoblets x) {
        int[] edges = new int[2 * x.ranges()];
        for (int range = 0; range < edges.length / 2; range++) {
            edges[2 * range] = x.rangeFrom(range);
            edges[2 * range + 1] = x.rangeTo(range);
        }
        return edges;
    }

    private static void jugIs(String what, NumberGoblets x, int... edges) {
        if (!Arrays.equals(edgesOf(x), edges)) {
            wrong(what + ": the jug has " + Arrays.toString(edgesOf(x)) + ", due is " + Arrays.toString(edges));
        }
    }

    private static void placesAre(NumberGoblets x, int from, int to, int place) {
        for (int number = from; number <= to; number++) {
            due("placeOf(" + number + ")", x.placeOf(number), place);
        }
    }

    /** Goblets 0 to 7 are there, and the call is refused for those beside them. */
    private static void gobletsAreZeroToSeven(NumberGoblets x, GobletCall call) {
        for (int goblet : new int[] {-1, 8, -2, 9, 10, -8, 256, Integer.MIN_VALUE, Integer.MAX_VALUE}) {
            noIndex("goblet " + goblet, () -> call.answer(x, goblet));
        }
        for (int goblet = 0; goblet < 8; goblet++) {
            call.answer(x, goblet);
        }
    }

    // ---- objects in a known state

    private static void pourTimes(NumberGoblets x, int goblet, int count, int times) {
        for (int i = 0; i < times; i++) {
            x.pour(goblet, count);
        }
    }

    private static void drinkTimes(NumberGoblets x, int goblet, int times) {
        for (int i = 0; i < times; i++) {
            x.drink(goblet);
        }
    }

    private static NumberGoblets ofSize(int size) {
        NumberGoblets x = new NumberGoblets();
        x.enlarge(size);
        return x;
    }

    /** Goblet 0 has 1 to 100; the jug is empty. */
    private static NumberGoblets withEmptyJug() {
        NumberGoblets x = new NumberGoblets();
        x.pour(0, 100);
        return x;
    }

    /** Goblet 0 has 1 to 4, 9 and 10; goblet 1 has 5 to 8; the jug has 11 to 100. */
    private static NumberGoblets withTwoRangesInGobletZero() {
        NumberGoblets x = new NumberGoblets();
        x.pour(0, 4);
        x.pour(1, 4);
        x.pour(0, 2);
        return x;
    }

    /** Each goblet has ten numbers: 0 has 1 to 10, up to 7, which has 71 to 80; the jug has 81 to 100. */
    private static NumberGoblets withTenInEach() {
        NumberGoblets x = new NumberGoblets();
        for (int goblet = 0; goblet < 8; goblet++) {
            x.pour(goblet, 10);
        }
        return x;
    }

    /** All numbers are drunk. */
    private static NumberGoblets withAllDrunk() {
        NumberGoblets x = new NumberGoblets();
        drinkTimes(x, 0, 100);
        return x;
    }

    /** 1 and 2 are drunk, 3 and 4 spilt, goblet 5 has 5 and 6, the jug has 7 to 100. */
    private static NumberGoblets withSomeAtEachPlace() {
        NumberGoblets x = new NumberGoblets();
        drinkTimes(x, 5, 2);
        x.pour(5, 2);
        x.spill(5);
        x.pour(5, 2);
        return x;
    }

    // ---- 1: a new object

    private static void newJugIsFullOfSize100() {
        NumberGoblets x = new NumberGoblets();
        due("size", x.size(), 100);
        due("inJug", x.inJug(), 100);
        due("placeOf(0)", x.placeOf(0), NOWHERE);
        placesAre(x, 1, 100, JUG);
        due("placeOf(101)", x.placeOf(101), NOWHERE);
        jugIs("new", x, 1, 100);
        due("drunk", x.drunk(), 0);
        due("spilt", x.spilt(), 0);
        for (int number = 1; number <= 100; number++) {
            due("drink", x.drink(0), number);
        }
        noState("drink of number 101", () -> x.drink(0));
    }

    private static void newObjectHasEightEmptyGoblets() {
        NumberGoblets x = new NumberGoblets();
        noIndex("goblet -1", () -> x.inGoblet(-1));
        for (int goblet = 0; goblet < 8; goblet++) {
            due("inGoblet(" + goblet + ")", x.inGoblet(goblet), 0);
            due("rangesOf(" + goblet + ")", x.rangesOf(goblet), 0);
        }
        noIndex("goblet 8", () -> x.inGoblet(8));
    }

    // ---- 2: enlarge

    private static void enlargeBringsTheNumbersAboveTheOldSize() {
        NumberGoblets x = new NumberGoblets();
        x.pour(0, 40);
        x.spill(0);
        x.pour(1, 59);
        x.drink(2);
        x.enlarge(103);
        placesAre(x, 1, 40, SPILT);
        placesAre(x, 41, 99, 1);
        due("placeOf(100), the old size", x.placeOf(100), DRUNK);
        due("placeOf(101), the first new one", x.placeOf(101), JUG);
        due("placeOf(103), the last new one", x.placeOf(103), JUG);
        due("placeOf(104)", x.placeOf(104), NOWHERE);
        jugIs("only the new ones", x, 101, 103);
        due("size", x.size(), 103);
    }

    private static void enlargeTouchingTheJugsLastRange() {
        NumberGoblets x = new NumberGoblets();
        x.pour(0, 99);
        x.enlarge(101);
        jugIs("100 and 101 grow together", x, 100, 101);
        x.pour(0, 1);
        x.share(0, 1, 50);
        x.pourBack(0);
        x.enlarge(102);
        jugIs("50 and 101 grow to no range", x, 1, 50, 101, 102);
    }

    private static void enlargeSizeIsAboveTheOldOne() {
        NumberGoblets x = new NumberGoblets();
        noArgument("one less", () -> x.enlarge(99));
        noArgument("the old one", () -> x.enlarge(100));
        due("one more", x.enlarge(101), 101);
        noArgument("the size before", () -> x.enlarge(100));
        noArgument("the old one then", () -> x.enlarge(101));
        due("one more then", x.enlarge(102), 102);
        due("size", x.size(), 102);
    }

    private static void enlargeSizeIsUpTo5000() {
        NumberGoblets x = new NumberGoblets();
        noArgument("5001", () -> x.enlarge(5001));
        due("5000 at once", x.enlarge(5000), 5000);
        due("placeOf(5000)", x.placeOf(5000), JUG);
        due("placeOf(5001)", x.placeOf(5001), NOWHERE);
        noArgument("5000 again", () -> x.enlarge(5000));
        noArgument("5001 above 5000", () -> x.enlarge(5001));
        NumberGoblets y = ofSize(4999);
        noArgument("5001 above 4999", () -> y.enlarge(5001));
        due("5000 above 4999", y.enlarge(5000), 5000);
        due("size", y.size(), 5000);
    }

    private static void enlargeReturnsHowManyAreInTheJugThen() {
        due("a full jug", new NumberGoblets().enlarge(150), 150);
        due("an empty jug, by one", withEmptyJug().enlarge(101), 1);
        due("an empty jug, to the largest", withEmptyJug().enlarge(5000), 4900);
        due("all drunk", withAllDrunk().enlarge(103), 3);
        NumberGoblets x = withSomeAtEachPlace();
        due("some at each place", x.enlarge(110), 104);
        due("inJug", x.inJug(), 104);
    }

    private static void enlargeThrowsIfSizeIsNotSo() {
        for (int size : new int[] {Integer.MIN_VALUE, Integer.MIN_VALUE + 100, Integer.MIN_VALUE + 101, -5000, -1, 0,
            1, 99, 100, 5001, 65536 + 200, Integer.MAX_VALUE}) {
            refusedArgument("enlarge(" + size + ")", BoundariesTest::withSomeAtEachPlace, x -> x.enlarge(size));
        }
        refusedArgument("5000 above 5000", () -> ofSize(5000), x -> x.enlarge(5000));
        refusedArgument("5001 above 5000", () -> ofSize(5000), x -> x.enlarge(5001));
    }

    // ---- 3: pour

    private static void pourTakesTheLowestOfTheJug() {
        NumberGoblets x = new NumberGoblets();
        drinkTimes(x, 0, 10);
        x.giveBack(7);
        x.giveBack(3);
        x.giveBack(4);
        x.pour(6, 4);
        placesAre(x, 3, 4, 6);
        due("placeOf(7)", x.placeOf(7), 6);
        due("placeOf(11), the highest poured", x.placeOf(11), 6);
        due("placeOf(12), the lowest left", x.placeOf(12), JUG);
        jugIs("what is left", x, 12, 100);
        x.pour(7, 88);
        jugIs("the highest number is poured last", x, 100, 100);
    }

    private static void pourAddsToThoseThatTheGobletHas() {
        NumberGoblets x = new NumberGoblets();
        x.pour(2, 1);
        due("inGoblet of an empty one", x.inGoblet(2), 1);
        x.pour(2, 1);
        due("inGoblet then", x.inGoblet(2), 2);
        due("rangesOf, touching", x.rangesOf(2), 1);
        x.pour(3, 1);
        x.pour(2, 1);
        due("inGoblet, not touching", x.inGoblet(2), 3);
        due("rangesOf, not touching", x.rangesOf(2), 2);
        due("inGoblet of the other", x.inGoblet(3), 1);
        x.pourBack(3);
        x.pour(2, 1);
        due("rangesOf, touching on both sides", x.rangesOf(2), 1);
        placesAre(x, 1, 4, 2);
    }

    private static void pourGobletIsZeroToSeven() {
        NumberGoblets x = new NumberGoblets();
        gobletsAreZeroToSeven(x, (party, goblet) -> party.pour(goblet, 1));
        for (int goblet = 0; goblet < 8; goblet++) {
            due("placeOf", x.placeOf(goblet + 1), goblet);
        }
    }

    private static void pourCountIsOneTo200() {
        NumberGoblets x = ofSize(1000);
        for (int count : new int[] {0, -1, 201, 1000, Integer.MIN_VALUE, Integer.MAX_VALUE}) {
            noArgument("count " + count, () -> x.pour(0, count));
        }
        due("count 1", x.pour(0, 1), 1);
        due("count 2", x.pour(0, 2), 2);
        due("count 199", x.pour(0, 199), 199);
        due("count 200", x.pour(0, 200), 200);
        jugIs("402 are poured", x, 403, 1000);
    }

    private static void pourReturnsFewerOnlyIfTheJugBecomesEmpty() {
        NumberGoblets x = new NumberGoblets();
        due("one less than the jug has", x.pour(0, 99), 99);
        due("one is left", x.inJug(), 1);
        NumberGoblets y = new NumberGoblets();
        due("just what the jug has", y.pour(0, 100), 100);
        due("none is left", y.inJug(), 0);
        NumberGoblets z = new NumberGoblets();
        due("one more than the jug has", z.pour(0, 101), 100);
        due("none is left", z.inJug(), 0);
        due("inGoblet", z.inGoblet(0), 100);
        NumberGoblets w = ofSize(199);
        due("largest count of 199", w.pour(0, 200), 199);
        NumberGoblets v = ofSize(201);
        due("largest count of 201", v.pour(0, 200), 200);
        due("largest count of the last one", v.pour(0, 200), 1);
        due("none is left", v.inJug(), 0);
        NumberGoblets u = withAllDrunk();
        u.giveBack(9);
        u.giveBack(50);
        due("more than several ranges have", u.pour(4, 3), 2);
        due("inGoblet", u.inGoblet(4), 2);
    }

    private static void pourThrowsIfThereIsNoSuchGoblet() {
        refusedIndex("goblet -1", BoundariesTest::withTwoRangesInGobletZero, x -> x.pour(-1, 1));
        refusedIndex("goblet 8", BoundariesTest::withTwoRangesInGobletZero, x -> x.pour(8, 200));
        refusedIndex("goblet -1 of an empty jug", BoundariesTest::withEmptyJug, x -> x.pour(-1, 1));
        refusedIndex("goblet 8 of an empty jug", BoundariesTest::withEmptyJug, x -> x.pour(8, 1));
    }

    private static void pourThrowsIfCountIsOutOfRange() {
        refusedArgument("count 0", BoundariesTest::withTwoRangesInGobletZero, x -> x.pour(0, 0));
        refusedArgument("count -1", BoundariesTest::withTwoRangesInGobletZero, x -> x.pour(0, -1));
        refusedArgument("count 201", BoundariesTest::withTwoRangesInGobletZero, x -> x.pour(7, 201));
        refusedArgument("count 201 of a larger jug", () -> ofSize(201), x -> x.pour(0, 201));
        refusedArgument("count 0 of an empty jug", BoundariesTest::withEmptyJug, x -> x.pour(0, 0));
        refusedArgument("count 201 of an empty jug", BoundariesTest::withEmptyJug, x -> x.pour(0, 201));
    }

    private static void pourThrowsIfTheJugIsEmpty() {
        refusedState("empty jug, a goblet that has some", BoundariesTest::withEmptyJug, x -> x.pour(0, 200));
        refusedState("empty jug, an empty goblet", BoundariesTest::withEmptyJug, x -> x.pour(1, 1));
        refusedState("all drunk", BoundariesTest::withAllDrunk, x -> x.pour(0, 1));
        NumberGoblets x = new NumberGoblets();
        x.pour(0, 99);
        due("one in the jug", x.pour(1, 1), 1);
        noState("empty jug", () -> x.pour(2, 1));
        x.pourBack(1);
        due("one in the jug again", x.pour(2, 2), 1);
        noState("empty jug again", () -> x.pour(2, 1));
        x.enlarge(101);
        due("a larger jug", x.pour(2, 1), 1);
    }

    // ---- 4: drink

    private static void drinkTakesTheLowestOfTheGoblet() {
        NumberGoblets x = withTwoRangesInGobletZero();
        int[] numbers = {1, 2, 3, 4, 9, 10};
        for (int number : numbers) {
            due("drink", x.drink(0), number);
            due("placeOf(" + number + ")", x.placeOf(number), DRUNK);
        }
        due("inGoblet", x.inGoblet(0), 0);
        due("inJug", x.inJug(), 90);
        x.giveBack(1);
        due("not the lower one of the jug", x.drink(1), 5);
        x.pour(1, 1);
        due("a lower one that was poured to it", x.drink(1), 1);
    }

    private static void drinkFromAnEmptyGobletPoursOneAhead() {
        NumberGoblets x = withTwoRangesInGobletZero();
        due("empty goblet", x.drink(7), 11);
        due("placeOf(11)", x.placeOf(11), DRUNK);
        due("placeOf(12)", x.placeOf(12), JUG);
        due("only one is poured", x.inJug(), 89);
        due("nothing stays in the goblet", x.inGoblet(7), 0);
        x.giveBack(11);
        x.pour(7, 1);
        due("one in the goblet", x.drink(7), 11);
        due("nothing is poured for it", x.inJug(), 89);
        x.pourBack(0);
        due("the lowest of the jug", x.drink(0), 1);
        NumberGoblets y = new NumberGoblets();
        y.pour(0, 99);
        due("the last one of the jug", y.drink(1), 100);
        due("the jug is empty", y.inJug(), 0);
    }

    private static void drinkGobletIsZeroToSeven() {
        NumberGoblets x = withTenInEach();
        gobletsAreZeroToSeven(x, NumberGoblets::drink);
        for (int goblet = 0; goblet < 8; goblet++) {
            due("inGoblet(" + goblet + ")", x.inGoblet(goblet), 9);
            due("placeOf its lowest", x.placeOf(10 * goblet + 1), DRUNK);
        }
    }

    private static void drinkThrowsIfThereIsNoSuchGoblet() {
        refusedIndex("goblet -1", NumberGoblets::new, x -> x.drink(-1));
        refusedIndex("goblet 8", NumberGoblets::new, x -> x.drink(8));
        refusedIndex("goblet -1, all empty", BoundariesTest::withAllDrunk, x -> x.drink(-1));
        refusedIndex("goblet 8, all empty", BoundariesTest::withAllDrunk, x -> x.drink(8));
    }

    private static void drinkThrowsIfTheGobletAndTheJugAreEmpty() {
        refusedState("both empty, another goblet has some", BoundariesTest::withEmptyJug, x -> x.drink(1));
        refusedState("all drunk", BoundariesTest::withAllDrunk, x -> x.drink(0));
        NumberGoblets x = withEmptyJug();
        due("empty jug, full goblet", x.drink(0), 1);
        drinkTimes(x, 0, 98);
        due("empty jug, one in the goblet", x.drink(0), 100);
        noState("both empty then", () -> x.drink(0));
        x.giveBack(60);
        due("one in the jug", x.drink(0), 60);
        noState("both empty again", () -> x.drink(0));
    }

    // ---- 5: pourBack

    private static void pourBackPoursAllBack() {
        NumberGoblets x = withTwoRangesInGobletZero();
        x.pourBack(0);
        due("inGoblet(0)", x.inGoblet(0), 0);
        due("inGoblet(1) stays", x.inGoblet(1), 4);
        jugIs("its first and its last number are back", x, 1, 4, 9, 100);
        x.pourBack(1);
        jugIs("the ranges grow together", x, 1, 100);
        x.drink(2);
        x.pour(2, 2);
        x.drink(2);
        x.pourBack(2);
        due("what was drunk before stays drunk", x.drunk(), 2);
        jugIs("only what is left", x, 3, 100);
    }

    private static void pourBackGobletIsZeroToSeven() {
        NumberGoblets x = withTenInEach();
        gobletsAreZeroToSeven(x, NumberGoblets::pourBack);
        jugIs("each is poured back", x, 1, 100);
    }

    private static void pourBackReturnsHowMany() {
        NumberGoblets x = ofSize(5000);
        due("an empty goblet", x.pourBack(3), 0);
        x.pour(3, 1);
        due("one", x.pourBack(3), 1);
        due("at once again", x.pourBack(3), 0);
        x.pour(3, 200);
        x.pour(3, 1);
        due("more than a count", x.pourBack(3), 201);
        pourTimes(x, 3, 200, 25);
        due("the whole of the largest jug", x.pourBack(3), 5000);
        due("two ranges", withTwoRangesInGobletZero().pourBack(0), 6);
        due("into an empty jug", withEmptyJug().pourBack(0), 100);
        due("an empty goblet, an empty jug", withEmptyJug().pourBack(1), 0);
    }

    private static void pourBackThrowsIfThereIsNoSuchGoblet() {
        refusedIndex("goblet -1", BoundariesTest::withTwoRangesInGobletZero, x -> x.pourBack(-1));
        refusedIndex("goblet 8", BoundariesTest::withTwoRangesInGobletZero, x -> x.pourBack(8));
        refusedIndex("goblet 9, the place of the drunk", BoundariesTest::withSomeAtEachPlace, x -> x.pourBack(9));
        refusedIndex("goblet 10, the place of the spilt", BoundariesTest::withSomeAtEachPlace, x -> x.pourBack(10));
    }

    // ---- 6: share

    private static void sharePoursTheHighestNumbers() {
        NumberGoblets x = withTwoRangesInGobletZero();
        x.share(0, 2, 1);
        due("placeOf(10), the highest", x.placeOf(10), 2);
        due("placeOf(9)", x.placeOf(9), 0);
        x.share(0, 2, 2);
        due("placeOf(9), in the next range", x.placeOf(9), 2);
        due("placeOf(4), the lowest poured", x.placeOf(4), 2);
        due("placeOf(3), the highest that stays", x.placeOf(3), 0);
        x.share(0, 1, 2);
        placesAre(x, 2, 3, 1);
        due("placeOf(1) stays", x.placeOf(1), 0);
        due("the jug stays", x.inJug(), 90);
    }

    private static void shareFromIsZeroToSeven() {
        NumberGoblets x = withTenInEach();
        gobletsAreZeroToSeven(x, (party, goblet) -> party.share(goblet, (goblet & 7) == 7 ? 0 : 7, 1));
        due("placeOf(10), from 0", x.placeOf(10), 7);
        due("the highest of 7, which came from 6", x.placeOf(80), 0);
    }

    private static void shareToIsZeroToSeven() {
        NumberGoblets x = withTenInEach();
        gobletsAreZeroToSeven(x, (party, goblet) -> party.share((goblet & 7) == 3 ? 4 : 3, goblet, 1));
        due("placeOf(40), to 0", x.placeOf(40), 0);
        due("inGoblet(7)", x.inGoblet(7), 11);
    }

    private static void shareToIsAnotherGoblet() {
        NumberGoblets x = withTenInEach();
        for (int goblet = 0; goblet < 8; goblet++) {
            int same = goblet;
            noArgument("from and to " + same, () -> x.share(same, same, 1));
        }
        NumberGoblets y = new NumberGoblets();
        noArgument("the same empty one", () -> y.share(3, 3, 1));
        due("the next one", x.share(3, 4, 1), 1);
        due("the one before", x.share(3, 2, 1), 1);
    }

    private static void shareCountIsOneTo200() {
        NumberGoblets x = ofSize(1000);
        pourTimes(x, 0, 200, 4);
        for (int count : new int[] {0, -1, 201, 800, Integer.MIN_VALUE, Integer.MAX_VALUE}) {
            noArgument("count " + count, () -> x.share(0, 1, count));
        }
        due("count 1", x.share(0, 1, 1), 1);
        due("count 199", x.share(0, 1, 199), 199);
        due("count 200", x.share(0, 1, 200), 200);
        due("placeOf(400)", x.placeOf(400), 0);
        due("placeOf(401)", x.placeOf(401), 1);
    }

    private static void shareReturnsAllIfItHasNoMoreThanCount() {
        NumberGoblets x = withTwoRangesInGobletZero();
        due("one less than it has", x.share(0, 2, 5), 5);
        due("one stays", x.inGoblet(0), 1);
        due("the lowest one", x.placeOf(1), 0);
        NumberGoblets y = withTwoRangesInGobletZero();
        due("just what it has", y.share(0, 2, 6), 6);
        due("none stays", y.inGoblet(0), 0);
        NumberGoblets z = withTwoRangesInGobletZero();
        due("one more than it has", z.share(0, 2, 7), 6);
        due("none stays", z.inGoblet(0), 0);
        due("inGoblet(2)", z.inGoblet(2), 6);
        due("inGoblet(1)", z.inGoblet(1), 4);
        NumberGoblets w = ofSize(1000);
        w.pour(0, 200);
        due("200 of 200", w.share(0, 1, 200), 200);
        w.pour(1, 1);
        due("200 of 201", w.share(1, 2, 200), 200);
        due("one stays", w.inGoblet(1), 1);
        due("200 of 1", w.share(1, 0, 200), 1);
    }

    private static void shareOfAnEmptyGobletPoursNone() {
        NumberGoblets x = withTwoRangesInGobletZero();
        due("1 of none", x.share(5, 0, 1), 0);
        due("200 of none", x.share(5, 6, 200), 0);
        isUnchanged("sharing none", x, BoundariesTest::withTwoRangesInGobletZero);
        due("1 of none, the jug is empty", withEmptyJug().share(1, 0, 1), 0);
    }

    private static void shareThrowsIfThereIsNoSuchGoblet() {
        refusedIndex("from -1", BoundariesTest::withTenInEach, x -> x.share(-1, 0, 1));
        refusedIndex("from 8, the jug's place", BoundariesTest::withTenInEach, x -> x.share(8, 0, 1));
        refusedIndex("to -1", BoundariesTest::withTenInEach, x -> x.share(0, -1, 1));
        refusedIndex("to 8, the jug's place", BoundariesTest::withTenInEach, x -> x.share(0, 8, 1));
        refusedIndex("an empty goblet, to 8", NumberGoblets::new, x -> x.share(0, 8, 1));
        refusedIndex("both 8", BoundariesTest::withTenInEach, x -> x.share(8, 8, 1));
        refusedIndex("both -1", BoundariesTest::withTenInEach, x -> x.share(-1, -1, 1));
    }

    private static void shareThrowsIfBothAreTheSameOrCountIsOutOfRange() {
        refusedArgument("the same", BoundariesTest::withTenInEach, x -> x.share(0, 0, 200));
        refusedArgument("the same empty one", NumberGoblets::new, x -> x.share(3, 3, 1));
        refusedArgument("the same and count 0", BoundariesTest::withTenInEach, x -> x.share(7, 7, 0));
        refusedArgument("count 0", BoundariesTest::withTenInEach, x -> x.share(0, 1, 0));
        refusedArgument("count -1", BoundariesTest::withTenInEach, x -> x.share(0, 1, -1));
        refusedArgument("count 201", BoundariesTest::withTenInEach, x -> x.share(0, 1, 201));
        refusedArgument("count 0 of an empty goblet", NumberGoblets::new, x -> x.share(0, 1, 0));
        refusedArgument("count 201 of an empty goblet", NumberGoblets::new, x -> x.share(0, 1, 201));
    }

    // ---- 7: giveBack

    private static void giveBackBringsADrunkNumberIntoTheJug() {
        NumberGoblets x = withAllDrunk();
        x.giveBack(100);
        x.giveBack(1);
        jugIs("the lowest and the highest one", x, 1, 1, 100, 100);
        x.giveBack(3);
        jugIs("one between", x, 1, 1, 3, 3, 100, 100);
        x.giveBack(4);
        jugIs("touching from above", x, 1, 1, 3, 4, 100, 100);
        x.giveBack(99);
        jugIs("touching from below", x, 1, 1, 3, 4, 99, 100);
        x.giveBack(2);
        jugIs("touching on both sides", x, 1, 4, 99, 100);
        due("drunk", x.drunk(), 94);
        due("placeOf(5) stays", x.placeOf(5), DRUNK);
        due("placeOf(98) stays", x.placeOf(98), DRUNK);
        due("it can be drunk again", x.drink(0), 1);
    }

    private static void giveBackReturnsHowManyAreInTheJugThen() {
        NumberGoblets x = withAllDrunk();
        due("into an empty jug", x.giveBack(50), 1);
        due("then", x.giveBack(51), 2);
        NumberGoblets y = new NumberGoblets();
        y.drink(0);
        due("the jug becomes full", y.giveBack(1), 100);
        NumberGoblets z = withSomeAtEachPlace();
        due("others are elsewhere", z.giveBack(2), 95);
        due("inJug", z.inJug(), 95);
    }

    private static void giveBackTakesAnyNumber() {
        for (int number : new int[] {Integer.MIN_VALUE, -5000, -1, 0, 101, 5000, 5001, 65536 + 1, Integer.MAX_VALUE}) {
            refusedState("giveBack(" + number + ")", BoundariesTest::withSomeAtEachPlace, x -> x.giveBack(number));
        }
        NumberGoblets y = ofSize(5000);
        pourTimes(y, 0, 200, 24);
        pourTimes(y, 0, 199, 1);
        due("drink of 5000", y.drink(1), 5000);
        noState("4999", () -> y.giveBack(4999));
        noState("5001", () -> y.giveBack(5001));
        due("5000", y.giveBack(5000), 1);
    }

    private static void giveBackThrowsIfItIsNotDrunk() {
        int[] notDrunk = {0, 3, 4, 5, 6, 7, 100, 101};
        for (int number : notDrunk) {
            refusedState("giveBack(" + number + ")", BoundariesTest::withSomeAtEachPlace, x -> x.giveBack(number));
        }
        NumberGoblets x = withSomeAtEachPlace();
        due("1, drunk", x.giveBack(1), 95);
        due("2, drunk", x.giveBack(2), 96);
        noState("1, given back already", () -> x.giveBack(1));
        noState("2, given back already", () -> x.giveBack(2));
        NumberGoblets y = withAllDrunk();
        y.nextRound();
        noState("100, drunk in the round before", () -> y.giveBack(100));
    }

    // ---- 8: spill

    private static void spillSpillsWhatTheGobletHas() {
        NumberGoblets x = withTwoRangesInGobletZero();
        x.drink(0);
        x.spill(0);
        due("placeOf(1), drunk before", x.placeOf(1), DRUNK);
        placesAre(x, 2, 4, SPILT);
        placesAre(x, 5, 8, 1);
        placesAre(x, 9, 10, SPILT);
        due("placeOf(11)", x.placeOf(11), JUG);
        due("inGoblet(0)", x.inGoblet(0), 0);
        due("spilt", x.spilt(), 5);
        x.pour(0, 1);
        due("the goblet can be used again", x.placeOf(11), 0);
    }

    private static void spillGobletIsZeroToSeven() {
        NumberGoblets x = withTenInEach();
        gobletsAreZeroToSeven(x, NumberGoblets::spill);
        placesAre(x, 1, 80, SPILT);
        due("placeOf(81)", x.placeOf(81), JUG);
    }

    private static void spillReturnsHowMany() {
        NumberGoblets x = ofSize(5000);
        due("an empty goblet", x.spill(4), 0);
        due("nothing is spilt", x.spilt(), 0);
        due("nothing comes from the jug", x.inJug(), 5000);
        x.pour(4, 1);
        due("one", x.spill(4), 1);
        due("at once again", x.spill(4), 0);
        x.pour(4, 200);
        x.pour(4, 1);
        due("more than a count", x.spill(4), 201);
        NumberGoblets y = ofSize(5000);
        pourTimes(y, 4, 200, 25);
        due("the whole of the largest jug", y.spill(4), 5000);
        due("two ranges", withTwoRangesInGobletZero().spill(0), 6);
        due("an empty goblet, an empty jug", withEmptyJug().spill(1), 0);
    }

    private static void spillThrowsIfThereIsNoSuchGoblet() {
        refusedIndex("goblet -1", BoundariesTest::withTwoRangesInGobletZero, x -> x.spill(-1));
        refusedIndex("goblet 8, the jug's place", BoundariesTest::withTwoRangesInGobletZero, x -> x.spill(8));
        refusedIndex("goblet 9, the place of the drunk", BoundariesTest::withSomeAtEachPlace, x -> x.spill(9));
    }

    // ---- 9: nextRound

    private static void nextRoundBringsAllBackIntoTheJug() {
        NumberGoblets x = withSomeAtEachPlace();
        x.spill(5);
        drinkTimes(x, 0, 94);
        x.nextRound();
        jugIs("some drunk, some spilt", x, 1, 100);
        due("drunk", x.drunk(), 0);
        due("spilt", x.spilt(), 0);
        NumberGoblets y = withAllDrunk();
        y.nextRound();
        jugIs("all drunk", y, 1, 100);
        NumberGoblets z = withEmptyJug();
        z.spill(0);
        z.nextRound();
        jugIs("all spilt", z, 1, 100);
        NumberGoblets w = ofSize(5000);
        pourTimes(w, 0, 200, 25);
        w.drink(0);
        w.spill(0);
        w.nextRound();
        jugIs("the largest jug", w, 1, 5000);
        due("its size stays", w.size(), 5000);
    }

    private static void nextRoundReturnsTwoForTheFirstTime() {
        NumberGoblets x = withAllDrunk();
        due("round before", x.round(), 1);
        due("the first time", x.nextRound(), 2);
        for (int round = 3; round <= 100; round++) {
            x.pour(0, 100);
            x.spill(0);
            due("the next time", x.nextRound(), round);
        }
        due("round", x.round(), 100);
    }

    private static void nextRoundThrowsIfTheJugIsNotEmpty() {
        refusedState("a full jug", NumberGoblets::new, NumberGoblets::nextRound);
        refusedState("some at each place", BoundariesTest::withSomeAtEachPlace, NumberGoblets::nextRound);
        NumberGoblets x = new NumberGoblets();
        drinkTimes(x, 0, 99);
        noState("100 in the jug", () -> x.nextRound());
        x.drink(0);
        x.giveBack(1);
        noState("1 in the jug", () -> x.nextRound());
        x.drink(7);
        due("an empty jug", x.nextRound(), 2);
        noState("a full jug again", () -> x.nextRound());
        NumberGoblets y = withAllDrunk();
        y.enlarge(101);
        noState("101 in a larger jug", () -> y.nextRound());
        y.drink(0);
        due("an empty larger jug", y.nextRound(), 2);
        due("inJug", y.inJug(), 101);
    }

    private static void nextRoundThrowsIfSomeGobletIsNotEmpty() {
        refusedState("all in a goblet", BoundariesTest::withEmptyJug, NumberGoblets::nextRound);
        for (int goblet = 0; goblet < 8; goblet++) {
            NumberGoblets x = new NumberGoblets();
            drinkTimes(x, (goblet + 1) % 8, 99);
            x.pour(goblet, 1);
            noState("100 in goblet " + goblet, () -> x.nextRound());
            x.drink(goblet);
            due("no number in goblet " + goblet, x.nextRound(), 2);
        }
        NumberGoblets y = withEmptyJug();
        y.share(0, 5, 1);
        y.spill(0);
        noState("one in a goblet, the others spilt", () -> y.nextRound());
        y.spill(5);
        due("all spilt", y.nextRound(), 2);
    }

    // ---- 10 to 12: size, round, inJug

    private static void sizeIsThatOfTheJug() {
        NumberGoblets x = new NumberGoblets();
        due("new", x.size(), 100);
        x.pour(0, 100);
        due("an empty jug", x.size(), 100);
        x.spill(0);
        due("all spilt", x.size(), 100);
        x.enlarge(101);
        due("by one", x.size(), 101);
        x.enlarge(5000);
        due("the largest", x.size(), 5000);
        NumberGoblets y = withAllDrunk();
        y.nextRound();
        due("in the next round", y.size(), 100);
    }

    private static void roundStartsWithOne() {
        NumberGoblets x = withAllDrunk();
        due("before the first next round", x.round(), 1);
        x.nextRound();
        due("after it", x.round(), 2);
        noState("a refused next round", () -> x.nextRound());
        due("after a refused one", x.round(), 2);
        x.enlarge(200);
        due("after enlarging", x.round(), 2);
    }

    private static void inJugOfTheFullAndTheEmptyJug() {
        NumberGoblets x = new NumberGoblets();
        due("full", x.inJug(), 100);
        x.pour(0, 99);
        due("one", x.inJug(), 1);
        x.pour(0, 1);
        due("empty", x.inJug(), 0);
        x.enlarge(5000);
        due("all the new ones", x.inJug(), 4900);
        x.pourBack(0);
        due("full of 5000", x.inJug(), 5000);
        NumberGoblets y = withAllDrunk();
        due("all drunk", y.inJug(), 0);
        y.giveBack(1);
        y.giveBack(100);
        due("the first and the last one", y.inJug(), 2);
    }

    // ---- 13 to 16: the ranges of the jug

    private static void rangesAreAsFewAsCanBe() {
        NumberGoblets x = new NumberGoblets();
        due("a full jug", x.ranges(), 1);
        x.pour(0, 99);
        due("one number", x.ranges(), 1);
        x.pour(0, 1);
        due("an empty jug", x.ranges(), 0);
        NumberGoblets y = withAllDrunk();
        for (int number = 1; number <= 99; number += 2) {
            y.giveBack(number);
            due("none touches another", y.ranges(), (number + 1) / 2);
        }
        for (int number = 2; number <= 98; number += 2) {
            y.giveBack(number);
            due("two grow together", y.ranges(), 50 - number / 2);
        }
        y.giveBack(100);
        due("all of them", y.ranges(), 1);
    }

    private static void rangeFromIsTheLowestByRisingNumbers() {
        NumberGoblets x = withAllDrunk();
        x.giveBack(90);
        x.giveBack(1);
        x.giveBack(40);
        x.giveBack(39);
        due("range 0", x.rangeFrom(0), 1);
        due("range 1", x.rangeFrom(1), 39);
        due("range 2", x.rangeFrom(2), 90);
        due("of a full jug", new NumberGoblets().rangeFrom(0), 1);
    }

    private static void rangeFromThrowsIfThereIsNoSuchRange() {
        refusedIndex("-1", NumberGoblets::new, x -> x.rangeFrom(-1));
        refusedIndex("1 of one", NumberGoblets::new, x -> x.rangeFrom(1));
        refusedIndex("the lowest int", NumberGoblets::new, x -> x.rangeFrom(Integer.MIN_VALUE));
        refusedIndex("the highest int", NumberGoblets::new, x -> x.rangeFrom(Integer.MAX_VALUE));
        refusedIndex("0 of an empty jug", BoundariesTest::withAllDrunk, x -> x.rangeFrom(0));
        refusedIndex("-1 of an empty jug", BoundariesTest::withAllDrunk, x -> x.rangeFrom(-1));
        NumberGoblets y = withAllDrunk();
        y.giveBack(5);
        y.giveBack(100);
        due("1 of two", y.rangeFrom(1), 100);
        noIndex("2 of two", () -> y.rangeFrom(2));
    }

    private static void rangeToIsTheHighestByRisingNumbers() {
        NumberGoblets x = withAllDrunk();
        x.giveBack(90);
        x.giveBack(1);
        x.giveBack(39);
        x.giveBack(40);
        due("range 0", x.rangeTo(0), 1);
        due("range 1", x.rangeTo(1), 40);
        due("range 2", x.rangeTo(2), 90);
        due("of a full jug", new NumberGoblets().rangeTo(0), 100);
        due("of the largest jug", ofSize(5000).rangeTo(0), 5000);
    }

    private static void rangeToThrowsIfThereIsNoSuchRange() {
        refusedIndex("-1", NumberGoblets::new, x -> x.rangeTo(-1));
        refusedIndex("1 of one", NumberGoblets::new, x -> x.rangeTo(1));
        refusedIndex("the lowest int", NumberGoblets::new, x -> x.rangeTo(Integer.MIN_VALUE));
        refusedIndex("the highest int", NumberGoblets::new, x -> x.rangeTo(Integer.MAX_VALUE));
        refusedIndex("0 of an empty jug", BoundariesTest::withAllDrunk, x -> x.rangeTo(0));
        refusedIndex("-1 of an empty jug", BoundariesTest::withAllDrunk, x -> x.rangeTo(-1));
        NumberGoblets y = withAllDrunk();
        y.giveBack(5);
        y.giveBack(100);
        due("1 of two", y.rangeTo(1), 100);
        noIndex("2 of two", () -> y.rangeTo(2));
    }

    private static void longestRangeOfSeveralIsTheFirst() {
        NumberGoblets x = withAllDrunk();
        x.giveBack(10);
        due("the only one", x.longestRange(), 0);
        x.giveBack(20);
        x.giveBack(30);
        due("three of one number", x.longestRange(), 0);
        x.giveBack(31);
        due("the last one is the longest", x.longestRange(), 2);
        x.giveBack(19);
        due("the second one is as long", x.longestRange(), 1);
        x.giveBack(9);
        due("the first one is as long", x.longestRange(), 0);
        x.giveBack(21);
        due("the second one is longer by one", x.longestRange(), 1);
    }

    private static void longestRangeOfAnEmptyJug() {
        NumberGoblets x = new NumberGoblets();
        due("a full jug", x.longestRange(), 0);
        x.pour(0, 99);
        due("one number", x.longestRange(), 0);
        x.pour(0, 1);
        due("an empty jug, a full goblet", x.longestRange(), -1);
        due("an empty jug, all drunk", withAllDrunk().longestRange(), -1);
    }

    // ---- 17 to 19: a goblet

    private static void inGobletTellsHowMany() {
        NumberGoblets x = ofSize(5000);
        due("empty", x.inGoblet(6), 0);
        x.pour(6, 1);
        due("one", x.inGoblet(6), 1);
        x.drink(6);
        due("empty again", x.inGoblet(6), 0);
        pourTimes(x, 6, 200, 24);
        x.pour(6, 199);
        due("all others", x.inGoblet(6), 4999);
        due("goblet 5 beside it", x.inGoblet(5), 0);
        due("goblet 7 beside it", x.inGoblet(7), 0);
    }

    private static void inGobletIsZeroToSeven() {
        NumberGoblets x = withTenInEach();
        gobletsAreZeroToSeven(x, NumberGoblets::inGoblet);
    }

    private static void inGobletThrowsIfThereIsNoSuchGoblet() {
        refusedIndex("-1, the place above the size", BoundariesTest::withSomeAtEachPlace, x -> x.inGoblet(-1));
        refusedIndex("8, the jug's place", BoundariesTest::withSomeAtEachPlace, x -> x.inGoblet(8));
        refusedIndex("9, the place of the drunk", BoundariesTest::withSomeAtEachPlace, x -> x.inGoblet(9));
        refusedIndex("10, the place of the spilt", BoundariesTest::withSomeAtEachPlace, x -> x.inGoblet(10));
    }

    private static void rangesOfTellsInHowManyRanges() {
        NumberGoblets x = new NumberGoblets();
        due("empty", x.rangesOf(0), 0);
        x.pour(0, 1);
        due("one number", x.rangesOf(0), 1);
        x.pour(1, 1);
        x.pour(0, 2);
        due("two ranges", x.rangesOf(0), 2);
        x.drink(0);
        due("the lower one is drunk", x.rangesOf(0), 1);
        x.share(1, 0, 1);
        due("the gap is filled", x.rangesOf(0), 1);
        due("empty by sharing", x.rangesOf(1), 0);
        x.giveBack(1);
        x.pour(0, 1);
        due("the lowest touches too", x.rangesOf(0), 1);
    }

    private static void rangesOfGobletIsZeroToSeven() {
        NumberGoblets x = withTenInEach();
        gobletsAreZeroToSeven(x, NumberGoblets::rangesOf);
    }

    private static void rangesOfThrowsIfThereIsNoSuchGoblet() {
        refusedIndex("-1, the place above the size", BoundariesTest::withSomeAtEachPlace, x -> x.rangesOf(-1));
        refusedIndex("8, the jug's place", BoundariesTest::withSomeAtEachPlace, x -> x.rangesOf(8));
        refusedIndex("9, the place of the drunk", BoundariesTest::withSomeAtEachPlace, x -> x.rangesOf(9));
        refusedIndex("10, the place of the spilt", BoundariesTest::withSomeAtEachPlace, x -> x.rangesOf(10));
    }

    private static void nextOfIsWhatWouldBeDrunk() {
        NumberGoblets x = withTwoRangesInGobletZero();
        due("a goblet that has some", x.nextOf(0), 1);
        due("an empty goblet", x.nextOf(7), 11);
        isUnchanged("asking", x, BoundariesTest::withTwoRangesInGobletZero);
        due("drink of the first", x.drink(0), 1);
        due("drink of the second", x.drink(7), 11);
        x.giveBack(1);
        due("a goblet above the jug's lowest", x.nextOf(1), 5);
        due("an empty goblet, the jug's lowest", x.nextOf(7), 1);
    }

    private static void nextOfIsZeroIfTheGobletAndTheJugAreEmpty() {
        NumberGoblets x = withEmptyJug();
        due("empty jug, full goblet", x.nextOf(0), 1);
        due("both empty", x.nextOf(1), 0);
        drinkTimes(x, 0, 99);
        due("empty jug, one in the goblet", x.nextOf(0), 100);
        x.drink(0);
        due("both empty then", x.nextOf(0), 0);
        x.giveBack(100);
        due("one in the jug", x.nextOf(0), 100);
        x.drink(0);
        x.enlarge(101);
        due("one in a larger jug", x.nextOf(0), 101);
    }

    private static void nextOfGobletIsZeroToSeven() {
        NumberGoblets x = withTenInEach();
        gobletsAreZeroToSeven(x, NumberGoblets::nextOf);
    }

    private static void nextOfThrowsIfThereIsNoSuchGoblet() {
        refusedIndex("-1, the place above the size", BoundariesTest::withSomeAtEachPlace, x -> x.nextOf(-1));
        refusedIndex("8, the jug's place", BoundariesTest::withSomeAtEachPlace, x -> x.nextOf(8));
        refusedIndex("9, the place of the drunk", BoundariesTest::withSomeAtEachPlace, x -> x.nextOf(9));
        refusedIndex("10, the place of the spilt", BoundariesTest::withSomeAtEachPlace, x -> x.nextOf(10));
        refusedIndex("8, all empty", BoundariesTest::withAllDrunk, x -> x.nextOf(8));
        refusedIndex("-1, all empty", BoundariesTest::withAllDrunk, x -> x.nextOf(-1));
    }

    // ---- 20 to 23: a number

    private static void placeOfTellsEachPlace() {
        NumberGoblets x = withTenInEach();
        for (int goblet = 0; goblet < 8; goblet++) {
            placesAre(x, 10 * goblet + 1, 10 * goblet + 10, goblet);
        }
        placesAre(x, 81, 100, 8);
        x.drink(0);
        due("the one that is drunk", x.placeOf(1), 9);
        due("the next one", x.placeOf(2), 0);
        x.spill(7);
        due("the last before those that are spilt", x.placeOf(70), 6);
        due("the first that is spilt", x.placeOf(71), 10);
        due("the last that is spilt", x.placeOf(80), 10);
        due("the first after them", x.placeOf(81), 8);
    }

    private static void placeOfNoSuchNumber() {
        NumberGoblets x = new NumberGoblets();
        for (int number : new int[] {Integer.MIN_VALUE, -5000, -100, -1, 0, 101, 4999, 5000, 5001, 65536 + 1,
            Integer.MAX_VALUE}) {
            due("placeOf(" + number + ")", x.placeOf(number), -1);
        }
        x.enlarge(4999);
        due("the size", x.placeOf(4999), 8);
        due("above the size", x.placeOf(5000), -1);
        x.enlarge(5000);
        due("the largest size", x.placeOf(5000), 8);
        due("above the largest size", x.placeOf(5001), -1);
        due("0", x.placeOf(0), -1);
    }

    private static void drunkOfNoneAndOfAll() {
        NumberGoblets x = new NumberGoblets();
        due("none", x.drunk(), 0);
        x.pour(0, 50);
        due("poured, but not drunk", x.drunk(), 0);
        x.drink(0);
        due("one", x.drunk(), 1);
        noState("a refused call", () -> x.giveBack(2));
        x.spill(0);
        due("spilt, but not drunk", x.drunk(), 1);
        x.giveBack(1);
        due("none again", x.drunk(), 0);
        NumberGoblets y = withAllDrunk();
        due("all", y.drunk(), 100);
        y.nextRound();
        due("none in the next round", y.drunk(), 0);
    }

    private static void spiltOfNoneAndOfAll() {
        NumberGoblets x = new NumberGoblets();
        due("none", x.spilt(), 0);
        x.spill(0);
        due("an empty goblet", x.spilt(), 0);
        x.pour(0, 2);
        x.drink(0);
        due("poured and drunk, but not spilt", x.spilt(), 0);
        x.spill(0);
        due("one", x.spilt(), 1);
        x.pour(0, 98);
        x.spill(0);
        due("all but the drunk one", x.spilt(), 99);
        x.nextRound();
        due("none in the next round", x.spilt(), 0);
        x.pour(1, 100);
        x.spill(1);
        due("all", x.spilt(), 100);
    }

    private static void lowestLeftWhereverItIs() {
        NumberGoblets x = new NumberGoblets();
        due("in the jug", x.lowestLeft(), 1);
        x.pour(7, 2);
        due("in a goblet", x.lowestLeft(), 1);
        x.spill(7);
        due("spilt", x.lowestLeft(), 1);
        NumberGoblets y = new NumberGoblets();
        y.drink(0);
        due("the first is drunk, in the jug", y.lowestLeft(), 2);
        y.pour(0, 2);
        due("the first is drunk, in a goblet", y.lowestLeft(), 2);
        y.drink(0);
        y.spill(0);
        due("two are drunk, spilt", y.lowestLeft(), 3);
        y.giveBack(2);
        due("given back", y.lowestLeft(), 2);
    }

    private static void lowestLeftIsZeroIfAllAreDrunk() {
        NumberGoblets x = new NumberGoblets();
        drinkTimes(x, 0, 99);
        due("all but the last one", x.lowestLeft(), 100);
        x.drink(0);
        due("all", x.lowestLeft(), 0);
        x.enlarge(101);
        due("a larger jug", x.lowestLeft(), 101);
        x.pour(1, 1);
        x.spill(1);
        due("the last one is spilt", x.lowestLeft(), 101);
        x.nextRound();
        due("the next round", x.lowestLeft(), 1);
        drinkTimes(x, 0, 101);
        due("all again", x.lowestLeft(), 0);
    }

    // ---- what the document says of the whole

    private static void the512thCallIsStillAnswered() {
        NumberGoblets x = new NumberGoblets();
        x.enlarge(5000);
        drinkTimes(x, 0, 340);
        for (int number = 1; number <= 339; number += 2) {
            x.giveBack(number);
        }
        due("the 512th call", x.ranges(), 171);
        NumberGoblets y = ofSize(5000);
        for (int call = 2; call < 512; call++) {
            y.pour(call % 8, 1 + call % 9);
        }
        due("the 512th call", y.drink(1), 43);
    }

    private static void noNumberIsOutTwice() {
        NumberGoblets x = withTenInEach();
        x.share(3, 0, 5);
        x.spill(4);
        x.drink(0);
        x.pourBack(5);
        int out = 0;
        for (int goblet = 0; goblet < 8; goblet++) {
            out += x.inGoblet(goblet);
        }
        due("in goblets", out, 59);
        due("each number is at one place", out + x.inJug() + x.drunk() + x.spilt(), 100);
    }

    // ---- the row of the tests

    private static void test(String sentence, Runnable body) {
        test = sentence;
        tests++;
        int before = wrong;
        try {
            body.run();
        } catch (RuntimeException e) {
            wrong("a call threw " + e.getClass().getName() + ", due is an answer");
        }
        if (wrong != before) {
            failedTests++;
        }
    }

    private static void promises1To3() {
        test("1 A full jug of the size 100", BoundariesTest::newJugIsFullOfSize100);
        test("1 eight empty goblets", BoundariesTest::newObjectHasEightEmptyGoblets);
        test("2 the numbers above the old size come into it", BoundariesTest::enlargeBringsTheNumbersAboveTheOldSize);
        test("2 ranges grow together when they touch", BoundariesTest::enlargeTouchingTheJugsLastRange);
        test("2 size: above the old one", BoundariesTest::enlargeSizeIsAboveTheOldOne);
        test("2 size: up to 5000", BoundariesTest::enlargeSizeIsUpTo5000);
        test("2 Returns how many numbers are in the jug then", BoundariesTest::enlargeReturnsHowManyAreInTheJugThen);
        test("2 Throws if size is not so", BoundariesTest::enlargeThrowsIfSizeIsNotSo);
        test("3 The lowest numbers of the jug", BoundariesTest::pourTakesTheLowestOfTheJug);
        test("3 to those that it has", BoundariesTest::pourAddsToThoseThatTheGobletHas);
        test("3 goblet: 0 to 7", BoundariesTest::pourGobletIsZeroToSeven);
        test("3 count: 1 to 200", BoundariesTest::pourCountIsOneTo200);
        test("3 Returns fewer than count only if the jug becomes empty",
                BoundariesTest::pourReturnsFewerOnlyIfTheJugBecomesEmpty);
        test("3 Throws if there is no such goblet", BoundariesTest::pourThrowsIfThereIsNoSuchGoblet);
        test("3 Throws if count is out of range", BoundariesTest::pourThrowsIfCountIsOutOfRange);
        test("3 Throws if the jug is empty", BoundariesTest::pourThrowsIfTheJugIsEmpty);
    }

    private static void promises4To6() {
        test("4 The lowest number of a goblet is drunk", BoundariesTest::drinkTakesTheLowestOfTheGoblet);
        test("4 from an empty goblet, one number is poured into it ahead",
                BoundariesTest::drinkFromAnEmptyGobletPoursOneAhead);
        test("4 goblet: 0 to 7", BoundariesTest::drinkGobletIsZeroToSeven);
        test("4 Throws if there is no such goblet", BoundariesTest::drinkThrowsIfThereIsNoSuchGoblet);
        test("4 Throws if the goblet and the jug are empty", BoundariesTest::drinkThrowsIfTheGobletAndTheJugAreEmpty);
        test("5 All that a goblet has is poured back", BoundariesTest::pourBackPoursAllBack);
        test("5 goblet: 0 to 7", BoundariesTest::pourBackGobletIsZeroToSeven);
        test("5 Returns how many numbers", BoundariesTest::pourBackReturnsHowMany);
        test("5 Throws if there is no such goblet", BoundariesTest::pourBackThrowsIfThereIsNoSuchGoblet);
        test("6 its highest numbers", BoundariesTest::sharePoursTheHighestNumbers);
        test("6 from: 0 to 7", BoundariesTest::shareFromIsZeroToSeven);
        test("6 to: 0 to 7", BoundariesTest::shareToIsZeroToSeven);
        test("6 to: another one", BoundariesTest::shareToIsAnotherGoblet);
        test("6 count: 1 to 200", BoundariesTest::shareCountIsOneTo200);
        test("6 Returns all, if it has no more than count", BoundariesTest::shareReturnsAllIfItHasNoMoreThanCount);
        test("6 an empty goblet", BoundariesTest::shareOfAnEmptyGobletPoursNone);
        test("6 Throws if there is no such goblet", BoundariesTest::shareThrowsIfThereIsNoSuchGoblet);
        test("6 Throws if both are the same, or count is out of range",
                BoundariesTest::shareThrowsIfBothAreTheSameOrCountIsOutOfRange);
    }

    private static void promises7To9() {
        test("7 A number that was drunk comes back into the jug",
                BoundariesTest::giveBackBringsADrunkNumberIntoTheJug);
        test("7 Returns how many are in the jug then", BoundariesTest::giveBackReturnsHowManyAreInTheJugThen);
        test("7 number: any number", BoundariesTest::giveBackTakesAnyNumber);
        test("7 Throws if it is not drunk", BoundariesTest::giveBackThrowsIfItIsNotDrunk);
        test("8 what it has is spilt", BoundariesTest::spillSpillsWhatTheGobletHas);
        test("8 goblet: 0 to 7", BoundariesTest::spillGobletIsZeroToSeven);
        test("8 Returns how many numbers", BoundariesTest::spillReturnsHowMany);
        test("8 Throws if there is no such goblet", BoundariesTest::spillThrowsIfThereIsNoSuchGoblet);
        test("9 all numbers that are drunk or spilt come back", BoundariesTest::nextRoundBringsAllBackIntoTheJug);
        test("9 2 for the first time", BoundariesTest::nextRoundReturnsTwoForTheFirstTime);
        test("9 Throws if the jug is not empty", BoundariesTest::nextRoundThrowsIfTheJugIsNotEmpty);
        test("9 Throws if some goblet is not empty", BoundariesTest::nextRoundThrowsIfSomeGobletIsNotEmpty);
    }

    private static void promises10To16() {
        test("10 The size of the jug", BoundariesTest::sizeIsThatOfTheJug);
        test("11 The round", BoundariesTest::roundStartsWithOne);
        test("12 How many numbers are in the jug", BoundariesTest::inJugOfTheFullAndTheEmptyJug);
        test("13 as few as its numbers can be told by", BoundariesTest::rangesAreAsFewAsCanBe);
        test("14 range: from 0, by rising numbers", BoundariesTest::rangeFromIsTheLowestByRisingNumbers);
        test("14 Throws if there is no such range", BoundariesTest::rangeFromThrowsIfThereIsNoSuchRange);
        test("15 range: from 0, by rising numbers", BoundariesTest::rangeToIsTheHighestByRisingNumbers);
        test("15 Throws if there is no such range", BoundariesTest::rangeToThrowsIfThereIsNoSuchRange);
        test("16 of several that of the first one", BoundariesTest::longestRangeOfSeveralIsTheFirst);
        test("16 -1 if the jug is empty", BoundariesTest::longestRangeOfAnEmptyJug);
    }

    private static void promises17To19() {
        test("17 How many numbers a goblet has", BoundariesTest::inGobletTellsHowMany);
        test("17 goblet: 0 to 7", BoundariesTest::inGobletIsZeroToSeven);
        test("17 Throws if there is no such goblet", BoundariesTest::inGobletThrowsIfThereIsNoSuchGoblet);
        test("18 In how many ranges these are", BoundariesTest::rangesOfTellsInHowManyRanges);
        test("18 goblet: 0 to 7", BoundariesTest::rangesOfGobletIsZeroToSeven);
        test("18 Throws if there is no such goblet", BoundariesTest::rangesOfThrowsIfThereIsNoSuchGoblet);
        test("19 The number that would be drunk next", BoundariesTest::nextOfIsWhatWouldBeDrunk);
        test("19 0 if the goblet and the jug are empty", BoundariesTest::nextOfIsZeroIfTheGobletAndTheJugAreEmpty);
        test("19 goblet: 0 to 7", BoundariesTest::nextOfGobletIsZeroToSeven);
        test("19 Throws if there is no such goblet", BoundariesTest::nextOfThrowsIfThereIsNoSuchGoblet);
    }

    private static void promises20To23AndTheWhole() {
        test("20 0 to 7, 8, 9, 10", BoundariesTest::placeOfTellsEachPlace);
        test("20 -1: there is no such number", BoundariesTest::placeOfNoSuchNumber);
        test("21 How many numbers are drunk now", BoundariesTest::drunkOfNoneAndOfAll);
        test("22 How many numbers are spilt now", BoundariesTest::spiltOfNoneAndOfAll);
        test("23 wherever it is, also one that is spilt", BoundariesTest::lowestLeftWhereverItIs);
        test("23 0 if all are drunk", BoundariesTest::lowestLeftIsZeroIfAllAreDrunk);
        test("An object is used for at most 512 calls", BoundariesTest::the512thCallIsStillAnswered);
        test("Each number is at one place", BoundariesTest::noNumberIsOutTwice);
    }

    public static void main(String[] args) {
        promises1To3();
        promises4To6();
        promises7To9();
        promises10To16();
        promises17To19();
        promises20To23AndTheWhole();
        if (wrong != 0) {
            System.out.println(failedTests + " of " + tests + " tests failed");
            System.exit(1);
        }
        System.out.println("all " + tests + " tests passed");
    }
}
