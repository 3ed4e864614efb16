import java.util.Arrays;

/** One part for each promise of the document: ordinary inputs, the edges that it names, wrong inputs. */
public final class PromisesTest {
    private static final int[] NO_GOBLETS = {-1, 8, Integer.MIN_VALUE, Integer.MAX_VALUE};
    private static final int[] NO_COUNTS = {0, -1, 201, Integer.MIN_VALUE, Integer.MAX_VALUE};

    private static int wrong = 0;

    private interface Call {
        int answer();
    }

    private static void due(String what, int got, int want) {
        if (got != want) {
            wrong++;
            System.out.println(what + " answered " + got + ", due is " + want);
        }
    }

    private static void dueThrow(String what, Class<? extends RuntimeException> want, Call call) {
        String got;
        try {
            got = "nothing, but answered " + call.answer();
        } catch (RuntimeException e) {
            got = e.getClass().getName();
        }
        if (!got.equals(want.getName())) {
            wrong++;
            System.out.println(what + " threw " + got + ", due is " + want.getName());
        }
    }

    private static void dueIndex(String what, Call call) {
        dueThrow(what, IndexOutOfBoundsException.class, call);
    }

    private static void dueArgument(String what, Call call) {
        dueThrow(what, IllegalArgumentException.class, call);
    }

    private static void dueState(String what, Call call) {
        dueThrow(what, IllegalStateException.class, call);
    }

    private static void dueRanges(String what, NumberGoblets x, int... edges) {
        int[] got = new int[2 * x.ranges()];
        for (int range = 0; range < x.ranges(); range++) {
            got[2 * range] = x.rangeFrom(range);
            got[2 * range + 1] = x.rangeTo(range);
        }
        if (!Arrays.equals(got, edges)) {
            wrong++;
            System.out.println(what + ": the jug has " + Arrays.toString(got) + ", due is " + Arrays.toString(edges));
        }
    }

    private static void drinkTimes(NumberGoblets x, int goblet, int times) {
        for (int i = 0; i < times; i++) {
            x.drink(goblet);
        }
    }

    /** Goblet 0 has 1 to 4, 9 and 10; goblet 1 has 5 to 8; the jug has 11 to 100. */
    private static NumberGoblets withTwoRangesInGobletZero() {
        NumberGoblets x = new NumberGoblets();
        x.pour(0, 4);
        x.pour(1, 4);
        x.pour(0, 2);
        return x;
    }

    /** Drunk are 1 to 30; everything else is in the jug. */
    private static NumberGoblets withThirtyDrunk() {
        NumberGoblets x = new NumberGoblets();
        drinkTimes(x, 0, 30);
        return x;
    }

    /** The jug is empty, goblet 0 has 1 to 100. */
    private static NumberGoblets withEmptyJug() {
        NumberGoblets x = new NumberGoblets();
        x.pour(0, 200);
        return x;
    }

    private static void promise1NewObject() {
        NumberGoblets x = new NumberGoblets();
        due("1 size", x.size(), 100);
        due("1 round", x.round(), 1);
        due("1 inJug", x.inJug(), 100);
        due("1 drunk", x.drunk(), 0);
        due("1 spilt", x.spilt(), 0);
        dueRanges("1", x, 1, 100);
        for (int goblet = 0; goblet < 8; goblet++) {
            due("1 inGoblet " + goblet, x.inGoblet(goblet), 0);
            due("1 rangesOf " + goblet, x.rangesOf(goblet), 0);
        }
        for (int number = 1; number <= 100; number++) {
            due("1 placeOf " + number, x.placeOf(number), 8);
        }
        NumberGoblets other = new NumberGoblets();
        other.pour(0, 5);
        due("1 objects don't share numbers", x.inJug(), 100);
    }

    private static void promise2Enlarge() {
        NumberGoblets x = new NumberGoblets();
        due("2 by one", x.enlarge(101), 101);
        due("2 size", x.size(), 101);
        dueRanges("2 touching", x, 1, 101);
        x.pour(0, 101);
        due("2 of an empty jug", x.enlarge(150), 49);
        dueRanges("2 of an empty jug", x, 102, 150);
        due("2 placeOf 150", x.placeOf(150), 8);
        due("2 placeOf 151", x.placeOf(151), -1);
        due("2 placeOf 101", x.placeOf(101), 0);
        due("2 to the largest", x.enlarge(5000), 4899);
        due("2 largest size", x.size(), 5000);
        due("2 placeOf 5000", x.placeOf(5000), 8);
        due("2 placeOf 5001", x.placeOf(5001), -1);
        due("2 round stays", x.round(), 1);
        dueArgument("2 beyond the largest", () -> x.enlarge(5001));
        dueArgument("2 the largest again", () -> x.enlarge(5000));

        NumberGoblets y = new NumberGoblets();
        for (int size : new int[] {100, 99, 0, -1, 5001, Integer.MIN_VALUE, Integer.MAX_VALUE}) {
            dueArgument("2 enlarge(" + size + ")", () -> y.enlarge(size));
        }

        NumberGoblets z = new NumberGoblets();
        z.pour(2, 90);
        z.drink(2);
        z.pourBack(2);
        due("2 with one drunk", z.enlarge(120), 119);
        dueRanges("2 with one drunk", z, 2, 120);
    }

    private static void promise3Pour() {
        NumberGoblets x = new NumberGoblets();
        due("3 ten", x.pour(0, 10), 10);
        due("3 placeOf 10", x.placeOf(10), 0);
        due("3 placeOf 11", x.placeOf(11), 8);
        due("3 one", x.pour(7, 1), 1);
        due("3 placeOf 11 then", x.placeOf(11), 7);
        due("3 to those that it has", x.pour(0, 5), 5);
        due("3 inGoblet 0", x.inGoblet(0), 15);
        due("3 all that is left", x.pour(1, 84), 84);
        dueState("3 empty jug", () -> x.pour(1, 1));
        dueIndex("3 empty jug, no goblet", () -> x.pour(8, 1));
        dueArgument("3 empty jug, no count", () -> x.pour(0, 0));

        NumberGoblets y = new NumberGoblets();
        due("3 fewer", y.pour(3, 101), 100);
        due("3 fewer inGoblet", y.inGoblet(3), 100);

        NumberGoblets z = new NumberGoblets();
        for (int goblet : NO_GOBLETS) {
            dueIndex("3 pour(" + goblet + ", 1)", () -> z.pour(goblet, 1));
            dueIndex("3 pour(" + goblet + ", 0)", () -> z.pour(goblet, 0));
        }
        for (int count : NO_COUNTS) {
            dueArgument("3 pour(0, " + count + ")", () -> z.pour(0, count));
        }
        z.enlarge(300);
        due("3 largest count", z.pour(0, 200), 200);
        dueRanges("3 largest count", z, 201, 300);

        NumberGoblets w = withThirtyDrunk();
        w.giveBack(20);
        w.giveBack(10);
        w.giveBack(11);
        due("3 over several ranges", w.pour(5, 4), 4);
        due("3 lowest first", w.placeOf(10), 5);
        due("3 second range", w.placeOf(20), 5);
        due("3 third range", w.placeOf(31), 5);
        dueRanges("3 over several ranges", w, 32, 100);
    }

    private static void promise4Drink() {
        NumberGoblets x = withTwoRangesInGobletZero();
        due("4 first", x.drink(0), 1);
        due("4 placeOf 1", x.placeOf(1), 9);
        due("4 inGoblet", x.inGoblet(0), 5);
        drinkTimes(x, 0, 3);
        due("4 second range", x.drink(0), 9);
        due("4 last", x.drink(0), 10);
        due("4 empty goblet", x.drink(0), 11);
        due("4 empty goblet stays empty", x.inGoblet(0), 0);
        due("4 from the jug", x.placeOf(11), 9);
        due("4 goblet 7", x.drink(7), 12);
        due("4 drunk", x.drunk(), 8);
        due("4 inJug", x.inJug(), 88);
        x.giveBack(2);
        due("4 came back", x.drink(3), 2);
        due("4 not empty", x.drink(1), 5);

        NumberGoblets y = withEmptyJug();
        dueState("4 both empty", () -> y.drink(1));
        due("4 empty jug, full goblet", y.drink(0), 1);
        for (int goblet : NO_GOBLETS) {
            dueIndex("4 drink(" + goblet + ")", () -> y.drink(goblet));
        }
    }

    private static void promise5PourBack() {
        NumberGoblets x = withTwoRangesInGobletZero();
        due("5 two ranges", x.pourBack(0), 6);
        due("5 inGoblet", x.inGoblet(0), 0);
        due("5 other goblet stays", x.inGoblet(1), 4);
        dueRanges("5 two ranges", x, 1, 4, 9, 100);
        due("5 empty", x.pourBack(0), 0);
        due("5 grows together", x.pourBack(1), 4);
        dueRanges("5 grows together", x, 1, 100);
        due("5 what was drunk stays", x.drink(7), 1);
        due("5 after drinking", x.pourBack(7), 0);
        dueRanges("5 after drinking", x, 2, 100);
        x.pour(7, 3);
        due("5 goblet 7", x.pourBack(7), 3);
        x.enlarge(1000);
        for (int i = 0; i < 3; i++) {
            x.pour(6, 200);
        }
        due("5 more than a count", x.pourBack(6), 600);
        for (int goblet : NO_GOBLETS) {
            dueIndex("5 pourBack(" + goblet + ")", () -> x.pourBack(goblet));
        }
    }

    private static void promise6Share() {
        NumberGoblets x = withTwoRangesInGobletZero();
        due("6 highest", x.share(0, 7, 3), 3);
        due("6 placeOf 4", x.placeOf(4), 7);
        due("6 placeOf 9", x.placeOf(9), 7);
        due("6 placeOf 10", x.placeOf(10), 7);
        due("6 placeOf 3", x.placeOf(3), 0);
        due("6 inGoblet 0", x.inGoblet(0), 3);
        due("6 rangesOf 7", x.rangesOf(7), 2);
        due("6 exactly all", x.share(0, 7, 3), 3);
        due("6 grow together", x.rangesOf(7), 2);
        due("6 empty", x.share(0, 7, 1), 0);
        due("6 fewer than count", x.share(7, 1, 200), 6);
        due("6 all in one range", x.rangesOf(1), 1);
        due("6 in 1", x.inGoblet(1), 10);
        due("6 one", x.share(1, 0, 1), 1);
        due("6 the highest one", x.placeOf(10), 0);
        for (int goblet : NO_GOBLETS) {
            dueIndex("6 share(" + goblet + ", 1, 1)", () -> x.share(goblet, 1, 1));
            dueIndex("6 share(1, " + goblet + ", 1)", () -> x.share(1, goblet, 1));
            dueIndex("6 share(" + goblet + ", " + goblet + ", 1)", () -> x.share(goblet, goblet, 1));
            dueIndex("6 share(" + goblet + ", 1, 0)", () -> x.share(goblet, 1, 0));
            dueIndex("6 share(1, " + goblet + ", 0)", () -> x.share(1, goblet, 0));
        }
        for (int count : NO_COUNTS) {
            dueArgument("6 share(1, 2, " + count + ")", () -> x.share(1, 2, count));
        }
        for (int goblet = 0; goblet < 8; goblet++) {
            int same = goblet;
            dueArgument("6 share with itself", () -> x.share(same, same, 1));
        }
        NumberGoblets y = new NumberGoblets();
        y.enlarge(500);
        y.pour(0, 200);
        y.pour(0, 101);
        due("6 largest count", y.share(0, 1, 200), 200);
        due("6 lowest ones stay", y.placeOf(101), 0);
        due("6 highest ones go", y.placeOf(102), 1);
    }

    private static void promise7GiveBack() {
        NumberGoblets x = withThirtyDrunk();
        due("7 inside", x.giveBack(15), 71);
        due("7 placeOf 15", x.placeOf(15), 8);
        due("7 placeOf 14", x.placeOf(14), 9);
        due("7 placeOf 16", x.placeOf(16), 9);
        due("7 drunk", x.drunk(), 29);
        due("7 touching the jug", x.giveBack(30), 72);
        dueRanges("7 two ranges", x, 15, 15, 30, 100);
        due("7 the first", x.giveBack(1), 73);
        due("7 beside another", x.giveBack(16), 74);
        due("7 on its other side", x.giveBack(14), 75);
        dueRanges("7 three ranges", x, 1, 1, 14, 16, 30, 100);
        x.pour(2, 1);
        x.pour(3, 1);
        x.spill(3);
        for (int number : new int[] {1, 14, 15, 100, 101, 0, -1, 5000, 5001, Integer.MIN_VALUE, Integer.MAX_VALUE}) {
            dueState("7 giveBack(" + number + ")", () -> x.giveBack(number));
        }
        x.giveBack(2);
        dueState("7 twice", () -> x.giveBack(2));
    }

    private static void promise8Spill() {
        NumberGoblets x = withTwoRangesInGobletZero();
        due("8 two ranges", x.spill(0), 6);
        due("8 placeOf 1", x.placeOf(1), 10);
        due("8 placeOf 10", x.placeOf(10), 10);
        due("8 placeOf 5", x.placeOf(5), 1);
        due("8 inJug", x.inJug(), 90);
        due("8 spilt", x.spilt(), 6);
        due("8 empty", x.spill(0), 0);
        x.pour(7, 2);
        due("8 goblet 7", x.spill(7), 2);
        due("8 spilt in all", x.spilt(), 8);
        due("8 not drunk", x.drunk(), 0);
        x.enlarge(1000);
        for (int i = 0; i < 3; i++) {
            x.pour(6, 200);
        }
        due("8 more than a count", x.spill(6), 600);
        for (int goblet : NO_GOBLETS) {
            dueIndex("8 spill(" + goblet + ")", () -> x.spill(goblet));
        }
    }

    private static void promise9NextRound() {
        NumberGoblets x = new NumberGoblets();
        dueState("9 full jug", () -> x.nextRound());
        x.pour(4, 99);
        dueState("9 one in the jug", () -> x.nextRound());
        x.pour(4, 1);
        dueState("9 all in a goblet", () -> x.nextRound());
        x.share(4, 7, 1);
        drinkTimes(x, 4, 10);
        x.spill(4);
        dueState("9 one in a goblet", () -> x.nextRound());
        x.spill(7);
        due("9 first time", x.nextRound(), 2);
        due("9 round", x.round(), 2);
        due("9 inJug", x.inJug(), 100);
        due("9 drunk", x.drunk(), 0);
        due("9 spilt", x.spilt(), 0);
        dueRanges("9 full jug", x, 1, 100);
        dueState("9 again at once", () -> x.nextRound());
        x.enlarge(130);
        x.pour(0, 130);
        x.spill(0);
        due("9 second time, all spilt", x.nextRound(), 3);
        due("9 larger jug", x.inJug(), 130);
        due("9 the size stays", x.size(), 130);
        drinkTimes(x, 0, 130);
        due("9 third time, all drunk", x.nextRound(), 4);
        dueRanges("9 full larger jug", x, 1, 130);
    }

    private static void promises10To12SizeRoundInJug() {
        NumberGoblets x = new NumberGoblets();
        x.pour(0, 60);
        x.drink(0);
        due("10 size after pouring", x.size(), 100);
        due("12 inJug after pouring", x.inJug(), 40);
        x.enlarge(700);
        due("10 size after enlarging", x.size(), 700);
        due("12 inJug after enlarging", x.inJug(), 640);
        due("11 round after enlarging", x.round(), 1);
        x.pourBack(0);
        due("12 inJug after pouring back", x.inJug(), 699);
        NumberGoblets y = withEmptyJug();
        due("12 empty", y.inJug(), 0);
        y.spill(0);
        y.nextRound();
        due("10 size in the next round", y.size(), 100);
        due("11 round", y.round(), 2);
        due("12 inJug in the next round", y.inJug(), 100);
    }

    private static void promises13To15Ranges() {
        NumberGoblets x = withThirtyDrunk();
        due("13 one", x.ranges(), 1);
        x.giveBack(10);
        x.giveBack(12);
        due("13 three", x.ranges(), 3);
        due("14 range 0", x.rangeFrom(0), 10);
        due("14 range 1", x.rangeFrom(1), 12);
        due("14 range 2", x.rangeFrom(2), 31);
        due("15 range 0", x.rangeTo(0), 10);
        due("15 range 1", x.rangeTo(1), 12);
        due("15 range 2", x.rangeTo(2), 100);
        x.giveBack(11);
        due("13 grown together", x.ranges(), 2);
        due("14 grown together", x.rangeFrom(0), 10);
        due("15 grown together", x.rangeTo(0), 12);
        for (int range : new int[] {-1, 2, 3, Integer.MIN_VALUE, Integer.MAX_VALUE}) {
            dueIndex("14 rangeFrom(" + range + ")", () -> x.rangeFrom(range));
            dueIndex("15 rangeTo(" + range + ")", () -> x.rangeTo(range));
        }
        NumberGoblets y = withEmptyJug();
        due("13 empty jug", y.ranges(), 0);
        dueIndex("14 empty jug", () -> y.rangeFrom(0));
        dueIndex("15 empty jug", () -> y.rangeTo(0));
    }

    private static void promise16LongestRange() {
        NumberGoblets x = withThirtyDrunk();
        due("16 the only one", x.longestRange(), 0);
        x.giveBack(3);
        due("16 the second one", x.longestRange(), 1);
        for (int i = 0; i < 5; i++) {
            x.giveBack(5 + i);
            x.giveBack(15 + i);
        }
        due("16 the highest one", x.longestRange(), 3);
        NumberGoblets y = withThirtyDrunk();
        y.pour(1, 70);
        due("16 empty jug", y.longestRange(), -1);
        y.giveBack(2);
        y.giveBack(4);
        y.giveBack(8);
        due("16 the first of several", y.longestRange(), 0);
        y.giveBack(5);
        due("16 the middle one", y.longestRange(), 1);
        y.giveBack(9);
        due("16 the first of two", y.longestRange(), 1);
        y.giveBack(10);
        due("16 the last one", y.longestRange(), 2);
    }

    private static void promises17And18OfGoblets() {
        NumberGoblets x = withTwoRangesInGobletZero();
        due("17 goblet 0", x.inGoblet(0), 6);
        due("17 goblet 1", x.inGoblet(1), 4);
        due("17 goblet 7", x.inGoblet(7), 0);
        due("18 goblet 0", x.rangesOf(0), 2);
        due("18 goblet 1", x.rangesOf(1), 1);
        due("18 goblet 7", x.rangesOf(7), 0);
        x.pour(0, 3);
        due("17 poured to", x.inGoblet(0), 9);
        due("18 grown together", x.rangesOf(0), 2);
        x.share(1, 0, 2);
        due("18 grown at the top", x.rangesOf(0), 2);
        x.share(1, 0, 2);
        due("18 grown at both ends", x.rangesOf(0), 1);
        due("18 emptied", x.rangesOf(1), 0);
        for (int goblet : NO_GOBLETS) {
            dueIndex("17 inGoblet(" + goblet + ")", () -> x.inGoblet(goblet));
            dueIndex("18 rangesOf(" + goblet + ")", () -> x.rangesOf(goblet));
        }
    }

    private static void promise19NextOf() {
        NumberGoblets x = withTwoRangesInGobletZero();
        due("19 goblet 0", x.nextOf(0), 1);
        due("19 goblet 1", x.nextOf(1), 5);
        due("19 empty goblet", x.nextOf(7), 11);
        due("19 nothing is poured", x.inGoblet(7), 0);
        x.pourBack(0);
        due("19 goblet 1 though the jug has lower ones", x.nextOf(1), 5);
        due("19 empty goblet, lower jug", x.nextOf(0), 1);
        NumberGoblets y = withEmptyJug();
        due("19 empty jug", y.nextOf(0), 1);
        due("19 both empty", y.nextOf(1), 0);
        for (int goblet : NO_GOBLETS) {
            dueIndex("19 nextOf(" + goblet + ")", () -> y.nextOf(goblet));
        }
    }

    private static void promise20PlaceOf() {
        NumberGoblets x = new NumberGoblets();
        for (int goblet = 0; goblet < 8; goblet++) {
            x.pour(goblet, 2);
        }
        for (int goblet = 0; goblet < 8; goblet++) {
            due("20 lower in goblet", x.placeOf(2 * goblet + 1), goblet);
            due("20 higher in goblet", x.placeOf(2 * goblet + 2), goblet);
        }
        due("20 jug from", x.placeOf(17), 8);
        due("20 jug to", x.placeOf(100), 8);
        x.drink(0);
        x.spill(0);
        due("20 drunk", x.placeOf(1), 9);
        due("20 spilt", x.placeOf(2), 10);
        for (int number : new int[] {0, -1, 101, 5000, 5001, Integer.MIN_VALUE, Integer.MAX_VALUE}) {
            due("20 placeOf(" + number + ")", x.placeOf(number), -1);
        }
    }

    private static void promises21And22DrunkAndSpilt() {
        NumberGoblets x = new NumberGoblets();
        x.pour(0, 10);
        drinkTimes(x, 0, 4);
        due("21 drunk", x.drunk(), 4);
        due("22 nothing spilt", x.spilt(), 0);
        x.spill(0);
        due("21 drunk stays", x.drunk(), 4);
        due("22 spilt", x.spilt(), 6);
        x.giveBack(2);
        due("21 given back", x.drunk(), 3);
        x.pour(1, 100);
        x.spill(1);
        due("22 spilt from the jug", x.spilt(), 97);
        x.nextRound();
        due("21 next round", x.drunk(), 0);
        due("22 next round", x.spilt(), 0);
    }

    private static void promise23LowestLeft() {
        NumberGoblets x = new NumberGoblets();
        due("23 new", x.lowestLeft(), 1);
        x.pour(0, 3);
        due("23 in a goblet", x.lowestLeft(), 1);
        x.drink(0);
        due("23 one drunk", x.lowestLeft(), 2);
        x.spill(0);
        due("23 spilt", x.lowestLeft(), 2);
        NumberGoblets y = new NumberGoblets();
        drinkTimes(y, 3, 99);
        due("23 the last one", y.lowestLeft(), 100);
        y.giveBack(40);
        due("23 given back", y.lowestLeft(), 40);
        drinkTimes(y, 3, 2);
        due("23 all drunk", y.lowestLeft(), 0);
        y.enlarge(102);
        due("23 a larger jug", y.lowestLeft(), 101);
        drinkTimes(y, 3, 2);
        due("23 all drunk again", y.lowestLeft(), 0);
        y.nextRound();
        due("23 next round", y.lowestLeft(), 1);
    }

    public static void main(String[] args) {
        promise1NewObject();
        promise2Enlarge();
        promise3Pour();
        promise4Drink();
        promise5PourBack();
        promise6Share();
        promise7GiveBack();
        promise8Spill();
        promise9NextRound();
        promises10To12SizeRoundInJug();
        promises13To15Ranges();
        promise16LongestRange();
        promises17And18OfGoblets();
        promise19NextOf();
        promise20PlaceOf();
        promises21And22DrunkAndSpilt();
        promise23LowestLeft();
        System.out.println(wrong == 0 ? "all answers are as due" : wrong + " answers are not as due");
        if (wrong != 0) {
            System.exit(1);
        }
    }
}
