import java.util.ArrayList;
import java.util.List;

/**
 * A test over a run of several calls for each sentence of 'What it is' and 'Terms' that says how numbers move
 * or how ranges are counted. The name of a test tells the sentence.
 */
public final class TermsTest {
    private static final int JUG = 8;
    private static final int DRUNK = 9;
    private static final int SPILT = 10;
    private static final String[] PLACES = {"0", "1", "2", "3", "4", "5", "6", "7", "jug", "drunk", "spilt"};

    private static String test = "";
    private static int tests = 0;
    private static int failedTests = 0;
    private static int wrong = 0;

    private interface Call {
        int answer(NumberGoblets x);
    }

    // ---- what is due

    private static void wrong(String text) {
        wrong++;
        System.out.println(test + ": " + text);
    }

    private static void due(String what, Object got, Object want) {
        if (!got.equals(want)) {
            wrong(what + " answered " + got + ", due is " + want);
        }
    }

    /**
     * Calls that follow one another on one object. Each call is made on a new object after those before it, so
     * that all numbers can be looked for after each of them, and yet no object is asked beyond its 512 calls.
     */
    private static final class Run {
        private final List<Call> calls = new ArrayList<>();

        private NumberGoblets object() {
            NumberGoblets x = new NumberGoblets();
            for (Call call : calls) {
                call.answer(x);
            }
            return x;
        }

        /** The call gives the answer, and the numbers are at these places then, told as "1-4:drunk 5:3 6-100:jug". */
        Run then(String what, Call call, int answer, String places) {
            NumberGoblets x = object();
            due(what, call.answer(x), answer);
            calls.add(call);
            due("the places after " + what, placesOf(x), places);
            allQuestionsAgree("after " + what, x);
            return this;
        }

        /** The same call several times; only the places that it leaves are looked at. */
        Run times(int times, String what, Call call, String places) {
            for (int i = 0; i < times; i++) {
                calls.add(call);
            }
            due("the places after " + times + " times " + what, placesOf(object()), places);
            allQuestionsAgree("after " + times + " times " + what, object());
            return this;
        }

        Run asks(String what, Call question, int answer) {
            due(what, question.answer(object()), answer);
            return this;
        }

        /** The call throws IllegalStateException, and all numbers stay where they are. */
        Run refused(String what, Call call) {
            NumberGoblets x = object();
            String before = placesOf(object());
            String got;
            try {
                got = "nothing, but answered " + call.answer(x);
            } catch (RuntimeException e) {
                got = e.getClass().getSimpleName();
            }
            due(what + " throws:", got, "IllegalStateException");
            due("the places after the refused " + what, placesOf(x), before);
            return this;
        }
    }

    private static String placesOf(NumberGoblets x) {
        StringBuilder places = new StringBuilder();
        int size = x.size();
        int from = 1;
        int place = x.placeOf(1);
        for (int number = 2; number <= size + 1; number++) {
            int next = number <= size ? x.placeOf(number) : Integer.MIN_VALUE;
            if (next != place) {
                places.append(places.length() == 0 ? "" : " ").append(from);
                places.append(from == number - 1 ? "" : "-" + (number - 1));
                places.append(':').append(place >= 0 && place < PLACES.length ? PLACES[place] : "place " + place);
                from = number;
                place = next;
            }
        }
        return places.toString();
    }

    /** Whatever tells of numbers and ranges tells the same as placeOf, and each number counts once. */
    private static void allQuestionsAgree(String when, NumberGoblets x) {
        int size = x.size();
        int[] placeOf = new int[size + 2];
        for (int number = 0; number <= size + 1; number++) {
            placeOf[number] = x.placeOf(number);
        }
        due("placeOf(0) " + when, placeOf[0], -1);
        due("placeOf of the number above the size " + when, placeOf[size + 1], -1);
        int all = x.inJug() + x.drunk() + x.spilt();
        for (int goblet = 0; goblet < 8; goblet++) {
            all += gobletAgrees(when, x, goblet, placeOf);
        }
        due("the numbers at all places in all " + when, all, size);
        due("drunk " + when, x.drunk(), numbersAt(placeOf, DRUNK));
        due("spilt " + when, x.spilt(), numbersAt(placeOf, SPILT));
        jugAgrees(when, x, placeOf);
    }

    private static int gobletAgrees(String when, NumberGoblets x, int goblet, int[] placeOf) {
        int inGoblet = x.inGoblet(goblet);
        int lowest = lowestAt(placeOf, goblet);
        due("inGoblet(" + goblet + ") " + when, inGoblet, numbersAt(placeOf, goblet));
        due("rangesOf(" + goblet + ") " + when, x.rangesOf(goblet), edgesAt(placeOf, goblet).size() / 2);
        due("nextOf(" + goblet + ") " + when, x.nextOf(goblet), lowest != 0 ? lowest : lowestAt(placeOf, JUG));
        return inGoblet;
    }

    private static void jugAgrees(String when, NumberGoblets x, int[] placeOf) {
        List<Integer> edges = new ArrayList<>();
        int ranges = x.ranges();
        for (int range = 0; range < ranges; range++) {
            edges.add(x.rangeFrom(range));
            edges.add(x.rangeTo(range));
        }
        due("inJug " + when, x.inJug(), numbersAt(placeOf, JUG));
        due("the ranges of the jug " + when, edges, edgesAt(placeOf, JUG));
    }

    private static int numbersAt(int[] placeOf, int place) {
        int numbers = 0;
        for (int at : placeOf) {
            numbers += at == place ? 1 : 0;
        }
        return numbers;
    }

    private static int lowestAt(int[] placeOf, int place) {
        List<Integer> edges = edgesAt(placeOf, place);
        return edges.isEmpty() ? 0 : edges.get(0);
    }

    /** The lowest and the highest number of each range of a place, in turn. */
    private static List<Integer> edgesAt(int[] placeOf, int place) {
        List<Integer> edges = new ArrayList<>();
        for (int number = 1; number < placeOf.length - 1; number++) {
            if (placeOf[number] == place && placeOf[number - 1] != place) {
                edges.add(number);
            }
            if (placeOf[number] == place && placeOf[number + 1] != place) {
                edges.add(number);
            }
        }
        return edges;
    }

    // ---- What it is

    /** Numbers are drunk, given back and drunk again, with all other calls between, until all are drunk. */
    private static void noneIsOutTwice() {
        NumberGoblets x = new NumberGoblets();
        boolean[] out = new boolean[101];
        int drunk = 0;
        for (int i = 0; i < 12; i++) {
            int goblet = i % 8;
            int other = (i + 3) % 8;
            x.pour(goblet, 6);
            drunk += drinkNew(x, goblet, out) + drinkNew(x, goblet, out);
            x.share(goblet, other, 3);
            drunk += drinkNew(x, other, out);
            int returned = x.drink(other);
            due("a number that is out again", out[returned], false);
            x.giveBack(returned);
            x.pourBack((i + 5) % 8);
        }
        for (int goblet = 0; goblet < 8; goblet++) {
            x.pourBack(goblet);
        }
        while (drunk < 100) {
            drunk += drinkNew(x, drunk % 8, out);
        }
        due("drunk", x.drunk(), 100);
        due("inJug", x.inJug(), 0);
    }

    private static int drinkNew(NumberGoblets x, int goblet, boolean[] out) {
        int number = x.drink(goblet);
        if (number < 1 || number > 100 || out[number]) {
            wrong("drink(" + goblet + ") answered " + number + ", which is not one that is left");
        } else {
            out[number] = true;
        }
        return 1;
    }

    private static void jugHasTheNumbersOneToItsSize() {
        NumberGoblets x = new NumberGoblets();
        due("enlarge(103)", x.enlarge(103), 103);
        for (int number = 1; number <= 103; number++) {
            due("drink", x.drink(number % 8), number);
        }
        due("inJug", x.inJug(), 0);
        due("nextRound()", x.nextRound(), 2);
        due("enlarge(110)", x.enlarge(110), 110);
        for (int number = 1; number <= 110; number++) {
            due("drink in round 2", x.drink(number % 8), number);
        }
        due("inJug", x.inJug(), 0);
        new Run()
                .then("enlarge(103)", x1 -> x1.enlarge(103), 103, "1-103:jug")
                .times(103, "drink(0)", x1 -> x1.drink(0), "1-103:drunk")
                .then("nextRound()", x1 -> x1.nextRound(), 2, "1-103:jug")
                .then("enlarge(110)", x1 -> x1.enlarge(110), 110, "1-110:jug");
    }

    private static void rangesArePouredIntoGoblets() {
        new Run()
                .then("pour(0, 4)", x -> x.pour(0, 4), 4, "1-4:0 5-100:jug")
                .then("pour(1, 3)", x -> x.pour(1, 3), 3, "1-4:0 5-7:1 8-100:jug")
                .then("pour(7, 2)", x -> x.pour(7, 2), 2, "1-4:0 5-7:1 8-9:7 10-100:jug")
                .then("pour(0, 5)", x -> x.pour(0, 5), 5, "1-4:0 5-7:1 8-9:7 10-14:0 15-100:jug")
                .then("pourBack(1)", x -> x.pourBack(1), 3, "1-4:0 5-7:jug 8-9:7 10-14:0 15-100:jug")
                .then("pour(3, 5)", x -> x.pour(3, 5), 5, "1-4:0 5-7:3 8-9:7 10-14:0 15-16:3 17-100:jug");
    }

    private static void numbersAreDrunkOneByOne() {
        new Run()
                .then("pour(0, 3)", x -> x.pour(0, 3), 3, "1-3:0 4-100:jug")
                .then("pour(1, 2)", x -> x.pour(1, 2), 2, "1-3:0 4-5:1 6-100:jug")
                .then("drink(0)", x -> x.drink(0), 1, "1:drunk 2-3:0 4-5:1 6-100:jug")
                .then("drink(1)", x -> x.drink(1), 4, "1:drunk 2-3:0 4:drunk 5:1 6-100:jug")
                .then("drink(0)", x -> x.drink(0), 2, "1-2:drunk 3:0 4:drunk 5:1 6-100:jug")
                .then("drink(0)", x -> x.drink(0), 3, "1-4:drunk 5:1 6-100:jug")
                .then("drink(0), then empty", x -> x.drink(0), 6, "1-4:drunk 5:1 6:drunk 7-100:jug")
                .then("drink(0), empty again", x -> x.drink(0), 7, "1-4:drunk 5:1 6-7:drunk 8-100:jug")
                .then("drink(1)", x -> x.drink(1), 5, "1-7:drunk 8-100:jug");
    }

    // ---- Terms: how numbers move

    private static void whatIsLeftIsPouredBack() {
        new Run()
                .then("pour(2, 10)", x -> x.pour(2, 10), 10, "1-10:2 11-100:jug")
                .times(2, "drink(2)", x -> x.drink(2), "1-2:drunk 3-10:2 11-100:jug")
                .then("share(2, 3, 3)", x -> x.share(2, 3, 3), 3, "1-2:drunk 3-7:2 8-10:3 11-100:jug")
                .then("pourBack(2)", x -> x.pourBack(2), 5, "1-2:drunk 3-7:jug 8-10:3 11-100:jug")
                .then("pourBack(2), empty", x -> x.pourBack(2), 0, "1-2:drunk 3-7:jug 8-10:3 11-100:jug")
                .then("drink(3)", x -> x.drink(3), 8, "1-2:drunk 3-7:jug 8:drunk 9-10:3 11-100:jug")
                .then("pourBack(3)", x -> x.pourBack(3), 2, "1-2:drunk 3-7:jug 8:drunk 9-100:jug")
                .then("pour(2, 6)", x -> x.pour(2, 6), 6, "1-2:drunk 3-7:2 8:drunk 9:2 10-100:jug")
                .then("pourBack(2), two ranges", x -> x.pourBack(2), 6, "1-2:drunk 3-7:jug 8:drunk 9-100:jug");
    }

    private static void whatWasDrunkIsGivenBackNumberByNumber() {
        new Run()
                .times(5, "drink(4)", x -> x.drink(4), "1-5:drunk 6-100:jug")
                .then("pour(4, 5)", x -> x.pour(4, 5), 5, "1-5:drunk 6-10:4 11-100:jug")
                .then("giveBack(3)", x -> x.giveBack(3), 91, "1-2:drunk 3:jug 4-5:drunk 6-10:4 11-100:jug")
                .refused("giveBack(3), in the jug", x -> x.giveBack(3))
                .refused("giveBack(6), in a goblet", x -> x.giveBack(6))
                .then("giveBack(5)", x -> x.giveBack(5), 92, "1-2:drunk 3:jug 4:drunk 5:jug 6-10:4 11-100:jug")
                .then("giveBack(1)", x -> x.giveBack(1), 93, "1:jug 2:drunk 3:jug 4:drunk 5:jug 6-10:4 11-100:jug")
                .then("drink(0)", x -> x.drink(0), 1, "1-2:drunk 3:jug 4:drunk 5:jug 6-10:4 11-100:jug")
                .then("drink(4)", x -> x.drink(4), 6, "1-2:drunk 3:jug 4:drunk 5:jug 6:drunk 7-10:4 11-100:jug")
                .then("giveBack(6)", x -> x.giveBack(6), 93, "1-2:drunk 3:jug 4:drunk 5-6:jug 7-10:4 11-100:jug")
                .then("giveBack(1), again", x -> x.giveBack(1), 94,
                        "1:jug 2:drunk 3:jug 4:drunk 5-6:jug 7-10:4 11-100:jug");
    }

    private static void aGobletThatFallsSpillsWhatItHas() {
        new Run()
                .then("pour(0, 6)", x -> x.pour(0, 6), 6, "1-6:0 7-100:jug")
                .then("drink(0)", x -> x.drink(0), 1, "1:drunk 2-6:0 7-100:jug")
                .then("share(0, 1, 2)", x -> x.share(0, 1, 2), 2, "1:drunk 2-4:0 5-6:1 7-100:jug")
                .then("pour(2, 4)", x -> x.pour(2, 4), 4, "1:drunk 2-4:0 5-6:1 7-10:2 11-100:jug")
                .then("spill(0)", x -> x.spill(0), 3, "1:drunk 2-4:spilt 5-6:1 7-10:2 11-100:jug")
                .then("spill(0), empty", x -> x.spill(0), 0, "1:drunk 2-4:spilt 5-6:1 7-10:2 11-100:jug")
                .then("pourBack(0), empty", x -> x.pourBack(0), 0, "1:drunk 2-4:spilt 5-6:1 7-10:2 11-100:jug")
                .refused("giveBack(2), spilt", x -> x.giveBack(2))
                .then("pour(0, 1)", x -> x.pour(0, 1), 1, "1:drunk 2-4:spilt 5-6:1 7-10:2 11:0 12-100:jug")
                .then("share(2, 0, 2)", x -> x.share(2, 0, 2), 2, "1:drunk 2-4:spilt 5-6:1 7-8:2 9-11:0 12-100:jug")
                .then("spill(1)", x -> x.spill(1), 2, "1:drunk 2-6:spilt 7-8:2 9-11:0 12-100:jug")
                .then("spill(0)", x -> x.spill(0), 3, "1:drunk 2-6:spilt 7-8:2 9-11:spilt 12-100:jug")
                .asks("lowestLeft()", x -> x.lowestLeft(), 2);
    }

    private static void aNewRoundBeginsWithAFullJug() {
        new Run()
                .then("pour(0, 60)", x -> x.pour(0, 60), 60, "1-60:0 61-100:jug")
                .times(20, "drink(0)", x -> x.drink(0), "1-20:drunk 21-60:0 61-100:jug")
                .then("spill(0)", x -> x.spill(0), 40, "1-20:drunk 21-60:spilt 61-100:jug")
                .refused("nextRound(), the jug is not empty", x -> x.nextRound())
                .then("pour(7, 40)", x -> x.pour(7, 40), 40, "1-20:drunk 21-60:spilt 61-100:7")
                .refused("nextRound(), a goblet is not empty", x -> x.nextRound())
                .times(39, "drink(7)", x -> x.drink(7), "1-20:drunk 21-60:spilt 61-99:drunk 100:7")
                .refused("nextRound(), one number is left", x -> x.nextRound())
                .then("drink(7)", x -> x.drink(7), 100, "1-20:drunk 21-60:spilt 61-100:drunk")
                .asks("round()", x -> x.round(), 1)
                .then("nextRound()", x -> x.nextRound(), 2, "1-100:jug")
                .refused("nextRound(), the jug is full", x -> x.nextRound())
                .asks("round()", x -> x.round(), 2)
                .then("enlarge(102)", x -> x.enlarge(102), 102, "1-102:jug")
                .then("pour(3, 102)", x -> x.pour(3, 102), 102, "1-102:3")
                .then("spill(3)", x -> x.spill(3), 102, "1-102:spilt")
                .then("nextRound(), all spilt", x -> x.nextRound(), 3, "1-102:jug")
                .times(102, "drink(5)", x -> x.drink(5), "1-102:drunk")
                .then("nextRound(), all drunk", x -> x.nextRound(), 4, "1-102:jug")
                .asks("round()", x -> x.round(), 4);
    }

    // ---- Terms: how ranges are counted

    private static void rangesOfTheJugGrowTogether() {
        new Run()
                .times(10, "drink(0)", x -> x.drink(0), "1-10:drunk 11-100:jug")
                .then("giveBack(8)", x -> x.giveBack(8), 91, "1-7:drunk 8:jug 9-10:drunk 11-100:jug")
                .asks("ranges(), not touching", x -> x.ranges(), 2)
                .then("giveBack(10)", x -> x.giveBack(10), 92, "1-7:drunk 8:jug 9:drunk 10-100:jug")
                .asks("ranges(), touching above", x -> x.ranges(), 2)
                .then("giveBack(9)", x -> x.giveBack(9), 93, "1-7:drunk 8-100:jug")
                .asks("ranges(), touching on both sides", x -> x.ranges(), 1)
                .then("giveBack(3)", x -> x.giveBack(3), 94, "1-2:drunk 3:jug 4-7:drunk 8-100:jug")
                .then("giveBack(4)", x -> x.giveBack(4), 95, "1-2:drunk 3-4:jug 5-7:drunk 8-100:jug")
                .asks("ranges(), touching below", x -> x.ranges(), 2)
                .then("pour(3, 4)", x -> x.pour(3, 4), 4, "1-2:drunk 3-4:3 5-7:drunk 8-9:3 10-100:jug")
                .then("share(3, 4, 2)", x -> x.share(3, 4, 2), 2, "1-2:drunk 3-4:3 5-7:drunk 8-9:4 10-100:jug")
                .then("pourBack(3)", x -> x.pourBack(3), 2, "1-2:drunk 3-4:jug 5-7:drunk 8-9:4 10-100:jug")
                .asks("ranges(), a goblet between", x -> x.ranges(), 2)
                .then("pourBack(4)", x -> x.pourBack(4), 2, "1-2:drunk 3-4:jug 5-7:drunk 8-100:jug")
                .then("enlarge(104)", x -> x.enlarge(104), 99, "1-2:drunk 3-4:jug 5-7:drunk 8-104:jug")
                .asks("ranges(), enlarged", x -> x.ranges(), 2)
                .asks("rangeTo(1)", x -> x.rangeTo(1), 104)
                .asks("longestRange()", x -> x.longestRange(), 1);
        new Run()
                .then("pour(0, 100)", x -> x.pour(0, 100), 100, "1-100:0")
                .then("enlarge(101)", x -> x.enlarge(101), 1, "1-100:0 101:jug")
                .then("share(0, 1, 1)", x -> x.share(0, 1, 1), 1, "1-99:0 100:1 101:jug")
                .then("pourBack(1)", x -> x.pourBack(1), 1, "1-99:0 100-101:jug")
                .asks("ranges()", x -> x.ranges(), 1)
                .then("spill(0)", x -> x.spill(0), 99, "1-99:spilt 100-101:jug")
                .times(2, "drink(0)", x -> x.drink(0), "1-99:spilt 100-101:drunk")
                .then("nextRound()", x -> x.nextRound(), 2, "1-101:jug")
                .asks("ranges(), drunk and spilt ones touch", x -> x.ranges(), 1);
    }

    private static void rangesOfAGobletGrowTogether() {
        new Run()
                .then("pour(0, 3)", x -> x.pour(0, 3), 3, "1-3:0 4-100:jug")
                .then("pour(0, 3)", x -> x.pour(0, 3), 3, "1-6:0 7-100:jug")
                .asks("rangesOf(0), touching", x -> x.rangesOf(0), 1)
                .then("pour(1, 2)", x -> x.pour(1, 2), 2, "1-6:0 7-8:1 9-100:jug")
                .then("pour(0, 2)", x -> x.pour(0, 2), 2, "1-6:0 7-8:1 9-10:0 11-100:jug")
                .asks("rangesOf(0), not touching", x -> x.rangesOf(0), 2)
                .then("share(1, 0, 1)", x -> x.share(1, 0, 1), 1, "1-6:0 7:1 8-10:0 11-100:jug")
                .asks("rangesOf(0), touching above", x -> x.rangesOf(0), 2)
                .then("share(1, 0, 1)", x -> x.share(1, 0, 1), 1, "1-10:0 11-100:jug")
                .asks("rangesOf(0), touching on both sides", x -> x.rangesOf(0), 1)
                .then("share(0, 2, 4)", x -> x.share(0, 2, 4), 4, "1-6:0 7-10:2 11-100:jug")
                .then("share(0, 2, 1)", x -> x.share(0, 2, 1), 1, "1-5:0 6-10:2 11-100:jug")
                .asks("rangesOf(2), shared below", x -> x.rangesOf(2), 1)
                .then("pour(2, 2)", x -> x.pour(2, 2), 2, "1-5:0 6-12:2 13-100:jug")
                .asks("rangesOf(2), poured above", x -> x.rangesOf(2), 1)
                .then("share(2, 0, 3)", x -> x.share(2, 0, 3), 3, "1-5:0 6-9:2 10-12:0 13-100:jug")
                .asks("rangesOf(0), shared apart", x -> x.rangesOf(0), 2)
                .then("pourBack(2)", x -> x.pourBack(2), 4, "1-5:0 6-9:jug 10-12:0 13-100:jug")
                .then("pour(0, 4)", x -> x.pour(0, 4), 4, "1-12:0 13-100:jug")
                .asks("rangesOf(0), poured between", x -> x.rangesOf(0), 1);
    }

    private static void rangesOfDifferentPlacesDoNotGrowTogether() {
        Run run = new Run()
                .then("pour(0, 2)", x -> x.pour(0, 2), 2, "1-2:0 3-100:jug")
                .then("pour(1, 2)", x -> x.pour(1, 2), 2, "1-2:0 3-4:1 5-100:jug")
                .then("pour(0, 2)", x -> x.pour(0, 2), 2, "1-2:0 3-4:1 5-6:0 7-100:jug")
                .then("pour(1, 2)", x -> x.pour(1, 2), 2, "1-2:0 3-4:1 5-6:0 7-8:1 9-100:jug");
        run.asks("rangesOf(0)", x -> x.rangesOf(0), 2).asks("rangesOf(1)", x -> x.rangesOf(1), 2);
        run.then("spill(0)", x -> x.spill(0), 4, "1-2:spilt 3-4:1 5-6:spilt 7-8:1 9-100:jug")
                .asks("rangesOf(1), beside spilt ones", x -> x.rangesOf(1), 2)
                .times(4, "drink(2)", x -> x.drink(2), "1-2:spilt 3-4:1 5-6:spilt 7-8:1 9-12:drunk 13-100:jug")
                .then("giveBack(10)", x -> x.giveBack(10), 89,
                        "1-2:spilt 3-4:1 5-6:spilt 7-8:1 9:drunk 10:jug 11-12:drunk 13-100:jug")
                .asks("ranges(), drunk ones between", x -> x.ranges(), 2)
                .then("pourBack(1)", x -> x.pourBack(1), 4,
                        "1-2:spilt 3-4:jug 5-6:spilt 7-8:jug 9:drunk 10:jug 11-12:drunk 13-100:jug")
                .asks("ranges(), spilt ones between", x -> x.ranges(), 4);
    }

    // ---- Terms: places, and which numbers go first

    /** A run with each way that leads from a place to a place; all numbers are looked for after each call. */
    private static void eachNumberIsAtOnePlace() {
        new Run()
                .then("pour(0, 8)", x -> x.pour(0, 8), 8, "1-8:0 9-100:jug")
                .then("drink(5), empty", x -> x.drink(5), 9, "1-8:0 9:drunk 10-100:jug")
                .then("drink(0)", x -> x.drink(0), 1, "1:drunk 2-8:0 9:drunk 10-100:jug")
                .then("share(0, 6, 3)", x -> x.share(0, 6, 3), 3, "1:drunk 2-5:0 6-8:6 9:drunk 10-100:jug")
                .then("share(0, 6, 2)", x -> x.share(0, 6, 2), 2, "1:drunk 2-3:0 4-8:6 9:drunk 10-100:jug")
                .then("spill(0)", x -> x.spill(0), 2, "1:drunk 2-3:spilt 4-8:6 9:drunk 10-100:jug")
                .then("giveBack(9)", x -> x.giveBack(9), 92, "1:drunk 2-3:spilt 4-8:6 9-100:jug")
                .then("pour(6, 3)", x -> x.pour(6, 3), 3, "1:drunk 2-3:spilt 4-11:6 12-100:jug")
                .then("pourBack(6)", x -> x.pourBack(6), 8, "1:drunk 2-3:spilt 4-100:jug")
                .then("enlarge(105)", x -> x.enlarge(105), 102, "1:drunk 2-3:spilt 4-105:jug")
                .then("pour(1, 200)", x -> x.pour(1, 200), 102, "1:drunk 2-3:spilt 4-105:1")
                .then("share(1, 2, 50)", x -> x.share(1, 2, 50), 50, "1:drunk 2-3:spilt 4-55:1 56-105:2")
                .then("enlarge(106)", x -> x.enlarge(106), 1, "1:drunk 2-3:spilt 4-55:1 56-105:2 106:jug")
                .times(52, "drink(1)", x -> x.drink(1), "1:drunk 2-3:spilt 4-55:drunk 56-105:2 106:jug")
                .then("drink(1), empty", x -> x.drink(1), 106, "1:drunk 2-3:spilt 4-55:drunk 56-105:2 106:drunk")
                .then("spill(2)", x -> x.spill(2), 50, "1:drunk 2-3:spilt 4-55:drunk 56-105:spilt 106:drunk")
                .then("nextRound()", x -> x.nextRound(), 2, "1-106:jug")
                .then("drink(2)", x -> x.drink(2), 1, "1:drunk 2-106:jug");
    }

    private static void theJugGivesItsLowestNumbersFirst() {
        new Run()
                .then("pour(0, 5)", x -> x.pour(0, 5), 5, "1-5:0 6-100:jug")
                .then("pour(1, 5)", x -> x.pour(1, 5), 5, "1-5:0 6-10:1 11-100:jug")
                .then("pourBack(0)", x -> x.pourBack(0), 5, "1-5:jug 6-10:1 11-100:jug")
                .then("pour(2, 3), poured back", x -> x.pour(2, 3), 3, "1-3:2 4-5:jug 6-10:1 11-100:jug")
                .then("drink(3)", x -> x.drink(3), 4, "1-3:2 4:drunk 5:jug 6-10:1 11-100:jug")
                .then("drink(3)", x -> x.drink(3), 5, "1-3:2 4-5:drunk 6-10:1 11-100:jug")
                .then("drink(3)", x -> x.drink(3), 11, "1-3:2 4-5:drunk 6-10:1 11:drunk 12-100:jug")
                .then("giveBack(5)", x -> x.giveBack(5), 90, "1-3:2 4:drunk 5:jug 6-10:1 11:drunk 12-100:jug")
                .then("pourBack(1)", x -> x.pourBack(1), 5, "1-3:2 4:drunk 5-10:jug 11:drunk 12-100:jug")
                .then("giveBack(4)", x -> x.giveBack(4), 96, "1-3:2 4-10:jug 11:drunk 12-100:jug")
                .then("drink(3), given back last", x -> x.drink(3), 4, "1-3:2 4:drunk 5-10:jug 11:drunk 12-100:jug")
                .then("pour(4, 8), two ranges", x -> x.pour(4, 8), 8,
                        "1-3:2 4:drunk 5-10:4 11:drunk 12-13:4 14-100:jug");
        new Run()
                .then("pour(0, 100)", x -> x.pour(0, 100), 100, "1-100:0")
                .then("enlarge(103)", x -> x.enlarge(103), 3, "1-100:0 101-103:jug")
                .then("share(0, 1, 2)", x -> x.share(0, 1, 2), 2, "1-98:0 99-100:1 101-103:jug")
                .times(98, "drink(0)", x -> x.drink(0), "1-98:drunk 99-100:1 101-103:jug")
                .then("giveBack(50)", x -> x.giveBack(50), 4, "1-49:drunk 50:jug 51-98:drunk 99-100:1 101-103:jug")
                .then("pour(2, 2), new ones last", x -> x.pour(2, 2), 2,
                        "1-49:drunk 50:2 51-98:drunk 99-100:1 101:2 102-103:jug")
                .then("pourBack(1)", x -> x.pourBack(1), 2, "1-49:drunk 50:2 51-98:drunk 99-100:jug 101:2 102-103:jug")
                .then("drink(3)", x -> x.drink(3), 99, "1-49:drunk 50:2 51-99:drunk 100:jug 101:2 102-103:jug")
                .then("pour(2, 200)", x -> x.pour(2, 200), 3, "1-49:drunk 50:2 51-99:drunk 100-103:2")
                .then("spill(2)", x -> x.spill(2), 5, "1-49:drunk 50:spilt 51-99:drunk 100-103:spilt")
                .then("nextRound()", x -> x.nextRound(), 2, "1-103:jug")
                .then("drink(3), a new round", x -> x.drink(3), 1, "1:drunk 2-103:jug")
                .then("pour(3, 60), a new round", x -> x.pour(3, 60), 60, "1:drunk 2-61:3 62-103:jug");
    }

    private static void aGobletGivesItsLowestNumbersFirst() {
        new Run()
                .then("pour(0, 4)", x -> x.pour(0, 4), 4, "1-4:0 5-100:jug")
                .then("pour(1, 4)", x -> x.pour(1, 4), 4, "1-4:0 5-8:1 9-100:jug")
                .then("drink(1)", x -> x.drink(1), 5, "1-4:0 5:drunk 6-8:1 9-100:jug")
                .then("share(0, 1, 2)", x -> x.share(0, 1, 2), 2, "1-2:0 3-4:1 5:drunk 6-8:1 9-100:jug")
                .then("drink(1), shared last", x -> x.drink(1), 3, "1-2:0 3:drunk 4:1 5:drunk 6-8:1 9-100:jug")
                .then("drink(1)", x -> x.drink(1), 4, "1-2:0 3-5:drunk 6-8:1 9-100:jug")
                .then("pourBack(0)", x -> x.pourBack(0), 2, "1-2:jug 3-5:drunk 6-8:1 9-100:jug")
                .then("drink(1), the jug has lower ones", x -> x.drink(1), 6, "1-2:jug 3-6:drunk 7-8:1 9-100:jug")
                .then("pour(1, 1), poured last", x -> x.pour(1, 1), 1, "1:1 2:jug 3-6:drunk 7-8:1 9-100:jug")
                .then("drink(1)", x -> x.drink(1), 1, "1:drunk 2:jug 3-6:drunk 7-8:1 9-100:jug")
                .then("pour(2, 3)", x -> x.pour(2, 3), 3, "1:drunk 2:2 3-6:drunk 7-8:1 9-10:2 11-100:jug")
                .then("share(2, 1, 1)", x -> x.share(2, 1, 1), 1, "1:drunk 2:2 3-6:drunk 7-8:1 9:2 10:1 11-100:jug")
                .then("drink(1), higher ones shared", x -> x.drink(1), 7,
                        "1:drunk 2:2 3-7:drunk 8:1 9:2 10:1 11-100:jug")
                .then("drink(1)", x -> x.drink(1), 8, "1:drunk 2:2 3-8:drunk 9:2 10:1 11-100:jug")
                .then("drink(1)", x -> x.drink(1), 10, "1:drunk 2:2 3-8:drunk 9:2 10:drunk 11-100:jug")
                .then("drink(1), then empty", x -> x.drink(1), 11, "1:drunk 2:2 3-8:drunk 9:2 10-11:drunk 12-100:jug")
                .then("drink(2)", x -> x.drink(2), 2, "1-8:drunk 9:2 10-11:drunk 12-100:jug");
    }

    // ---- the row of the tests

    private static void test(String sentence, Runnable body) {
        test = sentence;
        tests++;
        int before = wrong;
        try {
            body.run();
        } catch (RuntimeException e) {
            wrong("a call threw " + e.getClass().getName() + ", due is an answer");
        }
        if (wrong != before) {
            failedTests++;
        }
    }

    public static void main(String[] args) {
        test("none is out twice", TermsTest::noneIsOutTwice);
        test("a jug has the numbers 1 to its size", TermsTest::jugHasTheNumbersOneToItsSize);
        test("goblets into which ranges of them are poured", TermsTest::rangesArePouredIntoGoblets);
        test("and drink them one by one", TermsTest::numbersAreDrunkOneByOne);
        test("What is left in a goblet can be poured back", TermsTest::whatIsLeftIsPouredBack);
        test("what was drunk can be given back number by number", TermsTest::whatWasDrunkIsGivenBackNumberByNumber);
        test("a goblet that falls spills what it has", TermsTest::aGobletThatFallsSpillsWhatItHas);
        test("when everything is drunk or spilt, a new round begins with a full jug",
                TermsTest::aNewRoundBeginsWithAFullJug);
        test("The jug knows its numbers as ranges, which grow together when they touch",
                TermsTest::rangesOfTheJugGrowTogether);
        test("The goblets know their numbers as ranges, which grow together when they touch",
                TermsTest::rangesOfAGobletGrowTogether);
        test("The jug and the goblets know their numbers as ranges",
                TermsTest::rangesOfDifferentPlacesDoNotGrowTogether);
        test("Each number is at one place", TermsTest::eachNumberIsAtOnePlace);
        test("The jug gives its lowest numbers first, wherever they came from",
                TermsTest::theJugGivesItsLowestNumbersFirst);
        test("so does a goblet", TermsTest::aGobletGivesItsLowestNumbersFirst);
        if (wrong != 0) {
            System.out.println(failedTests + " of " + tests + " tests failed");
            System.exit(1);
        }
        System.out.println("all " + tests + " tests passed");
    }
}
