/**
 * Tests for each sentence of the promises 1 to 21 that names a boundary case: the last value that is allowed
 * and the first that is refused, the empty and the full state, and that a refused call changes nothing.
 */
public final class BoundariesOfPromisesTest extends Checks {
    public static void main(String[] args) {
        newObject();
        setRouteRanges();
        setRouteReturnsBefore();
        stepsRanges();
        stepsToTheSame();
        stepsMost();
        stepsInLoops();
        sendRanges();
        sendBelowLeastStake();
        sendWithFewCoins();
        sendSixty();
        passRange();
        passCountsDelivered();
        passToLastTime();
        answerRange();
        answerOfEachState();
        answerReturnsReputationThen();
        markRange();
        markOfEachState();
        markReturnsWhatIsPaid();
        lettersCounted();
        timeCounted();
        lookAtLettersRange();
        stateOfEach();
        relayOfEach();
        marksOnEach();
        queueEmptyAndFull();
        queueAtRange();
        queueAtOnlyLooks();
        coinsNoneAndAll();
        poolNoneAndAll();
        escrowNoneAndAll();
        escrowOfEachState();
        reputationsAlike();
        leastStakeRange();
        falseMarksCounted();
        finish();
    }

    // ---- promise 1

    private static void newObject() {
        part("promise 1: begins at the time 0, without letters");
        StampRelay x = new StampRelay();
        due("time()", x.time(), 0);
        due("letters()", x.letters(), 0);
        due("escrow()", x.escrow(), 0);
        for (int relay = 0; relay < 4; relay++) {
            dueQueue(x, relay);
        }
        refused("stateOf(0)", INDEX, StampRelay::new, y -> y.stateOf(0));
        refused("relayOf(0)", INDEX, StampRelay::new, y -> y.relayOf(0));
        refused("marksOn(0)", INDEX, StampRelay::new, y -> y.marksOn(0));
        refused("answer(0)", INDEX, StampRelay::new, y -> y.answer(0));
        refused("mark(0)", INDEX, StampRelay::new, y -> y.mark(0));
        due("pass(50)", x.pass(50), 0);
        // What is done to one object is nothing to another one made before or after it.
        StampRelay other = withEachState();
        due("letters()", x.letters(), 0);
        due("steps(0, 2)", x.steps(0, 2), 1);
        due("letters() of the other", other.letters(), 6);
        due("letters() of a third", new StampRelay().letters(), 0);
        due("steps(0, 2) of a third", new StampRelay().steps(0, 2), 1);
    }

    // ---- promise 2

    private static void setRouteRanges() {
        part("promise 2: relay, target and next are 0 to 3, target and next are other relays");
        for (int relay = -1; relay <= 4; relay++) {
            for (int target = -1; target <= 4; target++) {
                for (int next = -1; next <= 4; next++) {
                    setRouteOnNewObject(relay, target, next);
                }
            }
        }
        for (int bad : NO_RELAYS) {
            refused("setRoute(" + bad + ", 0, 1)", INDEX, Checks::withEachState, x -> x.setRoute(bad, 0, 1));
            refused("setRoute(0, " + bad + ", 1)", INDEX, Checks::withEachState, x -> x.setRoute(0, bad, 1));
            refused("setRoute(0, 1, " + bad + ")", INDEX, Checks::withEachState, x -> x.setRoute(0, 1, bad));
        }
        refused("setRoute(0, 0, 1)", ARGUMENT, Checks::withEachState, x -> x.setRoute(0, 0, 1));
        refused("setRoute(0, 2, 0)", ARGUMENT, Checks::withEachState, x -> x.setRoute(0, 2, 0));
    }

    private static void setRouteOnNewObject(int relay, int target, int next) {
        String call = "setRoute(" + relay + ", " + target + ", " + next + ")";
        boolean known = isRelay(relay) && isRelay(target) && isRelay(next);
        if (known && target != relay && next != relay) {
            StampRelay x = new StampRelay();
            due(call, x.setRoute(relay, target, next), target);
            // Nothing but that route is another one now.
            for (int from = 0; from < 4; from++) {
                for (int to = 0; to < 4; to++) {
                    boolean changed = from == relay && to == target && next != target;
                    due("steps(" + from + ", " + to + ") after " + call, x.steps(from, to),
                            from == to ? 0 : changed ? 2 : 1);
                }
            }
        } else {
            refused(call, known ? ARGUMENT : INDEX, StampRelay::new, x -> x.setRoute(relay, target, next));
        }
    }

    private static boolean isRelay(int number) {
        return number >= 0 && number <= 3;
    }

    private static void setRouteReturnsBefore() {
        part("promise 2: returns where they went before");
        StampRelay x = new StampRelay();
        due("setRoute(3, 0, 1)", x.setRoute(3, 0, 1), 0);
        due("setRoute(3, 0, 1) again", x.setRoute(3, 0, 1), 1);
        due("setRoute(3, 0, 2)", x.setRoute(3, 0, 2), 1);
        dueThrow("setRoute(3, 0, 3)", ARGUMENT, () -> x.setRoute(3, 0, 3));
        dueThrow("setRoute(3, 0, 4)", INDEX, () -> x.setRoute(3, 0, 4));
        due("setRoute(3, 0, 0)", x.setRoute(3, 0, 0), 2);
        due("setRoute(3, 0, 1)", x.setRoute(3, 0, 1), 0);
        due("setRoute(3, 2, 1)", x.setRoute(3, 2, 1), 2);
    }

    // ---- promise 3

    private static void stepsRanges() {
        part("promise 3: relay and target are 0 to 3");
        for (int relay = -1; relay <= 4; relay++) {
            for (int target = -1; target <= 4; target++) {
                int from = relay;
                int to = target;
                String call = "steps(" + from + ", " + to + ")";
                if (isRelay(from) && isRelay(to)) {
                    due(call, new StampRelay().steps(from, to), from == to ? 0 : 1);
                } else {
                    refused(call, INDEX, Checks::withEachState, x -> x.steps(from, to));
                }
            }
        }
        for (int bad : NO_RELAYS) {
            refused("steps(" + bad + ", 3)", INDEX, Checks::withEachState, x -> x.steps(bad, 3));
            refused("steps(3, " + bad + ")", INDEX, Checks::withEachState, x -> x.steps(3, bad));
        }
    }

    private static void stepsToTheSame() {
        part("promise 3: 0 if both are the same");
        StampRelay x = withLoops();
        for (int relay = 0; relay < 4; relay++) {
            due("steps(" + relay + ", " + relay + ")", x.steps(relay, relay), 0);
        }
    }

    /** Every route but those from 3 leads into a loop of 0, 1 and 2; for 3 there are those alone. */
    private static StampRelay withLoops() {
        StampRelay x = new StampRelay();
        x.setRoute(0, 3, 1);
        x.setRoute(1, 3, 2);
        x.setRoute(2, 3, 0);
        x.setRoute(0, 1, 2);
        x.setRoute(2, 1, 0);
        x.setRoute(0, 2, 1);
        x.setRoute(1, 2, 0);
        x.setRoute(1, 0, 2);
        x.setRoute(2, 0, 1);
        return x;
    }

    private static void stepsMost() {
        part("promise 3: over all relays there are 3 steps");
        StampRelay x = new StampRelay();
        x.setRoute(3, 0, 1);
        due("steps(3, 0)", x.steps(3, 0), 2);
        x.setRoute(1, 0, 2);
        due("steps(3, 0)", x.steps(3, 0), 3);
        due("steps(1, 0)", x.steps(1, 0), 2);
        due("steps(2, 0)", x.steps(2, 0), 1);
        due("steps(0, 3)", x.steps(0, 3), 1);
        // A letter that goes takes as many steps.
        x.send(3, 4, 10);
        due("pass(3)", x.pass(3), 0);
        due("relayOf(0)", x.relayOf(0), 0);
    }

    private static void stepsInLoops() {
        part("promise 3: NONE if it would come to a relay at which it was");
        StampRelay x = withLoops();
        for (int from = 0; from < 3; from++) {
            for (int to = 0; to < 4; to++) {
                due("steps(" + from + ", " + to + ")", x.steps(from, to), from == to ? 0 : NONE);
            }
        }
        for (int to = 0; to < 3; to++) {
            due("steps(3, " + to + ")", x.steps(3, to), 1);
        }
        // A loop in which the first relay is not.
        x.setRoute(3, 0, 1);
        due("steps(3, 0)", x.steps(3, 0), NONE);
        // By the routes of now: mended, the way has an end again.
        x.setRoute(1, 0, 0);
        due("steps(3, 0)", x.steps(3, 0), 2);
        due("steps(2, 0)", x.steps(2, 0), 2);
        x.setRoute(2, 3, 3);
        due("steps(0, 3)", x.steps(0, 3), 3);
    }

    // ---- promise 4

    private static void sendRanges() {
        part("promise 4: sender and reader are two people, a stake is 0 to 20");
        int[] stakes = {LEAST, -1, 0, 9, 10, 20, 21, GREATEST};
        for (int sender = -1; sender <= 8; sender++) {
            for (int reader = -1; reader <= 8; reader++) {
                for (int stake : stakes) {
                    sendOnNewObject(sender, reader, stake);
                }
            }
        }
        for (int bad : NO_PEOPLE) {
            refused("send(" + bad + ", 1, 10)", INDEX, Checks::withFourAnswers, x -> x.send(bad, 1, 10));
            refused("send(0, " + bad + ", 10)", INDEX, Checks::withFourAnswers, x -> x.send(0, bad, 10));
        }
        // The least stake of 0 is no reason to take one below it.
        for (int bad : new int[] {LEAST, -1, 21, GREATEST}) {
            refused("send(0, 1, " + bad + ")", ARGUMENT, Checks::withFourAnswers, x -> x.send(0, 1, bad));
        }
        due("send(0, 1, 0)", withFourAnswers().send(0, 1, 0), 4);
        due("send(0, 1, 20)", withFourAnswers().send(0, 1, 20), 4);
    }

    private static void sendOnNewObject(int sender, int reader, int stake) {
        String call = "send(" + sender + ", " + reader + ", " + stake + ")";
        boolean known = sender >= 0 && sender <= 7 && reader >= 0 && reader <= 7;
        boolean inRange = sender != reader && stake >= 0 && stake <= 20;
        if (known && inRange && stake >= 10) {
            due(call, new StampRelay().send(sender, reader, stake), 0);
        } else {
            refused(call, !known ? INDEX : !inRange ? ARGUMENT : STATE, StampRelay::new,
                    x -> x.send(sender, reader, stake));
        }
    }

    private static void sendBelowLeastStake() {
        part("promise 4: a stake is refused below the least one of the sender");
        refused("send(7, 0, 9)", STATE, StampRelay::new, x -> x.send(7, 0, 9));
        due("send(7, 0, 10)", new StampRelay().send(7, 0, 10), 0);
        // It is that of the sender, not of the reader.
        due("send(0, 7, 0)", withFourAnswers().send(0, 7, 0), 4);
        refused("send(7, 0, 9)", STATE, Checks::withFourAnswers, x -> x.send(7, 0, 9));
        due("send(7, 0, 10)", withFourAnswers().send(7, 0, 10), 4);
        // Once marked as unwanted, it takes the most.
        refused("send(5, 0, 19)", STATE, Checks::withEachState, x -> x.send(5, 0, 19));
        due("send(5, 0, 20)", withEachState().send(5, 0, 20), 6);
    }

    private static void sendWithFewCoins() {
        part("promise 4: a stake is refused if the sender has fewer coins");
        StampRelay x = withTwelveCoins();
        due("coins(6)", x.coins(6), 12);
        refused("send(6, 2, 13)", STATE, BoundariesOfPromisesTest::withTwelveCoins, y -> y.send(6, 2, 13));
        refused("send(6, 2, 20)", STATE, BoundariesOfPromisesTest::withTwelveCoins, y -> y.send(6, 2, 20));
        due("send(6, 2, 12)", x.send(6, 2, 12), 5);
        due("coins(6)", x.coins(6), 0);
        dueThrow("send(6, 2, 10)", STATE, () -> x.send(6, 2, 10));
        // One coin is left: not enough for the least stake.
        StampRelay y = withTwelveCoins();
        due("send(6, 2, 11)", y.send(6, 2, 11), 5);
        dueThrow("send(6, 2, 10)", STATE, () -> y.send(6, 2, 10));
        // Who may write for nothing can do so with nothing.
        StampRelay z = withFourAnswers();
        for (int i = 0; i < 5; i++) {
            z.send(0, 4, 20);
        }
        due("coins(0)", z.coins(0), 0);
        due("send(0, 4, 0)", z.send(0, 4, 0), 9);
        dueThrow("send(0, 4, 1)", STATE, () -> z.send(0, 4, 1));
        due("letters()", z.letters(), 10);
    }

    /** Person 6 has sent the letters 0 to 4, and has 12 coins left. */
    private static StampRelay withTwelveCoins() {
        StampRelay x = new StampRelay();
        for (int stake : new int[] {20, 20, 20, 18, 10}) {
            x.send(6, 2, stake);
        }
        return x;
    }

    private static void sendSixty() {
        part("promise 4: a letter is refused if there are 60");
        StampRelay x = new StampRelay();
        for (int letter = 0; letter < 60; letter++) {
            due("send", x.send(letter % 8, (letter + 4) % 8, 10), letter);
        }
        dueThrow("send(7, 3, 10)", STATE, () -> x.send(7, 3, 10));
        refused("send(7, 3, 10)", STATE, Checks::withSixtyLetters, y -> y.send(7, 3, 10));
        refused("send(0, 7, 20)", STATE, Checks::withSixtyLetters, y -> y.send(0, 7, 20));
    }

    // ---- promise 5

    private static void passRange() {
        part("promise 5: ticks are 1 to 50");
        StampRelay x = new StampRelay();
        due("pass(1)", x.pass(1), 0);
        due("time()", x.time(), 1);
        due("pass(50)", x.pass(50), 0);
        due("time()", x.time(), 51);
        for (int bad : new int[] {0, -1, 51, -50, LEAST, GREATEST}) {
            refused("pass(" + bad + ")", ARGUMENT, Checks::withEachState, y -> y.pass(bad));
            refused("pass(" + bad + ") on a new object", ARGUMENT, StampRelay::new, y -> y.pass(bad));
        }
    }

    private static void passCountsDelivered() {
        part("promise 5: returns how many letters are DELIVERED in the ticks");
        due("pass(50) without letters", new StampRelay().pass(50), 0);
        // Those that are EXPIRED before the call ends were DELIVERED in it.
        due("pass(50) with sixty", withSixtyLetters().pass(50), 60);
        StampRelay x = withSixtyLetters();
        due("pass(1)", x.pass(1), 8);
        due("pass(6)", x.pass(6), 48);
        due("pass(1)", x.pass(1), 4);
        due("pass(1)", x.pass(1), 0);
        // One that moves on or is LOST is not.
        StampRelay y = new StampRelay();
        y.setRoute(0, 1, 2);
        y.setRoute(2, 1, 0);
        y.send(0, 1, 10);
        y.send(3, 7, 10);
        y.send(3, 0, 10);
        due("pass(1)", y.pass(1), 1);
        due("pass(1)", y.pass(1), 1);
        due("stateOf(0)", y.stateOf(0), LOST);
        due("stateOf(2)", y.stateOf(2), DELIVERED);
        due("pass(50)", y.pass(50), 0);
    }

    /** It takes more than 512 calls to come there, so the document does not promise it; it holds all the same. */
    private static void passToLastTime() {
        part("promise 5: refused if the time would be above 100000");
        StampRelay x = new StampRelay();
        for (int i = 0; i < 1999; i++) {
            x.pass(50);
        }
        x.send(0, 1, 10);
        due("pass(1)", x.pass(1), 0);
        due("time()", x.time(), 99951);
        dueThrow("pass(50)", STATE, () -> x.pass(50));
        due("time()", x.time(), 99951);
        due("relayOf(0)", x.relayOf(0), 1);
        due("pass(49)", x.pass(49), 1);
        due("time()", x.time(), 100000);
        dueThrow("pass(1)", STATE, () -> x.pass(1));
        dueThrow("pass(50)", STATE, () -> x.pass(50));
        dueThrow("pass(51)", ARGUMENT, () -> x.pass(51));
        dueThrow("pass(0)", ARGUMENT, () -> x.pass(0));
        dueThrow("pass(greatest)", ARGUMENT, () -> x.pass(GREATEST));
        due("time()", x.time(), 100000);
        due("send(0, 1, 10)", x.send(0, 1, 10), 1);
    }

    // ---- promise 6

    private static void answerRange() {
        part("promise 6: letter is a letter");
        for (int bad : new int[] {-1, 6, 59, 60, LEAST, GREATEST}) {
            refused("answer(" + bad + ")", INDEX, Checks::withEachState, x -> x.answer(bad));
        }
        for (int bad : new int[] {-1, 60, LEAST, GREATEST}) {
            refused("answer(" + bad + ") at 60", INDEX, Checks::withSixtyLetters, x -> x.answer(bad));
        }
        StampRelay x = withSixtyLetters();
        x.pass(8);
        due("answer(0)", x.answer(0), 10);
        due("answer(59)", x.answer(59), 10);
    }

    private static void answerOfEachState() {
        part("promise 6: refused if the letter is not DELIVERED");
        for (int letter : new int[] {0, 1, 2, 3, 5}) {
            refused("answer(" + letter + ")", STATE, Checks::withEachState, x -> x.answer(letter));
        }
        StampRelay x = withEachState();
        due("answer(4)", x.answer(4), 10);
        due("coins(6)", x.coins(6), 100);
        due("escrow()", x.escrow(), 15);
        dueThrow("answer(4)", STATE, () -> x.answer(4));
        dueThrow("mark(4)", STATE, () -> x.mark(4));
        due("coins(6)", x.coins(6), 100);
        due("escrow()", x.escrow(), 15);
        dueReputation(x, 6, 10);
    }

    private static void answerReturnsReputationThen() {
        part("promise 6: returns the reputation of the sender then, of this answer too, below 0 as well");
        StampRelay x = new StampRelay();
        for (int i = 0; i < 5; i++) {
            x.send(3, 7, 10);
        }
        x.pass(3);
        x.mark(0);
        x.mark(1);
        due("answer(2)", x.answer(2), -20);
        due("answer(3)", x.answer(3), -10);
        due("answer(4)", x.answer(4), 0);
        dueReputation(x, 3, 0);
        // It is that of the sender, not that of the reader.
        x.send(7, 3, 10);
        x.pass(1);
        due("answer(5)", x.answer(5), 10);
    }

    // ---- promise 7

    private static void markRange() {
        part("promise 7: letter is a letter");
        for (int bad : new int[] {-1, 6, 59, 60, LEAST, GREATEST}) {
            refused("mark(" + bad + ")", INDEX, Checks::withEachState, x -> x.mark(bad));
        }
        for (int bad : new int[] {-1, 60, LEAST, GREATEST}) {
            refused("mark(" + bad + ") at 60", INDEX, Checks::withSixtyLetters, x -> x.mark(bad));
        }
        StampRelay x = withSixtyLetters();
        x.pass(8);
        due("mark(0)", x.mark(0), 0);
        due("mark(59)", x.mark(59), 0);
        dueReputation(x, 0, -15);
        dueReputation(x, 3, -15);
    }

    private static void markOfEachState() {
        part("promise 7: refused if the letter is not DELIVERED");
        for (int letter : new int[] {0, 1, 2, 3, 5}) {
            refused("mark(" + letter + ")", STATE, Checks::withEachState, x -> x.mark(letter));
        }
        StampRelay x = withEachState();
        due("mark(4)", x.mark(4), 0);
        duePools(x, 0, 23, 14, 0);
        due("coins(6)", x.coins(6), 86);
        due("escrow()", x.escrow(), 15);
        dueThrow("mark(4)", STATE, () -> x.mark(4));
        dueThrow("answer(4)", STATE, () -> x.answer(4));
        duePools(x, 0, 23, 14, 0);
        due("coins(6)", x.coins(6), 86);
        dueReputation(x, 6, -15);
    }

    private static void markReturnsWhatIsPaid() {
        part("promise 7: returns what the reader pays for a false mark, 0 if it is not false");
        StampRelay x = withFourAnswers();
        x.send(0, 5, 20);
        x.send(0, 5, 1);
        x.send(0, 5, 0);
        x.send(1, 5, 20);
        x.pass(4);
        due("mark(4)", x.mark(4), 20);
        due("mark(5)", x.mark(5), 1);
        due("mark(6)", x.mark(6), 0);
        due("mark(7)", x.mark(7), 0);
        due("falseMarks(5)", x.falseMarks(5), 3);
        dueAllCoins(x, 100, 80, 100, 100, 100, 79, 100, 100);
        duePools(x, 0, 41, 0, 0);
    }

    // ---- promises 8 and 9

    private static void lettersCounted() {
        part("promise 8: returns how many letters there are");
        StampRelay x = new StampRelay();
        due("letters()", x.letters(), 0);
        dueThrow("send(0, 4, 9)", STATE, () -> x.send(0, 4, 9));
        due("letters()", x.letters(), 0);
        x.send(0, 4, 10);
        due("letters()", x.letters(), 1);
        StampRelay full = withSixtyLetters();
        due("letters()", full.letters(), 60);
        dueThrow("send(0, 4, 10)", STATE, () -> full.send(0, 4, 10));
        due("letters()", full.letters(), 60);
        // Letters of each state count.
        due("letters()", withEachState().letters(), 6);
    }

    private static void timeCounted() {
        part("promise 9: returns the time");
        StampRelay x = withFourAnswers();
        due("time()", x.time(), 4);
        due("time()", withEachState().time(), 22);
        due("time()", withSixtyLetters().time(), 0);
        dueThrow("pass(0)", ARGUMENT, () -> x.pass(0));
        dueThrow("pass(51)", ARGUMENT, () -> x.pass(51));
        due("time()", x.time(), 4);
    }

    // ---- promises 10 to 12

    private static void lookAtLettersRange() {
        part("promises 10 to 12: letter is a letter");
        for (int bad : new int[] {-1, 6, 60, LEAST, GREATEST}) {
            refused("stateOf(" + bad + ")", INDEX, Checks::withEachState, x -> x.stateOf(bad));
            refused("relayOf(" + bad + ")", INDEX, Checks::withEachState, x -> x.relayOf(bad));
            refused("marksOn(" + bad + ")", INDEX, Checks::withEachState, x -> x.marksOn(bad));
        }
        for (int bad : new int[] {-1, 60, LEAST, GREATEST}) {
            refused("stateOf(" + bad + ") at 60", INDEX, Checks::withSixtyLetters, x -> x.stateOf(bad));
            refused("relayOf(" + bad + ") at 60", INDEX, Checks::withSixtyLetters, x -> x.relayOf(bad));
            refused("marksOn(" + bad + ") at 60", INDEX, Checks::withSixtyLetters, x -> x.marksOn(bad));
        }
        StampRelay x = withSixtyLetters();
        dueLetter(x, 0, UNDER_WAY, 0, 1);
        dueLetter(x, 59, UNDER_WAY, 3, 8);
    }

    private static void stateOfEach() {
        part("promise 10: returns the state of a letter");
        StampRelay x = withEachState();
        int[] states = {ANSWERED, MARKED, LOST, EXPIRED, DELIVERED, UNDER_WAY};
        for (int letter = 0; letter < 6; letter++) {
            due("stateOf(" + letter + ")", x.stateOf(letter), states[letter]);
        }
        // Those that have ended stay as they are.
        x.pass(50);
        int[] ends = {ANSWERED, MARKED, LOST, EXPIRED, EXPIRED, EXPIRED};
        for (int letter = 0; letter < 6; letter++) {
            due("stateOf(" + letter + ") at last", x.stateOf(letter), ends[letter]);
        }
    }

    private static void relayOfEach() {
        part("promise 11: returns the relay, NONE if the letter is not UNDER_WAY");
        StampRelay x = withEachState();
        int[] relays = {NONE, NONE, NONE, NONE, NONE, 3};
        for (int letter = 0; letter < 6; letter++) {
            due("relayOf(" + letter + ")", x.relayOf(letter), relays[letter]);
        }
        x.send(0, 1, 10);
        due("relayOf(6)", x.relayOf(6), 0);
        x.pass(1);
        due("relayOf(5)", x.relayOf(5), NONE);
        due("relayOf(6)", x.relayOf(6), 1);
    }

    private static void marksOnEach() {
        part("promise 12: returns the relays at which a letter was, the one where it lies included");
        StampRelay x = withEachState();
        int[] marks = {1, 2, 3, 8, 4, 8};
        for (int letter = 0; letter < 6; letter++) {
            due("marksOn(" + letter + ")", x.marksOn(letter), marks[letter]);
        }
        // All four relays, and no less when it has ended.
        StampRelay y = new StampRelay();
        y.setRoute(0, 3, 1);
        y.setRoute(1, 3, 2);
        y.send(0, 3, 10);
        y.pass(3);
        dueLetter(y, 0, UNDER_WAY, 3, 15);
        y.pass(1);
        dueLetter(y, 0, DELIVERED, NONE, 15);
        y.pass(20);
        dueLetter(y, 0, EXPIRED, NONE, 15);
    }

    // ---- promises 13 and 14

    private static void queueEmptyAndFull() {
        part("promise 13: returns how many letters lie in the queue of relay 0 to 3");
        StampRelay x = withFiftyNineInOneQueue();
        due("queue(0)", x.queue(0), 59);
        for (int relay = 1; relay < 4; relay++) {
            due("queue(" + relay + ")", x.queue(relay), 0);
        }
        for (int bad : NO_RELAYS) {
            refused("queue(" + bad + ")", INDEX, Checks::withEachState, y -> y.queue(bad));
        }
        due("pass(29)", x.pass(29), 58);
        due("queue(0)", x.queue(0), 1);
        due("pass(1)", x.pass(1), 1);
        due("queue(0)", x.queue(0), 0);
        due("pass(1)", x.pass(1), 0);
        due("queue(0)", x.queue(0), 0);
    }

    /** Letter 0 is ANSWERED, so that person 0 could send the others for nothing. */
    private static StampRelay withFiftyNineInOneQueue() {
        StampRelay x = new StampRelay();
        x.send(0, 4, 10);
        x.pass(1);
        x.answer(0);
        for (int letter = 1; letter < 60; letter++) {
            x.send(0, 4, letter % 3 == 0 ? 1 : 0);
        }
        return x;
    }

    private static void queueAtRange() {
        part("promise 14: relay is 0 to 3, place is 0 for the first one, and there are so many letters");
        StampRelay x = withFiftyNineInOneQueue();
        // First those with a stake of 1, which are 3, 6, up to 57; then the others, from 1 to 59.
        due("queueAt(0, 0)", x.queueAt(0, 0), 3);
        due("queueAt(0, 18)", x.queueAt(0, 18), 57);
        due("queueAt(0, 19)", x.queueAt(0, 19), 1);
        due("queueAt(0, 58)", x.queueAt(0, 58), 59);
        for (int bad : new int[] {-1, 59, 60, LEAST, GREATEST}) {
            dueThrow("queueAt(0, " + bad + ")", INDEX, () -> x.queueAt(0, bad));
        }
        StampRelay eachState = withEachState();
        due("queueAt(3, 0)", eachState.queueAt(3, 0), 5);
        for (int bad : new int[] {-1, 1, LEAST, GREATEST}) {
            refused("queueAt(3, " + bad + ")", INDEX, Checks::withEachState, y -> y.queueAt(3, bad));
        }
        for (int relay = 0; relay < 3; relay++) {
            int empty = relay;
            refused("queueAt(" + empty + ", 0)", INDEX, Checks::withEachState, y -> y.queueAt(empty, 0));
        }
        for (int bad : NO_RELAYS) {
            refused("queueAt(" + bad + ", 0)", INDEX, Checks::withEachState, y -> y.queueAt(bad, 0));
            refused("queueAt(" + bad + ", -1)", INDEX, Checks::withEachState, y -> y.queueAt(bad, -1));
        }
    }

    private static void queueAtOnlyLooks() {
        part("promise 14: the order in which they would be looked at now, as often as it is asked");
        StampRelay x = new StampRelay();
        x.send(2, 6, 10);
        x.send(6, 2, 12);
        x.send(2, 6, 12);
        dueQueue(x, 2, 1, 2, 0);
        dueQueue(x, 2, 1, 2, 0);
        due("pass(1)", x.pass(1), 2);
        dueQueue(x, 2, 0);
        due("answer(2)", x.answer(2), 10);
        // Now a letter of person 2 has 10 more, also the one that was sent before.
        x.send(6, 2, 20);
        x.send(6, 2, 19);
        dueQueue(x, 2, 0, 3, 4);
    }

    // ---- promises 15 to 17

    private static void coinsNoneAndAll() {
        part("promise 15: returns the coins of a person");
        StampRelay x = withAllStaked();
        dueAllCoins(x, 0, 0, 0, 0, 0, 0, 0, 0);
        for (int bad : NO_PEOPLE) {
            refused("coins(" + bad + ")", INDEX, BoundariesOfPromisesTest::withAllStaked, y -> y.coins(bad));
        }
        for (int person = 0; person < 8; person++) {
            int own = person;
            refused("send(" + own + ", ..)", STATE, BoundariesOfPromisesTest::withAllStaked,
                    y -> y.send(own, (own + 1) % 8, 10));
        }
        x.pass(50);
        dueAllCoins(x, 100, 100, 100, 100, 100, 100, 100, 100);
    }

    /** Each person has sent five letters for 20 coins to the other one of its relay. */
    private static StampRelay withAllStaked() {
        StampRelay x = new StampRelay();
        for (int letter = 0; letter < 40; letter++) {
            due("send", x.send(letter % 8, (letter + 4) % 8, 20), letter);
        }
        return x;
    }

    private static void poolNoneAndAll() {
        part("promise 16: returns the coins in the pool of relay 0 to 3");
        duePools(new StampRelay(), 0, 0, 0, 0);
        StampRelay x = withAllStaked();
        due("pass(5)", x.pass(5), 40);
        duePools(x, 0, 0, 0, 0);
        for (int letter = 0; letter < 40; letter++) {
            due("mark(" + letter + ")", x.mark(letter), 0);
        }
        duePools(x, 200, 200, 200, 200);
        dueAllCoins(x, 0, 0, 0, 0, 0, 0, 0, 0);
        dueReputation(x, 7, -75);
        due("escrow()", x.escrow(), 0);
        for (int bad : NO_RELAYS) {
            refused("pool(" + bad + ")", INDEX, Checks::withEachState, y -> y.pool(bad));
        }
    }

    private static void escrowNoneAndAll() {
        part("promise 17: returns the stakes of all letters that are UNDER_WAY or DELIVERED");
        due("escrow() without letters", new StampRelay().escrow(), 0);
        due("escrow() of sixty", withSixtyLetters().escrow(), 600);
        StampRelay x = withAllStaked();
        due("escrow() of all coins", x.escrow(), 800);
        x.pass(2);
        due("escrow() with some DELIVERED", x.escrow(), 800);
        x.pass(3);
        due("escrow() with all DELIVERED", x.escrow(), 800);
        x.pass(20);
        due("escrow() with all EXPIRED", x.escrow(), 0);
    }

    private static void escrowOfEachState() {
        part("promise 17: no other letters count");
        StampRelay x = withEachState();
        due("escrow()", x.escrow(), 29);
        x.answer(4);
        due("escrow()", x.escrow(), 15);
        x.pass(1);
        due("escrow()", x.escrow(), 15);
        x.mark(5);
        due("escrow()", x.escrow(), 0);
        duePools(x, 0, 23, 0, 15);
    }

    // ---- promises 18 to 21

    private static void reputationsAlike() {
        part("promises 18 and 19: the reputation of person 0 to 7, both ways");
        int[] none = {0, 0, 0, 0, 0, 0, 0, 0};
        int[] each = {0, 0, 0, 0, 10, -15, 0, 0};
        int[] four = {40, 0, 0, 0, 0, 0, 0, 0};
        StampRelay[] objects = {new StampRelay(), withEachState(), withFourAnswers()};
        int[][] due = {none, each, four};
        for (int i = 0; i < objects.length; i++) {
            for (int person = 0; person < 8; person++) {
                dueReputation(objects[i], person, due[i][person]);
            }
        }
        for (int bad : NO_PEOPLE) {
            refused("reputation(" + bad + ")", INDEX, Checks::withFourAnswers, x -> x.reputation(bad));
            refused("reputationAtOnce(" + bad + ")", INDEX, Checks::withFourAnswers, x -> x.reputationAtOnce(bad));
        }
        // The greatest there is: sixty answers, each of 2 times 5.
        StampRelay x = withSixtyAnswers();
        dueReputation(x, 0, 600);
        due("leastStake(0)", x.leastStake(0), 0);
        due("coins(0)", x.coins(0), 100);
    }

    private static StampRelay withSixtyAnswers() {
        StampRelay x = new StampRelay();
        for (int letter = 0; letter < 60; letter++) {
            x.send(0, 4, x.leastStake(0));
            x.pass(1);
            due("answer(" + letter + ")", x.answer(letter), 10 * letter + 10);
        }
        return x;
    }

    private static void leastStakeRange() {
        part("promise 20: returns the least stake of person 0 to 7");
        for (int person = 0; person < 8; person++) {
            due("leastStake(" + person + ")", new StampRelay().leastStake(person), 10);
        }
        StampRelay x = withEachState();
        due("leastStake(4)", x.leastStake(4), 0);
        due("leastStake(5)", x.leastStake(5), 20);
        due("leastStake(0)", x.leastStake(0), 10);
        for (int bad : NO_PEOPLE) {
            refused("leastStake(" + bad + ")", INDEX, Checks::withFourAnswers, y -> y.leastStake(bad));
        }
    }

    private static void falseMarksCounted() {
        part("promise 21: returns how many false marks person 0 to 7 has made");
        StampRelay x = withFourAnswers();
        for (int person = 0; person < 8; person++) {
            due("falseMarks(" + person + ")", x.falseMarks(person), 0);
        }
        for (int i = 1; i <= 8; i++) {
            due("send(0, 7, 1)", x.send(0, 7, 1), 3 + i);
            x.pass(2);
            due("mark", x.mark(3 + i), 1);
            due("falseMarks(7)", x.falseMarks(7), i);
        }
        // A mark that is not false is not counted, nor is one that is refused.
        x.send(1, 7, 10);
        x.pass(2);
        due("mark(12)", x.mark(12), 0);
        dueThrow("mark(12)", STATE, () -> x.mark(12));
        due("falseMarks(7)", x.falseMarks(7), 8);
        for (int person = 0; person < 7; person++) {
            due("falseMarks(" + person + ")", x.falseMarks(person), 0);
        }
        for (int bad : NO_PEOPLE) {
            refused("falseMarks(" + bad + ")", INDEX, Checks::withFourAnswers, y -> y.falseMarks(bad));
        }
    }
}
