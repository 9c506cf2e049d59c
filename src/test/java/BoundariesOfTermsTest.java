import java.util.function.ToIntFunction;

/**
 * One test for each sentence of "What it is" and of "Terms" that names a boundary case; its sentence stands at
 * its beginning. Each answer that is due was found by hand from the document.
 */
public final class BoundariesOfTermsTest extends Checks {
    public static void main(String[] args) {
        lastPromisedCall();
        firstAndLastPerson();
        firstAndLastRelay();
        relaysOfPeople();
        coinsAtFirst();
        timeAtFirst();
        routesAndPoolsAtFirst();
        statesWithOpinion();
        weights();
        opinionsAdded();
        oneReaderManyLetters();
        greatestAndLeastOfLeastStake();
        sixtyLetters();
        anotherPersonAsReader();
        stakeTakenAtOnce();
        firstQueue();
        marksOfTheWay();
        timeGrowsByOne();
        lettersThatLayThere();
        queueByRank();
        queueByNumber();
        queueBelowZero();
        twoMove();
        deliveredAtHome();
        lostByMarks();
        lostIntoPool();
        expiredAfterTwenty();
        orderAtBeginOfTick();
        answerGivesBack();
        markIntoPool();
        threeOthers();
        threeOthersAtThatTime();
        allCoinsIfFewer();
        firstOfSeveralExceptions();
        constants();
        finish();
    }

    // ---- what it is

    private static void lastPromisedCall() {
        part("an object is used for at most 512 calls");
        StampRelay passing = afterCalls(511);
        due("pass(1) as call 512", passing.pass(1), 0);
        StampRelay looking = afterCalls(511);
        due("time() as call 512", looking.time(), 50 * 509);
        StampRelay full = afterCalls(451);
        for (int i = 0; i < 60; i++) {
            due("send as call " + (452 + i), full.send(i % 8, (i + 1) % 8, 10), i);
        }
        due("queue(3) as call 512", full.queue(3), 15);
        StampRelay refusing = afterCalls(511);
        dueThrow("send(0, 0, 10) as call 512", ARGUMENT, () -> refusing.send(0, 0, 10));
    }

    /** The first two calls are looks, all others are passes of 50 ticks. */
    private static StampRelay afterCalls(int calls) {
        StampRelay x = new StampRelay();
        due("letters()", x.letters(), 0);
        due("escrow()", x.escrow(), 0);
        for (int i = 2; i < calls; i++) {
            due("pass(50)", x.pass(50), 0);
        }
        return x;
    }

    // ---- people, relays, routes, pools

    private static void firstAndLastPerson() {
        part("people are 0 to 7");
        for (int person : new int[] {0, 7}) {
            StampRelay x = new StampRelay();
            due("coins", x.coins(person), 100);
            due("reputation", x.reputation(person), 0);
            due("reputationAtOnce", x.reputationAtOnce(person), 0);
            due("leastStake", x.leastStake(person), 10);
            due("falseMarks", x.falseMarks(person), 0);
            due("send from", x.send(person, 3, 10), 0);
            due("send to", x.send(3, person, 10), 1);
        }
        for (int bad : NO_PEOPLE) {
            refused("coins(" + bad + ")", INDEX, Checks::withEachState, x -> x.coins(bad));
            refused("reputation(" + bad + ")", INDEX, Checks::withEachState, x -> x.reputation(bad));
            refused("reputationAtOnce(" + bad + ")", INDEX, Checks::withEachState, x -> x.reputationAtOnce(bad));
            refused("leastStake(" + bad + ")", INDEX, Checks::withEachState, x -> x.leastStake(bad));
            refused("falseMarks(" + bad + ")", INDEX, Checks::withEachState, x -> x.falseMarks(bad));
            refused("send(" + bad + ", 3, 10)", INDEX, Checks::withEachState, x -> x.send(bad, 3, 10));
            refused("send(3, " + bad + ", 10)", INDEX, Checks::withEachState, x -> x.send(3, bad, 10));
        }
    }

    private static void firstAndLastRelay() {
        part("relays are 0 to 3");
        StampRelay y = new StampRelay();
        for (int relay : new int[] {0, 3}) {
            due("pool", y.pool(relay), 0);
            due("queue", y.queue(relay), 0);
            due("steps from", y.steps(relay, 1), 1);
            due("steps to", y.steps(1, relay), 1);
            due("setRoute of", y.setRoute(relay, 1, 2), 1);
            due("setRoute for", y.setRoute(1, relay, 2), relay);
            due("setRoute by", y.setRoute(2, 1, relay), relay == 0 ? 1 : 0);
        }
        for (int bad : NO_RELAYS) {
            refused("pool(" + bad + ")", INDEX, Checks::withEachState, x -> x.pool(bad));
            refused("queue(" + bad + ")", INDEX, Checks::withEachState, x -> x.queue(bad));
            refused("queueAt(" + bad + ", 0)", INDEX, Checks::withEachState, x -> x.queueAt(bad, 0));
            refused("steps(" + bad + ", 1)", INDEX, Checks::withEachState, x -> x.steps(bad, 1));
            refused("steps(1, " + bad + ")", INDEX, Checks::withEachState, x -> x.steps(1, bad));
            refused("setRoute(" + bad + ", 1, 2)", INDEX, Checks::withEachState, x -> x.setRoute(bad, 1, 2));
            refused("setRoute(1, " + bad + ", 2)", INDEX, Checks::withEachState, x -> x.setRoute(1, bad, 2));
            refused("setRoute(1, 2, " + bad + ")", INDEX, Checks::withEachState, x -> x.setRoute(1, 2, bad));
        }
    }

    private static void relaysOfPeople() {
        part("a person belongs to the relay that is the remainder of its number by 4");
        int[] homes = {0, 1, 2, 3, 0, 1, 2, 3};
        for (int sender = 0; sender < 8; sender++) {
            for (int reader = 0; reader < 8; reader++) {
                if (sender != reader) {
                    StampRelay x = new StampRelay();
                    String call = "send(" + sender + ", " + reader + ", 10)";
                    due(call, x.send(sender, reader, 10), 0);
                    due("relayOf after " + call, x.relayOf(0), homes[sender]);
                    boolean near = homes[sender] == homes[reader];
                    due("pass(1) after " + call, x.pass(1), near ? 1 : 0);
                    due("relayOf after " + call + " and pass(1)", x.relayOf(0), near ? NONE : homes[reader]);
                    due("pass(1) again after " + call, x.pass(1), near ? 0 : 1);
                    due("marksOn after " + call, x.marksOn(0), 1 << homes[sender] | 1 << homes[reader]);
                }
            }
        }
    }

    private static void coinsAtFirst() {
        part("a person has 100 coins at first");
        StampRelay x = new StampRelay();
        dueAllCoins(x, 100, 100, 100, 100, 100, 100, 100, 100);
        // All of them can be staked, and not one more.
        for (int i = 0; i < 5; i++) {
            due("send(7, 0, 20)", x.send(7, 0, 20), i);
        }
        dueAllCoins(x, 100, 100, 100, 100, 100, 100, 100, 0);
        dueThrow("send(7, 0, 10)", STATE, () -> x.send(7, 0, 10));
    }

    private static void timeAtFirst() {
        part("time is in ticks, from 0 on");
        StampRelay x = new StampRelay();
        due("time()", x.time(), 0);
        x.pass(1);
        due("time()", x.time(), 1);
    }

    private static void routesAndPoolsAtFirst() {
        part("letters for another relay go to that one itself at first; a pool has 0 coins at first");
        StampRelay x = new StampRelay();
        duePools(x, 0, 0, 0, 0);
        for (int relay = 0; relay < 4; relay++) {
            for (int target = 0; target < 4; target++) {
                due("steps(" + relay + ", " + target + ")", x.steps(relay, target), relay == target ? 0 : 1);
                if (relay != target) {
                    due("setRoute(" + relay + ", " + target + ", ..)", x.setRoute(relay, target, target), target);
                }
            }
        }
    }

    // ---- reputations

    private static void statesWithOpinion() {
        part("of each letter that is ANSWERED or MARKED its reader has an opinion, and of no other");
        StampRelay x = withEachState();
        int[] states = {ANSWERED, MARKED, LOST, EXPIRED, DELIVERED, UNDER_WAY};
        int[] senders = {4, 5, 0, 3, 6, 7};
        int[] due = {10, -15, 0, 0, 0, 0};
        for (int letter = 0; letter < 6; letter++) {
            due("stateOf(" + letter + ")", x.stateOf(letter), states[letter]);
            dueReputation(x, senders[letter], due[letter]);
        }
        // Readers are not judged by what they read.
        dueReputation(x, 1, 0);
        dueReputation(x, 2, 0);
    }

    private static void weights() {
        part("a weight is 5 less the false marks so far, but 1 at least, also for earlier opinions");
        StampRelay x = withFourAnswers();
        due("send(2, 5, 10)", x.send(2, 5, 10), 4);
        due("send(3, 5, 10)", x.send(3, 5, 10), 5);
        due("pass(2)", x.pass(2), 2);
        due("answer(4)", x.answer(4), 10);
        due("mark(5)", x.mark(5), 0);
        dueReputation(x, 2, 10);
        dueReputation(x, 3, -15);
        int[] weights = {4, 3, 2, 1, 1, 1};
        for (int i = 0; i < weights.length; i++) {
            due("send(0, 5, 0)", x.send(0, 5, 0), 6 + i);
            due("pass(2)", x.pass(2), 1);
            due("mark", x.mark(6 + i), 0);
            due("falseMarks(5)", x.falseMarks(5), 1 + i);
            dueReputation(x, 2, 2 * weights[i]);
            dueReputation(x, 3, -3 * weights[i]);
        }
        // The others weigh what they did.
        dueReputation(x, 0, 40);
        // New opinions of 5 weigh 1 as well.
        due("send(1, 5, 10)", x.send(1, 5, 10), 12);
        due("send(6, 5, 10)", x.send(6, 5, 10), 13);
        due("pass(2)", x.pass(2), 2);
        due("answer(12)", x.answer(12), 2);
        due("mark(13)", x.mark(13), 0);
        dueReputation(x, 6, -3);
    }

    private static void opinionsAdded() {
        part("2 times the weights of ANSWERED letters, less 3 times those of MARKED ones that are not falsely so");
        StampRelay x = withWeights();
        dueReputation(x, 1, 0);
        opinion(x, 1, 0, true);
        dueReputation(x, 1, 10);
        opinion(x, 1, 5, true);
        dueReputation(x, 1, 18);
        opinion(x, 1, 6, false);
        dueReputation(x, 1, 9);
        opinion(x, 1, 7, false);
        dueReputation(x, 1, 6);
        opinion(x, 1, 7, true);
        dueReputation(x, 1, 8);
        // Seven letters of person 0 are falsely marked: none of them counts.
        dueReputation(x, 0, 40);
    }

    private static void oneReaderManyLetters() {
        part("a reader counts for each letter");
        StampRelay x = new StampRelay();
        for (int i = 1; i <= 6; i++) {
            opinion(x, 2, 6, true);
            dueReputation(x, 2, 10 * i);
        }
        for (int i = 1; i <= 6; i++) {
            opinion(x, 2, 6, false);
            dueReputation(x, 2, 60 - 15 * i);
        }
    }

    /** Person 5 weighs 4, 6 weighs 3, 7 weighs 1, all others 5; person 1 has not written yet. */
    private static StampRelay withWeights() {
        StampRelay x = withFourAnswers();
        int[] readers = {5, 6, 6, 7, 7, 7, 7};
        for (int i = 0; i < readers.length; i++) {
            due("send", x.send(0, readers[i], 0), 4 + i);
        }
        due("pass(6)", x.pass(6), 7);
        for (int i = 0; i < readers.length; i++) {
            due("mark", x.mark(4 + i), 0);
        }
        due("falseMarks(5)", x.falseMarks(5), 1);
        due("falseMarks(6)", x.falseMarks(6), 2);
        due("falseMarks(7)", x.falseMarks(7), 4);
        return x;
    }

    /** The sender writes to the reader for its least stake, and gets its opinion. */
    private static void opinion(StampRelay x, int sender, int reader, boolean good) {
        int letter = x.send(sender, reader, x.leastStake(sender));
        x.pass(3);
        if (good) {
            x.answer(letter);
        } else {
            int before = x.falseMarks(reader);
            due("mark(" + letter + ")", x.mark(letter), 0);
            due("falseMarks(" + reader + ")", x.falseMarks(reader), before);
        }
    }

    private static void greatestAndLeastOfLeastStake() {
        part("the least stake is 10 less the reputation, but 0 at least and 20 at most");
        StampRelay none = new StampRelay();
        dueLeastStake(none, 0, 10);

        StampRelay nine = withWeights();
        opinion(nine, 1, 0, true);
        opinion(nine, 1, 5, true);
        opinion(nine, 1, 6, false);
        dueLeastStake(nine, 9, 1);

        StampRelay ten = withWeights();
        opinion(ten, 1, 0, true);
        dueLeastStake(ten, 10, 0);

        StampRelay eleven = withWeights();
        opinion(eleven, 1, 0, true);
        opinion(eleven, 1, 2, true);
        opinion(eleven, 1, 6, false);
        dueLeastStake(eleven, 11, 0);

        StampRelay belowNine = withWeights();
        opinion(belowNine, 1, 6, false);
        dueLeastStake(belowNine, -9, 19);

        StampRelay belowTen = withWeights();
        opinion(belowTen, 1, 7, true);
        opinion(belowTen, 1, 5, false);
        dueLeastStake(belowTen, -10, 20);

        StampRelay belowEleven = withWeights();
        opinion(belowEleven, 1, 7, true);
        opinion(belowEleven, 1, 7, true);
        opinion(belowEleven, 1, 0, false);
        dueLeastStake(belowEleven, -11, 20);
    }

    private static void dueLeastStake(StampRelay x, int reputation, int least) {
        dueReputation(x, 1, reputation);
        due("leastStake(1) at " + reputation, x.leastStake(1), least);
        int letters = x.letters();
        Class<?> want = least == 0 ? ARGUMENT : STATE;
        dueThrow("send(1, 5, " + (least - 1) + ")", want, () -> x.send(1, 5, least - 1));
        due("letters()", x.letters(), letters);
        due("send(1, 5, " + least + ")", x.send(1, 5, least), letters);
    }

    // ---- letters

    private static void sixtyLetters() {
        part("letters are numbered from 0, at most 60");
        StampRelay x = withSixtyLetters();
        due("letters()", x.letters(), 60);
        due("stateOf(0)", x.stateOf(0), UNDER_WAY);
        due("stateOf(59)", x.stateOf(59), UNDER_WAY);
        refused("send(0, 4, 10)", STATE, Checks::withSixtyLetters, y -> y.send(0, 4, 10));
        refused("send(7, 0, 20)", STATE, Checks::withSixtyLetters, y -> y.send(7, 0, 20));
        refused("stateOf(60)", INDEX, Checks::withSixtyLetters, y -> y.stateOf(60));
        // Ended letters keep their numbers.
        due("pass(50)", x.pass(50), 60);
        due("stateOf(59)", x.stateOf(59), EXPIRED);
        dueThrow("send(0, 4, 10)", STATE, () -> x.send(0, 4, 10));
        due("letters()", x.letters(), 60);
    }

    private static void anotherPersonAsReader() {
        part("a letter has another person as its reader");
        for (int person = 0; person < 8; person++) {
            int own = person;
            refused("send(" + own + ", " + own + ", 10)", ARGUMENT, Checks::withEachState, x -> x.send(own, own, 10));
        }
    }

    private static void stakeTakenAtOnce() {
        part("a stake is taken from the sender's coins when the letter is sent");
        StampRelay x = new StampRelay();
        x.send(3, 2, 20);
        due("coins(3)", x.coins(3), 80);
        due("escrow()", x.escrow(), 20);
        x.send(3, 2, 10);
        due("coins(3)", x.coins(3), 70);
        due("escrow()", x.escrow(), 30);
        StampRelay y = withFourAnswers();
        y.send(0, 4, 0);
        due("coins(0) after a stake of 0", y.coins(0), 100);
        due("escrow()", y.escrow(), 0);
    }

    private static void firstQueue() {
        part("a letter is UNDER_WAY first in the queue of the sender's relay, though the reader's is the same");
        StampRelay x = new StampRelay();
        x.send(7, 3, 10);
        dueLetter(x, 0, UNDER_WAY, 3, 8);
        dueQueue(x, 0);
        dueQueue(x, 1);
        dueQueue(x, 2);
        dueQueue(x, 3, 0);
    }

    private static void marksOfTheWay() {
        part("marks on a letter tell at which relays it was");
        StampRelay x = new StampRelay();
        x.setRoute(3, 0, 2);
        x.setRoute(2, 0, 1);
        x.send(3, 4, 10);
        int[] marks = {8, 12, 14, 15};
        for (int tick = 0; tick < 4; tick++) {
            due("marksOn(0) after " + tick, x.marksOn(0), marks[tick]);
            due("pass(1)", x.pass(1), tick == 3 ? 1 : 0);
        }
        dueLetter(x, 0, DELIVERED, NONE, 15);
    }

    // ---- ticks

    private static void timeGrowsByOne() {
        part("in a tick the time grows by 1");
        StampRelay x = new StampRelay();
        for (int tick = 1; tick <= 100; tick++) {
            x.pass(1);
            due("time()", x.time(), tick);
        }
        x.pass(50);
        due("time()", x.time(), 150);
    }

    private static void lettersThatLayThere() {
        part("those letters are looked at that lay in the queue when the tick began");
        // From each relay to each other one: looked at earlier or later in the same tick, it moves once.
        for (int sender = 0; sender < 4; sender++) {
            for (int reader = 0; reader < 4; reader++) {
                if (sender != reader) {
                    StampRelay x = new StampRelay();
                    x.send(sender, reader, 20);
                    due("pass(1) from " + sender + " to " + reader, x.pass(1), 0);
                    dueLetter(x, 0, UNDER_WAY, reader, 1 << sender | 1 << reader);
                }
            }
        }
        // What comes in takes no room from what lay there, though it stakes more.
        StampRelay y = new StampRelay();
        y.send(0, 5, 20);
        y.send(1, 5, 10);
        y.send(1, 5, 10);
        due("pass(1)", y.pass(1), 2);
        due("stateOf(0)", y.stateOf(0), UNDER_WAY);
        dueQueue(y, 1, 0);
    }

    private static void queueByRank() {
        part("the greatest stake and reputation, added, goes first");
        StampRelay x = new StampRelay();
        x.send(4, 0, 10);
        x.pass(1);
        due("answer(0)", x.answer(0), 10);
        x.send(0, 1, 15);
        x.send(4, 1, 4);
        x.send(0, 1, 16);
        x.send(4, 1, 7);
        dueQueue(x, 0, 4, 3, 1, 2);
        x.pass(1);
        dueQueue(x, 1, 4, 3);
        dueQueue(x, 0, 1, 2);
    }

    private static void queueByNumber() {
        part("of several with the same sum, the lowest number goes first");
        StampRelay x = new StampRelay();
        x.send(4, 0, 10);
        x.pass(1);
        due("answer(0)", x.answer(0), 10);
        x.send(0, 1, 15);
        x.send(4, 1, 5);
        x.send(0, 1, 15);
        x.send(4, 1, 5);
        dueQueue(x, 0, 1, 2, 3, 4);
        x.pass(1);
        dueQueue(x, 1, 1, 2);
        dueQueue(x, 0, 3, 4);
    }

    private static void queueBelowZero() {
        part("sums below 0 have their order too");
        StampRelay x = new StampRelay();
        for (int i = 0; i < 5; i++) {
            x.send(i < 3 ? 0 : 4, i < 3 ? 4 : 0, 10);
        }
        due("pass(3)", x.pass(3), 5);
        for (int letter = 0; letter < 5; letter++) {
            due("mark(" + letter + ")", x.mark(letter), 0);
        }
        dueReputation(x, 0, -45);
        dueReputation(x, 4, -30);
        x.send(0, 1, 20);
        x.send(4, 1, 20);
        x.send(0, 1, 20);
        x.send(4, 1, 20);
        dueQueue(x, 0, 6, 8, 5, 7);
        x.pass(1);
        dueQueue(x, 1, 6, 8);
        dueQueue(x, 0, 5, 7);
    }

    private static void twoMove() {
        part("the first 2 of a queue move, all if there are fewer");
        int[] moved = {0, 1, 2, 2, 2};
        for (int relay = 0; relay < 4; relay++) {
            for (int length = 0; length < moved.length; length++) {
                StampRelay x = new StampRelay();
                for (int i = 0; i < length; i++) {
                    x.send(relay, relay + 4, 10);
                }
                due("pass(1) with " + length + " letters", x.pass(1), moved[length]);
                due("queue after it", x.queue(relay), length - moved[length]);
            }
        }
        // Each relay has its own two.
        StampRelay y = withSixtyLetters();
        due("pass(1)", y.pass(1), 8);
        for (int relay = 0; relay < 4; relay++) {
            due("queue(" + relay + ")", y.queue(relay), 13);
        }
    }

    private static void deliveredAtHome() {
        part("at the relay of the reader a letter is DELIVERED, whatever the routes are");
        StampRelay x = new StampRelay();
        for (int target = 1; target < 4; target++) {
            x.setRoute(target, 0, target == 3 ? 1 : target + 1);
        }
        x.send(0, 4, 10);
        due("steps(1, 0)", x.steps(1, 0), NONE);
        due("pass(1)", x.pass(1), 1);
        dueLetter(x, 0, DELIVERED, NONE, 1);
        // The tick in which it comes there is not that in which it is DELIVERED.
        x.send(0, 5, 10);
        due("pass(1)", x.pass(1), 0);
        due("stateOf(1)", x.stateOf(1), UNDER_WAY);
        due("pass(1)", x.pass(1), 1);
        due("stateOf(1)", x.stateOf(1), DELIVERED);
    }

    private static void lostByMarks() {
        part("a letter is LOST if it was at the next relay already");
        // By all four relays and to none of them twice: not lost.
        StampRelay through = new StampRelay();
        through.setRoute(0, 3, 1);
        through.setRoute(1, 3, 2);
        through.send(0, 3, 10);
        due("pass(4)", through.pass(4), 1);
        due("stateOf(0)", through.stateOf(0), DELIVERED);
        // Back to the first one, from the second and from the third, and back to the one before.
        dueLost(2, 1, 0, NONE, 1, 3);
        dueLost(3, 1, 2, 0, 2, 7);
        dueLost(3, 1, 2, 1, 2, 7);
        // A route that is mended in time saves it; what another letter has seen is nothing to it.
        StampRelay saved = new StampRelay();
        saved.setRoute(0, 2, 1);
        saved.setRoute(1, 2, 0);
        saved.send(0, 2, 10);
        saved.pass(1);
        saved.send(1, 2, 20);
        saved.setRoute(1, 2, 3);
        due("pass(3)", saved.pass(3), 2);
        due("marksOn(0)", saved.marksOn(0), 15);
        due("marksOn(1)", saved.marksOn(1), 14);
    }

    /** A letter of person 0 goes to 1, from there to afterOne, and from 2 to afterTwo. */
    private static void dueLost(int target, int afterZero, int afterOne, int afterTwo, int lies, int marks) {
        StampRelay x = new StampRelay();
        x.setRoute(0, target, afterZero);
        x.setRoute(1, target, afterOne);
        if (afterTwo != NONE) {
            x.setRoute(2, target, afterTwo);
        }
        x.send(0, target, 13);
        due("pass", x.pass(lies), 0);
        dueLetter(x, 0, UNDER_WAY, lies, marks);
        due("pass(1)", x.pass(1), 0);
        dueLetter(x, 0, LOST, NONE, marks);
        for (int relay = 0; relay < 4; relay++) {
            due("pool(" + relay + ")", x.pool(relay), relay == lies ? 13 : 0);
            due("queue(" + relay + ")", x.queue(relay), 0);
        }
        due("pass(50)", x.pass(50), 0);
        due("stateOf(0)", x.stateOf(0), LOST);
        due("coins(0)", x.coins(0), 87);
    }

    private static void lostIntoPool() {
        part("the stake of a LOST letter goes to the pool of the relay at which it lies, 0 and 20 too");
        StampRelay x = withFourAnswers();
        x.setRoute(0, 3, 2);
        x.setRoute(2, 3, 0);
        x.send(0, 3, 0);
        x.send(0, 3, 20);
        due("pass(1)", x.pass(1), 0);
        duePools(x, 0, 0, 0, 0);
        due("pass(1)", x.pass(1), 0);
        due("stateOf(4)", x.stateOf(4), LOST);
        due("stateOf(5)", x.stateOf(5), LOST);
        duePools(x, 0, 0, 20, 0);
        dueAllCoins(x, 80, 100, 100, 100, 100, 100, 100, 100);
    }

    private static void expiredAfterTwenty() {
        part("letters that were DELIVERED 20 ticks ago are EXPIRED, and their stakes go back");
        StampRelay x = new StampRelay();
        x.send(1, 5, 20);
        x.send(1, 6, 13);
        due("pass(2)", x.pass(2), 2);
        due("pass(18)", x.pass(18), 0);
        due("stateOf(0) after 19", x.stateOf(0), DELIVERED);
        due("coins(1)", x.coins(1), 67);
        due("pass(1)", x.pass(1), 0);
        due("stateOf(0) after 20", x.stateOf(0), EXPIRED);
        due("stateOf(1) after 19", x.stateOf(1), DELIVERED);
        due("coins(1)", x.coins(1), 87);
        due("pass(1)", x.pass(1), 0);
        due("stateOf(1) after 20", x.stateOf(1), EXPIRED);
        dueAllCoins(x, 100, 100, 100, 100, 100, 100, 100, 100);
        duePools(x, 0, 0, 0, 0);
        // It happens once.
        due("pass(50)", x.pass(50), 0);
        due("coins(1)", x.coins(1), 100);

        // After 19 ticks it can still be answered or marked, and then stays so.
        for (boolean good : new boolean[] {true, false}) {
            StampRelay y = new StampRelay();
            y.send(1, 5, 20);
            due("pass(20)", y.pass(20), 1);
            due("its opinion", good ? y.answer(0) : y.mark(0), good ? 10 : 0);
            y.pass(50);
            due("stateOf(0)", y.stateOf(0), good ? ANSWERED : MARKED);
            due("coins(1)", y.coins(1), good ? 100 : 80);
        }
        StampRelay late = new StampRelay();
        late.send(1, 5, 20);
        due("pass(21)", late.pass(21), 1);
        dueThrow("answer(0)", STATE, () -> late.answer(0));
        dueThrow("mark(0)", STATE, () -> late.mark(0));

        // A letter that waits for long is not EXPIRED, nor is it in the tick in which it is DELIVERED.
        StampRelay waiting = withManyBefore();
        due("pass(29)", waiting.pass(29), 58);
        due("stateOf(59)", waiting.stateOf(59), UNDER_WAY);
        due("pass(1)", waiting.pass(1), 1);
        due("stateOf(59)", waiting.stateOf(59), DELIVERED);
        due("pass(19)", waiting.pass(19), 0);
        due("stateOf(59)", waiting.stateOf(59), DELIVERED);
        due("pass(1)", waiting.pass(1), 0);
        due("stateOf(59)", waiting.stateOf(59), EXPIRED);
    }

    /** Letter 0 is ANSWERED, so that letters 1 to 59 can lie in the queue of relay 0 for nothing. */
    private static StampRelay withManyBefore() {
        StampRelay x = new StampRelay();
        x.send(0, 4, 10);
        x.pass(1);
        x.answer(0);
        for (int letter = 1; letter < 60; letter++) {
            due("send(0, 4, 0)", x.send(0, 4, 0), letter);
        }
        return x;
    }

    private static void orderAtBeginOfTick() {
        part("the order is by reputations as they are at the beginning of the tick");
        StampRelay x = new StampRelay();
        x.send(0, 4, 10);
        x.send(4, 0, 10);
        x.pass(1);
        x.send(0, 1, 10);
        x.send(0, 1, 10);
        x.send(4, 1, 12);
        dueQueue(x, 0, 4, 2, 3);
        // What is told between two ticks counts in the next one, for letters sent before too.
        x.answer(0);
        dueQueue(x, 0, 2, 3, 4);
        x.pass(1);
        dueQueue(x, 0, 4);
        x.send(0, 1, 5);
        dueQueue(x, 0, 5, 4);
        x.answer(1);
        dueQueue(x, 0, 4, 5);
    }

    // ---- answers and marks

    private static void answerGivesBack() {
        part("the stake of an ANSWERED letter goes back to the sender, 0 and 20 too");
        StampRelay x = withFourAnswers();
        x.send(0, 4, 20);
        x.send(0, 4, 0);
        x.pass(1);
        due("coins(0)", x.coins(0), 80);
        due("answer(4)", x.answer(4), 50);
        due("coins(0)", x.coins(0), 100);
        due("answer(5)", x.answer(5), 60);
        due("coins(0)", x.coins(0), 100);
        due("escrow()", x.escrow(), 0);
        duePools(x, 0, 0, 0, 0);
    }

    private static void markIntoPool() {
        part("the stake of a MARKED letter goes to the pool of the reader's relay");
        for (int reader = 1; reader < 8; reader++) {
            StampRelay x = new StampRelay();
            x.send(0, reader, 20);
            due("pass(2)", x.pass(2), 1);
            due("mark(0)", x.mark(0), 0);
            for (int relay = 0; relay < 4; relay++) {
                due("pool(" + relay + ")", x.pool(relay), relay == reader % 4 ? 20 : 0);
            }
            dueAllCoins(x, 80, 100, 100, 100, 100, 100, 100, 100);
        }
    }

    private static void threeOthers() {
        part("a mark is false if letters of the same sender are ANSWERED by 3 other people or more");
        dueMark(0);
        dueMark(0, 1, 2);
        dueMark(1, 1, 2, 3);
        dueMark(1, 1, 2, 3, 4);
        dueMark(1, 1, 2, 3, 4, 6, 7);
        // However many letters each of them answered.
        dueMark(0, 1, 1, 1, 2, 2);
        dueMark(1, 1, 1, 2, 2, 7);
        // The reader who marks is none of the others.
        dueMark(0, 5, 1, 2);
        dueMark(0, 5, 5, 5, 1, 2, 2);
        dueMark(1, 5, 1, 2, 3);
        dueMark(1, 1, 5, 7, 6);
    }

    /** Each of the readers answers a letter of person 0; then 5 marks one with a stake of 20. */
    private static void dueMark(int falseMarks, int... readers) {
        StampRelay x = new StampRelay();
        for (int reader : readers) {
            int letter = x.send(0, reader, x.leastStake(0));
            x.pass(2);
            x.answer(letter);
        }
        int letter = x.send(0, 5, 20);
        x.pass(2);
        due("mark after " + readers.length + " answers", x.mark(letter), falseMarks * 20);
        due("falseMarks(5)", x.falseMarks(5), falseMarks);
        due("coins(5)", x.coins(5), 100 - falseMarks * 20);
        due("coins(0)", x.coins(0), 80 + falseMarks * 20);
        due("pool(1)", x.pool(1), 20);
        due("stateOf", x.stateOf(letter), MARKED);
    }

    private static void threeOthersAtThatTime() {
        part("a mark is false by what is ANSWERED at that time, of the same sender");
        // The third answer comes after the mark: not false, neither then nor later.
        StampRelay late = new StampRelay();
        for (int reader = 1; reader <= 4; reader++) {
            late.send(0, reader, 10);
        }
        late.pass(3);
        late.answer(0);
        late.answer(1);
        due("mark(3) before the third answer", late.mark(3), 0);
        due("answer(2)", late.answer(2), 15);
        due("falseMarks(4)", late.falseMarks(4), 0);
        dueReputation(late, 0, 15);

        // A third letter that is MARKED or EXPIRED, or a letter of another sender, is no third answer.
        StampRelay mixed = new StampRelay();
        for (int reader = 1; reader <= 4; reader++) {
            mixed.send(0, reader, 10);
        }
        mixed.send(5, 3, 10);
        mixed.send(0, 6, 10);
        mixed.pass(4);
        mixed.answer(0);
        mixed.answer(1);
        mixed.answer(4);
        due("mark(2)", mixed.mark(2), 0);
        due("mark(3)", mixed.mark(3), 0);
        mixed.pass(20);
        due("stateOf(5)", mixed.stateOf(5), EXPIRED);
        due("leastStake(0)", mixed.leastStake(0), 20);
        int last = mixed.send(0, 7, 20);
        mixed.pass(2);
        due("mark", mixed.mark(last), 0);
        due("falseMarks(7)", mixed.falseMarks(7), 0);

        // What is false stays so, though marks that are not false follow.
        StampRelay x = withFourAnswers();
        x.send(0, 5, 20);
        x.send(1, 5, 10);
        x.pass(2);
        due("mark(4)", x.mark(4), 20);
        due("mark(5)", x.mark(5), 0);
        due("falseMarks(5)", x.falseMarks(5), 1);
        dueReputation(x, 0, 40);
        dueReputation(x, 1, -12);
    }

    private static void allCoinsIfFewer() {
        part("the reader pays the stake of the letter, or all its coins, if it has fewer");
        dueFalseMark(100, 20, 20);
        dueFalseMark(7, 6, 6);
        dueFalseMark(7, 7, 7);
        dueFalseMark(7, 8, 7);
        dueFalseMark(7, 20, 7);
        dueFalseMark(7, 0, 0);
        dueFalseMark(0, 1, 0);
        dueFalseMark(0, 20, 0);
        dueFalseMark(0, 0, 0);
    }

    /** Person 5, with so many coins, marks falsely a letter of 0 with that stake. */
    private static void dueFalseMark(int coins, int stake, int pays) {
        StampRelay x = withFourAnswers();
        int letters = 4;
        for (int left = 100 - coins; left > 0; left -= 20) {
            due("send(5, 1, ..)", x.send(5, 1, Math.min(20, left)), letters++);
        }
        due("coins(5)", x.coins(5), coins);
        due("send(0, 5, ..)", x.send(0, 5, stake), letters);
        x.pass(2);
        int letter = letters;
        due("mark with " + coins + " coins at a stake of " + stake, x.mark(letter), pays);
        due("coins(5)", x.coins(5), coins - pays);
        due("coins(0)", x.coins(0), 100 - stake + pays);
        duePools(x, 0, stake, 0, 0);
        due("falseMarks(5)", x.falseMarks(5), 1);
        dueReputation(x, 0, 40);
        due("escrow()", x.escrow(), 100 - coins);
    }

    // ---- exceptions

    private static void firstOfSeveralExceptions() {
        part("if several exceptions apply, the one that is listed first is thrown; nothing changes");
        first("setRoute(4, 4, 4)", INDEX, x -> x.setRoute(4, 4, 4));
        first("setRoute(0, 0, -1)", INDEX, x -> x.setRoute(0, 0, -1));
        first("setRoute(3, 4, 3)", INDEX, x -> x.setRoute(3, 4, 3));
        first("send(8, 8, 21)", INDEX, x -> x.send(8, 8, 21));
        first("send(-1, 0, -1)", INDEX, x -> x.send(-1, 0, -1));
        first("send(0, 8, 21)", INDEX, x -> x.send(0, 8, 21));
        first("send(0, -1, 0)", INDEX, x -> x.send(0, -1, 0));
        first("send(0, 0, 0)", ARGUMENT, x -> x.send(0, 0, 0));
        first("send(5, 4, -1)", ARGUMENT, x -> x.send(5, 4, -1));
        first("send(5, 4, 21)", ARGUMENT, x -> x.send(5, 4, 21));
        first("answer(6)", INDEX, x -> x.answer(6));
        first("mark(6)", INDEX, x -> x.mark(6));
        refused("send(0, 8, 10) at 60 letters", INDEX, Checks::withSixtyLetters, x -> x.send(0, 8, 10));
        refused("send(0, 0, 10) at 60 letters", ARGUMENT, Checks::withSixtyLetters, x -> x.send(0, 0, 10));
        refused("send(0, 4, 21) at 60 letters", ARGUMENT, Checks::withSixtyLetters, x -> x.send(0, 4, 21));
        refused("send(0, 4, -1) at 60 letters", ARGUMENT, Checks::withSixtyLetters, x -> x.send(0, 4, -1));
    }

    private static void first(String call, Class<?> want, ToIntFunction<StampRelay> run) {
        refused(call, want, Checks::withEachState, run);
    }

    private static void constants() {
        part("the constants");
        int[] got = {StampRelay.NONE, StampRelay.UNDER_WAY, StampRelay.DELIVERED, StampRelay.ANSWERED,
            StampRelay.MARKED, StampRelay.LOST, StampRelay.EXPIRED};
        for (int i = 0; i < got.length; i++) {
            due("constant " + i, got[i], i - 1);
        }
    }
}
