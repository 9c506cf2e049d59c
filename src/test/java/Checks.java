import java.util.ArrayList;
import java.util.List;
import java.util.function.IntSupplier;
import java.util.function.Supplier;
import java.util.function.ToIntFunction;

/**
 * What the tests by hand share. They extend it, so that its checks have plain names there; it is no test
 * itself.
 */
abstract class Checks {
    static final int NONE = StampRelay.NONE;
    static final int UNDER_WAY = StampRelay.UNDER_WAY;
    static final int DELIVERED = StampRelay.DELIVERED;
    static final int ANSWERED = StampRelay.ANSWERED;
    static final int MARKED = StampRelay.MARKED;
    static final int LOST = StampRelay.LOST;
    static final int EXPIRED = StampRelay.EXPIRED;

    static final Class<?> INDEX = IndexOutOfBoundsException.class;
    static final Class<?> ARGUMENT = IllegalArgumentException.class;
    static final Class<?> STATE = IllegalStateException.class;

    static final int LEAST = Integer.MIN_VALUE;
    static final int GREATEST = Integer.MAX_VALUE;
    static final int[] NO_PEOPLE = {-1, 8, LEAST, GREATEST};
    static final int[] NO_RELAYS = {-1, 4, LEAST, GREATEST};

    private static int wrong = 0;
    private static String part = "";

    // ---- how answers are checked

    /** Names the sentence or the part of the document that the next checks belong to. */
    static void part(String name) {
        part = name;
    }

    static void due(String call, int got, int want) {
        if (got != want) {
            tell(call + " answered " + got + ", due is " + want);
        }
    }

    /** The exception must be of the very class: those of the machine are of classes below it. */
    static void dueThrow(String call, Class<?> want, IntSupplier run) {
        Class<?> got = null;
        int answer = 0;
        try {
            answer = run.getAsInt();
        } catch (RuntimeException e) {
            got = e.getClass();
        }
        if (got != want) {
            tell(call + (got == null ? " answered " + answer : " threw " + got) + ", due is " + want);
        }
    }

    /** The call throws that, and its object then answers as one does on which it was not made. */
    static void refused(String call, Class<?> want, Supplier<StampRelay> made, ToIntFunction<StampRelay> run) {
        StampRelay asked = made.get();
        StampRelay spared = made.get();
        dueThrow(call, want, () -> run.applyAsInt(asked));
        List<Integer> after = allOf(asked);
        List<Integer> unchanged = allOf(spared);
        if (!after.equals(unchanged)) {
            tell(call + " has changed something: " + after + ", due is " + unchanged);
        }
    }

    static void finish() {
        System.out.println(wrong == 0 ? "all answers are as due" : wrong + " answers are not as due");
        if (wrong != 0) {
            System.exit(1);
        }
    }

    private static void tell(String what) {
        wrong++;
        System.out.println(part + ": " + what);
    }

    // ---- what is to be seen of an object

    /**
     * All that can be seen of an object, now and later. It takes some 420 calls where there are 60 letters, so
     * that there is room for those before it: the document promises nothing after the 512th.
     */
    private static List<Integer> allOf(StampRelay x) {
        List<Integer> seen = new ArrayList<>();
        int letters = x.letters();
        seen.add(letters);
        seen.add(x.time());
        seen.add(x.escrow());
        seeLetters(x, letters, seen);
        seeRelays(x, seen);
        seePeople(x, seen);
        // Hidden things, as the tick in which a letter was delivered, show when time passes.
        for (int tick = 0; tick < 21; tick++) {
            seen.add(x.pass(1));
            seen.add(x.escrow());
        }
        for (int letter = 0; letter < letters; letter++) {
            seen.add(x.stateOf(letter));
        }
        for (int relay = 0; relay < 4; relay++) {
            for (int target = 0; target < 4; target++) {
                seen.add(relay == target ? 0 : x.setRoute(relay, target, target));
            }
        }
        return seen;
    }

    private static void seeLetters(StampRelay x, int letters, List<Integer> seen) {
        for (int letter = 0; letter < letters; letter++) {
            seen.add(x.stateOf(letter));
            seen.add(x.relayOf(letter));
            seen.add(x.marksOn(letter));
        }
    }

    private static void seeRelays(StampRelay x, List<Integer> seen) {
        for (int relay = 0; relay < 4; relay++) {
            seen.add(x.pool(relay));
            int length = x.queue(relay);
            seen.add(length);
            for (int place = 0; place < length; place++) {
                seen.add(x.queueAt(relay, place));
            }
            for (int target = 0; target < 4; target++) {
                seen.add(x.steps(relay, target));
            }
        }
    }

    private static void seePeople(StampRelay x, List<Integer> seen) {
        for (int person = 0; person < 8; person++) {
            seen.add(x.coins(person));
            seen.add(x.reputation(person));
            seen.add(x.reputationAtOnce(person));
            seen.add(x.leastStake(person));
            seen.add(x.falseMarks(person));
        }
    }

    static void dueLetter(StampRelay x, int letter, int state, int relay, int marks) {
        due("stateOf(" + letter + ")", x.stateOf(letter), state);
        due("relayOf(" + letter + ")", x.relayOf(letter), relay);
        due("marksOn(" + letter + ")", x.marksOn(letter), marks);
    }

    static void dueQueue(StampRelay x, int relay, int... letters) {
        due("queue(" + relay + ")", x.queue(relay), letters.length);
        for (int place = 0; place < Math.min(letters.length, x.queue(relay)); place++) {
            due("queueAt(" + relay + ", " + place + ")", x.queueAt(relay, place), letters[place]);
        }
        dueThrow("queueAt(" + relay + ", " + letters.length + ")", INDEX, () -> x.queueAt(relay, letters.length));
    }

    static void dueReputation(StampRelay x, int person, int want) {
        due("reputation(" + person + ")", x.reputation(person), want);
        due("reputationAtOnce(" + person + ")", x.reputationAtOnce(person), want);
    }

    static void duePools(StampRelay x, int... want) {
        for (int relay = 0; relay < 4; relay++) {
            due("pool(" + relay + ")", x.pool(relay), want[relay]);
        }
    }

    static void dueAllCoins(StampRelay x, int... want) {
        int all = 0;
        for (int person = 0; person < 8; person++) {
            due("coins(" + person + ")", x.coins(person), want[person]);
            all += x.coins(person);
        }
        for (int relay = 0; relay < 4; relay++) {
            all += x.pool(relay);
        }
        due("all coins, pools and the escrow", all + x.escrow(), 800);
    }

    // ---- objects to begin with

    /** Person 0 has written to 4, 1, 2 and 3, letters 0 to 3, and all have answered: it has all its coins, and 40. */
    static StampRelay withFourAnswers() {
        StampRelay x = new StampRelay();
        due("send(0, 4, 10)", x.send(0, 4, 10), 0);
        due("pass(1)", x.pass(1), 1);
        due("answer(0)", x.answer(0), 10);
        due("send(0, 1, 0)", x.send(0, 1, 0), 1);
        due("send(0, 2, 0)", x.send(0, 2, 0), 2);
        due("send(0, 3, 0)", x.send(0, 3, 0), 3);
        due("pass(3)", x.pass(3), 3);
        due("answer(1)", x.answer(1), 20);
        due("answer(2)", x.answer(2), 30);
        due("answer(3)", x.answer(3), 40);
        return x;
    }

    /**
     * Letter 0 is ANSWERED, 1 MARKED, 2 LOST, 3 EXPIRED, 4 DELIVERED, 5 UNDER_WAY, with stakes of 10 to 15; the
     * senders are 4, 5, 0, 3, 6 and 7, the readers 0, 1, 2, 7, 2 and 3. The time is 22.
     */
    static StampRelay withEachState() {
        StampRelay x = new StampRelay();
        x.setRoute(0, 2, 1);
        x.setRoute(1, 2, 0);
        x.send(4, 0, 10);
        x.send(5, 1, 11);
        x.send(0, 2, 12);
        x.send(3, 7, 13);
        x.pass(2);
        x.answer(0);
        x.mark(1);
        x.pass(19);
        x.send(6, 2, 14);
        x.pass(1);
        x.send(7, 3, 15);
        return x;
    }

    /** Sixty letters with stakes of 10, from each person to the other one of its relay, none moved yet. */
    static StampRelay withSixtyLetters() {
        StampRelay x = new StampRelay();
        for (int letter = 0; letter < 60; letter++) {
            due("send", x.send(letter % 8, (letter + 4) % 8, 10), letter);
        }
        return x;
    }
}
