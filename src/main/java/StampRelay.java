/**
 * A relay for letters with postage in escrow. The document ../shared/DOC.md says what each call does.
 *
 * Letters, people and relays are numbers, and what is known of them stands in rows that are made once,
 * so that no call makes an object. A number that was read from a row is looked at again before it is
 * used as an index, though the rows hold good numbers alone: so each method shows by itself that it
 * cannot make the machine throw.
 */
public final class StampRelay {
    public static final int NONE = -1;
    public static final int UNDER_WAY = 0, DELIVERED = 1, ANSWERED = 2, MARKED = 3, LOST = 4, EXPIRED = 5;

    private static final int PEOPLE = 8;
    private static final int RELAYS = 4;
    private static final int MOST_LETTERS = 60;
    private static final int COINS_AT_FIRST = 100;
    private static final int MOST_STAKE = 20;
    private static final int MIDDLE_LEAST_STAKE = 10;
    private static final int MOST_TICKS = 50;
    private static final int LAST_TIME = 100000;
    private static final int MOVES_A_TICK = 2;
    private static final int TICKS_TO_EXPIRE = 20;
    private static final int WEIGHT_AT_FIRST = 5;
    private static final int LEAST_WEIGHT = 1;
    private static final int GAIN_OF_ANSWER = 2;
    private static final int COST_OF_MARK = 3;
    private static final int ANSWERERS_AGAINST_MARK = 3;

    private final int[] senders = new int[MOST_LETTERS];
    private final int[] readers = new int[MOST_LETTERS];
    private final int[] stakes = new int[MOST_LETTERS];
    private final int[] states = new int[MOST_LETTERS];
    private final int[] places = new int[MOST_LETTERS];
    private final int[] relaysSeen = new int[MOST_LETTERS];
    private final int[] deliveryTimes = new int[MOST_LETTERS];
    private final boolean[] falselyMarked = new boolean[MOST_LETTERS];
    private final int[] purses = new int[PEOPLE];
    private final int[] falseMarkCounts = new int[PEOPLE];
    private final int[] pools = new int[RELAYS];
    private final int[] routes = new int[RELAYS * RELAYS];
    private int letterCount = 0;
    private int now = 0;

    // Working rows: each use fills them first, nothing in them lasts from call to call.
    private final int[] waitingAt = new int[MOST_LETTERS];
    private final int[] reputations = new int[PEOPLE];

    public StampRelay() {
        for (int person = 0; person < PEOPLE; person++) {
            purses[person] = COINS_AT_FIRST;
        }
        for (int relay = 0; relay < RELAYS; relay++) {
            for (int target = 0; target < RELAYS; target++) {
                routes[relay * RELAYS + target] = target;
            }
        }
    }

    // ---- routes

    public int setRoute(int relay, int target, int next) throws IndexOutOfBoundsException, IllegalArgumentException {
        if (!isRelay(relay) || !isRelay(target) || !isRelay(next)) {
            throw new IndexOutOfBoundsException("there is no such relay");
        }
        if (target == relay || next == relay) {
            throw new IllegalArgumentException("a route leads to another relay, by another relay");
        }
        int route = relay * RELAYS + target;
        int before = routes[route];
        routes[route] = next;
        return before;
    }

    public int steps(int relay, int target) throws IndexOutOfBoundsException {
        if (!isRelay(relay) || !isRelay(target)) {
            throw new IndexOutOfBoundsException("there is no such relay");
        }
        int at = relay;
        for (int gone = 0; gone < RELAYS; gone++) {
            if (at == target) {
                return gone;
            }
            at = nextRelay(at, target);
        }
        // Who has gone as many steps as there are relays was at one of them twice, and would go round for ever.
        return NONE;
    }

    // ---- letters

    public int send(int sender, int reader, int stake)
            throws IndexOutOfBoundsException, IllegalArgumentException, IllegalStateException {
        if (!isPerson(sender) || !isPerson(reader)) {
            throw new IndexOutOfBoundsException("there is no such person");
        }
        if (sender == reader || stake < 0 || stake > MOST_STAKE) {
            throw new IllegalArgumentException("the reader is another person, a stake is 0 to 20");
        }
        if (stake < lowestStakeOf(sender) || purses[sender] < stake || letterCount >= MOST_LETTERS) {
            throw new IllegalStateException("the stake is too low, the coins are too few, or there are 60 letters");
        }
        int letter = letterCount;
        letterCount++;
        senders[letter] = sender;
        readers[letter] = reader;
        stakes[letter] = stake;
        states[letter] = UNDER_WAY;
        purses[sender] -= stake;
        layAt(letter, homeOf(sender));
        return letter;
    }

    public int pass(int ticks) throws IllegalArgumentException, IllegalStateException {
        if (ticks < 1 || ticks > MOST_TICKS) {
            throw new IllegalArgumentException("ticks are 1 to 50");
        }
        if (now > LAST_TIME - ticks) {
            throw new IllegalStateException("the time would be above 100000");
        }
        int delivered = 0;
        for (int tick = 0; tick < ticks; tick++) {
            delivered += passOneTick();
        }
        return delivered;
    }

    public int answer(int letter) throws IndexOutOfBoundsException, IllegalStateException {
        if (!isLetter(letter)) {
            throw new IndexOutOfBoundsException("there is no such letter");
        }
        if (states[letter] != DELIVERED) {
            throw new IllegalStateException("the letter is not DELIVERED");
        }
        states[letter] = ANSWERED;
        giveStakeBack(letter);
        return reputationOf(senders[letter]);
    }

    public int mark(int letter) throws IndexOutOfBoundsException, IllegalStateException {
        if (!isLetter(letter)) {
            throw new IndexOutOfBoundsException("there is no such letter");
        }
        if (states[letter] != DELIVERED) {
            throw new IllegalStateException("the letter is not DELIVERED");
        }
        states[letter] = MARKED;
        putStakeIntoPool(letter, homeOf(readers[letter]));
        if (othersWhoAnswered(senders[letter], readers[letter]) < ANSWERERS_AGAINST_MARK) {
            return 0;
        }
        falselyMarked[letter] = true;
        return payForFalseMark(readers[letter], senders[letter], stakes[letter]);
    }

    public int letters() {
        return letterCount;
    }

    public int time() {
        return now;
    }

    public int stateOf(int letter) throws IndexOutOfBoundsException {
        if (!isLetter(letter)) {
            throw new IndexOutOfBoundsException("there is no such letter");
        }
        return states[letter];
    }

    public int relayOf(int letter) throws IndexOutOfBoundsException {
        if (!isLetter(letter)) {
            throw new IndexOutOfBoundsException("there is no such letter");
        }
        return places[letter];
    }

    public int marksOn(int letter) throws IndexOutOfBoundsException {
        if (!isLetter(letter)) {
            throw new IndexOutOfBoundsException("there is no such letter");
        }
        return relaysSeen[letter];
    }

    public int queue(int relay) throws IndexOutOfBoundsException {
        if (!isRelay(relay)) {
            throw new IndexOutOfBoundsException("there is no such relay");
        }
        return lengthOfQueue(relay);
    }

    public int queueAt(int relay, int place) throws IndexOutOfBoundsException {
        if (!isRelay(relay) || place < 0 || place >= lengthOfQueue(relay)) {
            throw new IndexOutOfBoundsException("there is no such relay or no such place in its queue");
        }
        beginLookingAtQueues();
        for (int taken = 0; taken < place; taken++) {
            takeFirstWaiting(relay);
        }
        return takeFirstWaiting(relay);
    }

    // ---- coins and reputations

    public int coins(int person) throws IndexOutOfBoundsException {
        if (!isPerson(person)) {
            throw new IndexOutOfBoundsException("there is no such person");
        }
        return purses[person];
    }

    public int pool(int relay) throws IndexOutOfBoundsException {
        if (!isRelay(relay)) {
            throw new IndexOutOfBoundsException("there is no such relay");
        }
        return pools[relay];
    }

    public int escrow() {
        int held = 0;
        for (int letter = 0; letter < letterCount; letter++) {
            if (states[letter] == UNDER_WAY || states[letter] == DELIVERED) {
                held += stakes[letter];
            }
        }
        return held;
    }

    public int reputation(int person) throws IndexOutOfBoundsException {
        if (!isPerson(person)) {
            throw new IndexOutOfBoundsException("there is no such person");
        }
        return reputationOf(person);
    }

    public int reputationAtOnce(int person) throws IndexOutOfBoundsException {
        if (!isPerson(person)) {
            throw new IndexOutOfBoundsException("there is no such person");
        }
        findAllReputations();
        return reputations[person];
    }

    public int leastStake(int person) throws IndexOutOfBoundsException {
        if (!isPerson(person)) {
            throw new IndexOutOfBoundsException("there is no such person");
        }
        return lowestStakeOf(person);
    }

    public int falseMarks(int person) throws IndexOutOfBoundsException {
        if (!isPerson(person)) {
            throw new IndexOutOfBoundsException("there is no such person");
        }
        return falseMarkCounts[person];
    }

    // ---- what numbers stand for

    private static boolean isPerson(int number) {
        return number >= 0 && number < PEOPLE;
    }

    private static boolean isRelay(int number) {
        return number >= 0 && number < RELAYS;
    }

    private boolean isLetter(int number) {
        return number >= 0 && number < letterCount;
    }

    private static int homeOf(int person) {
        return person % RELAYS;
    }

    private static int markOf(int relay) {
        return 1 << relay;
    }

    private int nextRelay(int relay, int target) {
        if (!isRelay(relay) || !isRelay(target)) {
            return target;
        }
        return routes[relay * RELAYS + target];
    }

    // ---- a tick

    /** Returns how many letters are delivered in it. */
    private int passOneTick() {
        now++;
        beginLookingAtQueues();
        int delivered = 0;
        for (int relay = 0; relay < RELAYS; relay++) {
            for (int moves = 0; moves < MOVES_A_TICK; moves++) {
                delivered += moveOn(takeFirstWaiting(relay), relay);
            }
        }
        expireOldLetters();
        return delivered;
    }

    /** Notes where letters lie now, so that one that moves is not looked at again at the relay it comes to. */
    private void beginLookingAtQueues() {
        for (int letter = 0; letter < letterCount; letter++) {
            waitingAt[letter] = places[letter];
        }
        findAllReputations();
    }

    /** Returns the first letter that still waits at the relay, which waits no more, or NONE. */
    private int takeFirstWaiting(int relay) {
        int first = NONE;
        for (int letter = 0; letter < letterCount; letter++) {
            if (waitingAt[letter] == relay && (first == NONE || rankOf(letter) > rankOf(first))) {
                first = letter;
            }
        }
        if (isLetter(first)) {
            waitingAt[first] = NONE;
        }
        return first;
    }

    private int rankOf(int letter) {
        if (!isLetter(letter) || !isPerson(senders[letter])) {
            return 0;
        }
        return stakes[letter] + reputations[senders[letter]];
    }

    /** Moves a letter on from its relay, if there is one; returns 1 if it is delivered by that, else 0. */
    private int moveOn(int letter, int relay) {
        if (!isLetter(letter)) {
            return 0;
        }
        int home = homeOf(readers[letter]);
        if (relay == home) {
            leaveQueue(letter, DELIVERED);
            deliveryTimes[letter] = now;
            return 1;
        }
        int next = nextRelay(relay, home);
        if ((relaysSeen[letter] & markOf(next)) != 0) {
            leaveQueue(letter, LOST);
            putStakeIntoPool(letter, relay);
        } else {
            layAt(letter, next);
        }
        return 0;
    }

    private void layAt(int letter, int relay) {
        if (isLetter(letter)) {
            places[letter] = relay;
            relaysSeen[letter] |= markOf(relay);
        }
    }

    private void leaveQueue(int letter, int state) {
        if (isLetter(letter)) {
            places[letter] = NONE;
            states[letter] = state;
        }
    }

    private void expireOldLetters() {
        for (int letter = 0; letter < letterCount; letter++) {
            if (states[letter] == DELIVERED && now - deliveryTimes[letter] >= TICKS_TO_EXPIRE) {
                states[letter] = EXPIRED;
                giveStakeBack(letter);
            }
        }
    }

    private int lengthOfQueue(int relay) {
        int length = 0;
        for (int letter = 0; letter < letterCount; letter++) {
            if (places[letter] == relay) {
                length++;
            }
        }
        return length;
    }

    // ---- where stakes go

    private void giveStakeBack(int letter) {
        if (isLetter(letter) && isPerson(senders[letter])) {
            purses[senders[letter]] += stakes[letter];
        }
    }

    private void putStakeIntoPool(int letter, int relay) {
        if (isLetter(letter) && isRelay(relay)) {
            pools[relay] += stakes[letter];
        }
    }

    /** Returns what the reader pays. */
    private int payForFalseMark(int reader, int sender, int stake) {
        if (!isPerson(reader) || !isPerson(sender)) {
            return 0;
        }
        int price = Math.min(stake, purses[reader]);
        falseMarkCounts[reader]++;
        purses[reader] -= price;
        purses[sender] += price;
        return price;
    }

    // ---- opinions

    /** Returns how many people besides the reader have answered letters of the sender. */
    private int othersWhoAnswered(int sender, int reader) {
        int people = 0;
        for (int letter = 0; letter < letterCount; letter++) {
            if (states[letter] == ANSWERED && senders[letter] == sender && readers[letter] != reader) {
                people |= 1 << readers[letter];
            }
        }
        return Integer.bitCount(people);
    }

    /** Returns what the letter adds to the reputation of its sender. */
    private int opinionIn(int letter) {
        if (!isLetter(letter)) {
            return 0;
        }
        if (states[letter] == ANSWERED) {
            return GAIN_OF_ANSWER * weightOf(readers[letter]);
        }
        if (states[letter] == MARKED && !falselyMarked[letter]) {
            return -COST_OF_MARK * weightOf(readers[letter]);
        }
        return 0;
    }

    private int weightOf(int reader) {
        if (!isPerson(reader)) {
            return LEAST_WEIGHT;
        }
        return Math.max(WEIGHT_AT_FIRST - falseMarkCounts[reader], LEAST_WEIGHT);
    }

    private int reputationOf(int person) {
        int sum = 0;
        for (int letter = 0; letter < letterCount; letter++) {
            if (senders[letter] == person) {
                sum += opinionIn(letter);
            }
        }
        return sum;
    }

    private void findAllReputations() {
        for (int person = 0; person < PEOPLE; person++) {
            reputations[person] = 0;
        }
        for (int letter = 0; letter < letterCount; letter++) {
            if (isPerson(senders[letter])) {
                reputations[senders[letter]] += opinionIn(letter);
            }
        }
    }

    private int lowestStakeOf(int person) {
        return Math.max(0, Math.min(MOST_STAKE, MIDDLE_LEAST_STAKE - reputationOf(person)));
    }
}
