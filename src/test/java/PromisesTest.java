/** Goes through the promises 1 to 21; each answer that is due was found by hand from the document. */
public final class PromisesTest extends Checks {
    public static void main(String[] args) {
        newObject();
        setRoute();
        setRouteUnderWay();
        steps();
        send();
        sendWrongly();
        sendWithFewCoins();
        sendSixty();
        passOnOneRelay();
        passByOthers();
        passTwoOfEachQueue();
        passInOrderOfRank();
        passIntoLoops();
        passUntilExpired();
        passWrongly();
        answer();
        mark();
        markFalsely();
        markFalselyWithFewCoins();
        markFalselyManyTimes();
        whatALetterTells();
        queue();
        queueAtByReputation();
        coinsPoolsAndEscrow();
        reputationOfSeveral();
        leastStake();
        exampleOfReadme();
        finish();
    }

    // ---- promise 1

    private static void newObject() {
        part("a new object");
        StampRelay x = new StampRelay();
        due("time()", x.time(), 0);
        due("letters()", x.letters(), 0);
        due("escrow()", x.escrow(), 0);
        for (int person = 0; person < 8; person++) {
            due("coins", x.coins(person), 100);
            dueReputation(x, person, 0);
            due("leastStake", x.leastStake(person), 10);
            due("falseMarks", x.falseMarks(person), 0);
        }
        for (int relay = 0; relay < 4; relay++) {
            due("pool", x.pool(relay), 0);
            dueQueue(x, relay);
            for (int target = 0; target < 4; target++) {
                due("steps", x.steps(relay, target), relay == target ? 0 : 1);
                if (relay != target) {
                    due("setRoute", x.setRoute(relay, target, target), target);
                }
            }
        }
        dueThrow("stateOf(0)", INDEX, () -> x.stateOf(0));

        // Two objects know nothing of each other.
        StampRelay y = new StampRelay();
        y.send(0, 1, 20);
        y.setRoute(0, 1, 2);
        y.pass(1);
        due("letters()", x.letters(), 0);
        due("time()", x.time(), 0);
        due("coins(0)", x.coins(0), 100);
        due("steps(0, 1)", x.steps(0, 1), 1);
    }

    // ---- promise 2

    private static void setRoute() {
        part("setRoute");
        StampRelay x = new StampRelay();
        due("setRoute(0, 2, 1)", x.setRoute(0, 2, 1), 2);
        due("setRoute(0, 2, 3)", x.setRoute(0, 2, 3), 1);
        due("setRoute(0, 2, 3)", x.setRoute(0, 2, 3), 3);
        due("setRoute(0, 2, 2)", x.setRoute(0, 2, 2), 3);
        due("setRoute(0, 1, 3)", x.setRoute(0, 1, 3), 1);
        due("setRoute(2, 0, 1)", x.setRoute(2, 0, 1), 0);
        due("setRoute(3, 0, 2)", x.setRoute(3, 0, 2), 0);

        int[] none = {-1, 4, Integer.MIN_VALUE, Integer.MAX_VALUE};
        for (int bad : none) {
            dueThrow("setRoute(" + bad + ", 1, 2)", INDEX, () -> x.setRoute(bad, 1, 2));
            dueThrow("setRoute(0, " + bad + ", 2)", INDEX, () -> x.setRoute(0, bad, 2));
            dueThrow("setRoute(0, 1, " + bad + ")", INDEX, () -> x.setRoute(0, 1, bad));
            dueThrow("setRoute(0, 0, " + bad + ")", INDEX, () -> x.setRoute(0, 0, bad));
            dueThrow("setRoute(0, " + bad + ", 0)", INDEX, () -> x.setRoute(0, bad, 0));
            dueThrow("setRoute(" + bad + ", " + bad + ", 0)", INDEX, () -> x.setRoute(bad, bad, 0));
        }
        for (int relay = 0; relay < 4; relay++) {
            int own = relay;
            int other = (relay + 1) % 4;
            dueThrow("a route to the relay itself", ARGUMENT, () -> x.setRoute(own, own, other));
            dueThrow("a route by the relay itself", ARGUMENT, () -> x.setRoute(own, other, own));
            dueThrow("a route to and by the relay itself", ARGUMENT, () -> x.setRoute(own, own, own));
        }
        // None of the calls that threw has changed a route.
        due("setRoute(0, 1, 1)", x.setRoute(0, 1, 1), 3);
        due("setRoute(0, 2, 2)", x.setRoute(0, 2, 2), 2);
        due("setRoute(1, 2, 2)", x.setRoute(1, 2, 2), 2);
        due("setRoute(2, 3, 3)", x.setRoute(2, 3, 3), 3);
        due("setRoute(2, 0, 0)", x.setRoute(2, 0, 0), 1);
        due("setRoute(3, 0, 0)", x.setRoute(3, 0, 0), 2);
    }

    private static void setRouteUnderWay() {
        part("setRoute for letters under way");
        StampRelay x = new StampRelay();
        x.send(0, 3, 10);
        x.setRoute(0, 3, 1);
        x.pass(1);
        dueLetter(x, 0, UNDER_WAY, 1, 3);
        x.setRoute(1, 3, 2);
        x.pass(1);
        dueLetter(x, 0, UNDER_WAY, 2, 7);
        x.pass(1);
        dueLetter(x, 0, UNDER_WAY, 3, 15);
        due("pass(1)", x.pass(1), 1);
        dueLetter(x, 0, DELIVERED, NONE, 15);
    }

    // ---- promise 3

    private static void steps() {
        part("steps");
        StampRelay x = new StampRelay();
        x.setRoute(0, 3, 1);
        due("steps(0, 3)", x.steps(0, 3), 2);
        x.setRoute(1, 3, 2);
        due("steps(0, 3)", x.steps(0, 3), 3);
        due("steps(1, 3)", x.steps(1, 3), 2);
        due("steps(2, 3)", x.steps(2, 3), 1);
        due("steps(3, 3)", x.steps(3, 3), 0);
        due("steps(3, 0)", x.steps(3, 0), 1);
        due("steps(0, 2)", x.steps(0, 2), 1);
        // 0 to 1 to 2 and back to 1: a loop that the first relay is not in.
        x.setRoute(2, 3, 1);
        due("steps(0, 3)", x.steps(0, 3), NONE);
        due("steps(1, 3)", x.steps(1, 3), NONE);
        due("steps(2, 3)", x.steps(2, 3), NONE);
        due("steps(3, 3)", x.steps(3, 3), 0);
        due("steps(2, 2)", x.steps(2, 2), 0);
        // A loop through all three others, back to the first.
        x.setRoute(2, 3, 0);
        due("steps(0, 3)", x.steps(0, 3), NONE);
        x.setRoute(2, 3, 3);
        due("steps(0, 3)", x.steps(0, 3), 3);

        int[] none = {-1, 4, Integer.MIN_VALUE, Integer.MAX_VALUE};
        for (int bad : none) {
            dueThrow("steps(" + bad + ", 0)", INDEX, () -> x.steps(bad, 0));
            dueThrow("steps(0, " + bad + ")", INDEX, () -> x.steps(0, bad));
            dueThrow("steps(" + bad + ", " + bad + ")", INDEX, () -> x.steps(bad, bad));
        }
    }

    // ---- promise 4

    private static void send() {
        part("send");
        StampRelay x = new StampRelay();
        for (int sender = 0; sender < 8; sender++) {
            int reader = (sender + 3) % 8;
            due("send", x.send(sender, reader, 10 + sender), sender);
            dueLetter(x, sender, UNDER_WAY, sender % 4, 1 << sender % 4);
            due("coins", x.coins(sender), 90 - sender);
            due("coins of the reader", x.coins(reader), reader < sender ? 90 - reader : 100);
        }
        due("letters()", x.letters(), 8);
        due("escrow()", x.escrow(), 108);
        due("time()", x.time(), 0);
        due("send(0, 1, 20)", x.send(0, 1, 20), 8);
        due("escrow()", x.escrow(), 128);
    }

    private static void sendWrongly() {
        part("send with wrong arguments");
        StampRelay x = new StampRelay();
        int[] none = {-1, 8, Integer.MIN_VALUE, Integer.MAX_VALUE};
        for (int bad : none) {
            dueThrow("send(" + bad + ", 0, 10)", INDEX, () -> x.send(bad, 0, 10));
            dueThrow("send(0, " + bad + ", 10)", INDEX, () -> x.send(0, bad, 10));
            dueThrow("send(" + bad + ", " + bad + ", -1)", INDEX, () -> x.send(bad, bad, -1));
            dueThrow("send(0, " + bad + ", 9)", INDEX, () -> x.send(0, bad, 9));
        }
        int[] stakes = {-1, 21, Integer.MIN_VALUE, Integer.MAX_VALUE};
        for (int bad : stakes) {
            dueThrow("send(0, 1, " + bad + ")", ARGUMENT, () -> x.send(0, 1, bad));
            dueThrow("send(0, 0, " + bad + ")", ARGUMENT, () -> x.send(0, 0, bad));
        }
        dueThrow("send(7, 7, 10)", ARGUMENT, () -> x.send(7, 7, 10));
        dueThrow("send(7, 7, 0)", ARGUMENT, () -> x.send(7, 7, 0));
        dueThrow("send(0, 1, 9)", STATE, () -> x.send(0, 1, 9));
        dueThrow("send(0, 1, 0)", STATE, () -> x.send(0, 1, 0));
        due("letters()", x.letters(), 0);
        due("escrow()", x.escrow(), 0);
        dueQueue(x, 0);
        dueAllCoins(x, 100, 100, 100, 100, 100, 100, 100, 100);
        due("send(0, 1, 10)", x.send(0, 1, 10), 0);
        due("send(0, 1, 20)", x.send(0, 1, 20), 1);
    }

    private static void sendWithFewCoins() {
        part("send with few coins");
        StampRelay x = new StampRelay();
        for (int i = 0; i < 4; i++) {
            x.send(2, 6, 20);
        }
        x.send(2, 6, 10);
        dueThrow("send(2, 6, 11)", STATE, () -> x.send(2, 6, 11));
        due("coins(2)", x.coins(2), 10);
        due("send(2, 6, 10)", x.send(2, 6, 10), 5);
        due("coins(2)", x.coins(2), 0);
        dueThrow("send(2, 6, 10)", STATE, () -> x.send(2, 6, 10));
        due("letters()", x.letters(), 6);
        // Who is answered can write for nothing, even with nothing.
        x.pass(1);
        x.answer(0);
        due("coins(2)", x.coins(2), 20);
        due("send(2, 6, 20)", x.send(2, 6, 20), 6);
        due("coins(2)", x.coins(2), 0);
        due("send(2, 6, 0)", x.send(2, 6, 0), 7);
        dueThrow("send(2, 6, 1)", STATE, () -> x.send(2, 6, 1));
    }

    private static void sendSixty() {
        part("send of sixty letters");
        StampRelay x = new StampRelay();
        for (int i = 0; i < 60; i++) {
            due("send", x.send(i % 8, (i + 4) % 8, 10), i);
        }
        due("letters()", x.letters(), 60);
        dueThrow("send(0, 4, 10)", STATE, () -> x.send(0, 4, 10));
        dueThrow("send(0, 8, 10)", INDEX, () -> x.send(0, 8, 10));
        dueThrow("send(0, 0, 10)", ARGUMENT, () -> x.send(0, 0, 10));
        dueThrow("send(0, 4, 21)", ARGUMENT, () -> x.send(0, 4, 21));
        due("letters()", x.letters(), 60);
        due("escrow()", x.escrow(), 600);
        dueLetter(x, 59, UNDER_WAY, 3, 8);
        dueThrow("stateOf(60)", INDEX, () -> x.stateOf(60));
        dueQueue(x, 1, 1, 5, 9, 13, 17, 21, 25, 29, 33, 37, 41, 45, 49, 53, 57);
        // Fifteen letters a relay, two a tick: the last ones come in the eighth tick.
        due("pass(7)", x.pass(7), 56);
        due("pass(1)", x.pass(1), 4);
        due("mark(58)", x.mark(58), 0);
        dueReputation(x, 2, -15);
        // Ended letters are letters still.
        due("answer(59)", x.answer(59), 10);
        dueThrow("send(0, 4, 10)", STATE, () -> x.send(0, 4, 10));
    }

    // ---- promise 5

    private static void passOnOneRelay() {
        part("pass on one relay");
        StampRelay x = new StampRelay();
        x.send(1, 5, 10);
        dueLetter(x, 0, UNDER_WAY, 1, 2);
        due("pass(1)", x.pass(1), 1);
        due("time()", x.time(), 1);
        dueLetter(x, 0, DELIVERED, NONE, 2);
        due("queue(1)", x.queue(1), 0);
        due("escrow()", x.escrow(), 10);
        due("pass(1)", x.pass(1), 0);
        due("time()", x.time(), 2);
        due("pass(50)", x.pass(50), 0);
        due("time()", x.time(), 52);
    }

    private static void passByOthers() {
        part("pass by other relays");
        StampRelay x = new StampRelay();
        // To a relay that is looked at later in the same tick, and to one that is looked at before.
        x.send(0, 7, 10);
        x.send(3, 4, 10);
        due("pass(1)", x.pass(1), 0);
        dueLetter(x, 0, UNDER_WAY, 3, 9);
        dueLetter(x, 1, UNDER_WAY, 0, 9);
        due("pass(1)", x.pass(1), 2);
        dueLetter(x, 0, DELIVERED, NONE, 9);
        dueLetter(x, 1, DELIVERED, NONE, 9);
        // By all four relays: three ticks of way, and one to be delivered.
        x.setRoute(0, 3, 2);
        x.setRoute(2, 3, 1);
        x.send(4, 3, 10);
        due("pass(3)", x.pass(3), 0);
        dueLetter(x, 2, UNDER_WAY, 3, 15);
        due("pass(2)", x.pass(2), 1);
        due("stateOf(2)", x.stateOf(2), DELIVERED);
    }

    private static void passTwoOfEachQueue() {
        part("pass moves two letters of each queue");
        StampRelay x = new StampRelay();
        for (int i = 0; i < 5; i++) {
            x.send(1, 5, 10);
        }
        x.send(2, 6, 10);
        x.send(2, 6, 10);
        x.send(2, 6, 10);
        due("pass(1)", x.pass(1), 4);
        dueQueue(x, 1, 2, 3, 4);
        dueQueue(x, 2, 7);
        due("pass(1)", x.pass(1), 3);
        dueQueue(x, 1, 4);
        due("pass(1)", x.pass(1), 1);

        // A letter that comes in a tick does not move in it, though there is room; nor does it take room.
        StampRelay y = new StampRelay();
        y.send(1, 5, 10);
        y.send(0, 5, 20);
        y.send(0, 5, 20);
        y.send(1, 5, 10);
        due("pass(1)", y.pass(1), 2);
        due("stateOf(0)", y.stateOf(0), DELIVERED);
        due("stateOf(3)", y.stateOf(3), DELIVERED);
        dueQueue(y, 1, 1, 2);
        due("pass(1)", y.pass(1), 2);
    }

    private static void passInOrderOfRank() {
        part("pass in the order of stake and reputation");
        StampRelay x = new StampRelay();
        x.send(0, 4, 10);
        x.send(0, 4, 12);
        x.send(4, 0, 11);
        x.send(4, 0, 12);
        dueQueue(x, 0, 1, 3, 2, 0);
        due("pass(1)", x.pass(1), 2);
        due("stateOf(1)", x.stateOf(1), DELIVERED);
        due("stateOf(3)", x.stateOf(3), DELIVERED);
        dueQueue(x, 0, 2, 0);
        // With an answer (2 times 5), letter 0 of person 0 goes before letter 2 of person 4.
        due("answer(1)", x.answer(1), 10);
        dueQueue(x, 0, 0, 2);
        // With a mark (3 times 5), person 4 falls to the end.
        due("mark(3)", x.mark(3), 0);
        x.send(0, 4, 0);
        dueQueue(x, 0, 0, 4, 2);
        due("pass(1)", x.pass(1), 2);
        due("stateOf(0)", x.stateOf(0), DELIVERED);
        due("stateOf(4)", x.stateOf(4), DELIVERED);
        due("stateOf(2)", x.stateOf(2), UNDER_WAY);
    }

    private static void passIntoLoops() {
        part("pass into loops");
        StampRelay x = new StampRelay();
        x.setRoute(0, 2, 1);
        x.setRoute(1, 2, 0);
        x.send(0, 2, 13);
        due("pass(1)", x.pass(1), 0);
        dueLetter(x, 0, UNDER_WAY, 1, 3);
        due("pass(1)", x.pass(1), 0);
        // Lost at 1, where it lies: not at 0, where it was before.
        dueLetter(x, 0, LOST, NONE, 3);
        due("pool(0)", x.pool(0), 0);
        due("pool(1)", x.pool(1), 13);
        due("pool(2)", x.pool(2), 0);
        due("escrow()", x.escrow(), 0);
        due("queue(0)", x.queue(0), 0);
        due("queue(1)", x.queue(1), 0);
        dueAllCoins(x, 87, 100, 100, 100, 100, 100, 100, 100);
        dueReputation(x, 0, 0);
        dueThrow("answer(0)", STATE, () -> x.answer(0));
        dueThrow("mark(0)", STATE, () -> x.mark(0));
        due("pass(30)", x.pass(30), 0);
        due("stateOf(0)", x.stateOf(0), LOST);
        due("coins(0)", x.coins(0), 87);
        // The way of the letter counts, not only the routes of now: 3 to 1 is new, then back to 3.
        x.setRoute(3, 2, 1);
        x.setRoute(1, 2, 3);
        x.send(3, 6, 20);
        x.pass(1);
        dueLetter(x, 1, UNDER_WAY, 1, 10);
        x.setRoute(3, 2, 2);
        due("steps(1, 2)", x.steps(1, 2), 2);
        x.pass(1);
        dueLetter(x, 1, LOST, NONE, 10);
        due("pool(1)", x.pool(1), 33);
        // Letters that are lost are moved too: they leave no room for a third one.
        StampRelay y = new StampRelay();
        y.setRoute(0, 2, 1);
        y.setRoute(1, 2, 0);
        y.send(0, 2, 20);
        y.send(0, 2, 20);
        y.pass(1);
        y.send(1, 5, 10);
        dueQueue(y, 1, 0, 1, 2);
        due("pass(1)", y.pass(1), 0);
        due("stateOf(0)", y.stateOf(0), LOST);
        due("stateOf(1)", y.stateOf(1), LOST);
        due("pool(1)", y.pool(1), 40);
        dueQueue(y, 1, 2);
        due("pass(1)", y.pass(1), 1);
    }

    private static void passUntilExpired() {
        part("pass until letters are EXPIRED");
        StampRelay x = new StampRelay();
        x.send(0, 4, 15);
        x.send(0, 1, 12);
        due("pass(2)", x.pass(2), 2);
        due("pass(18)", x.pass(18), 0);
        due("stateOf(0)", x.stateOf(0), DELIVERED);
        due("coins(0)", x.coins(0), 73);
        due("escrow()", x.escrow(), 27);
        due("pass(1)", x.pass(1), 0);
        due("time()", x.time(), 21);
        dueLetter(x, 0, EXPIRED, NONE, 1);
        due("stateOf(1)", x.stateOf(1), DELIVERED);
        due("coins(0)", x.coins(0), 88);
        due("escrow()", x.escrow(), 12);
        dueThrow("answer(0)", STATE, () -> x.answer(0));
        dueThrow("mark(0)", STATE, () -> x.mark(0));
        // In its last tick the other one can be answered still.
        due("answer(1)", x.answer(1), 10);
        due("pass(1)", x.pass(1), 0);
        due("stateOf(1)", x.stateOf(1), ANSWERED);
        due("coins(0)", x.coins(0), 100);
        dueReputation(x, 0, 10);
        // Delivered and expired in one call: it counts as delivered.
        x.send(2, 6, 10);
        due("pass(50)", x.pass(50), 1);
        due("stateOf(2)", x.stateOf(2), EXPIRED);
        due("coins(2)", x.coins(2), 100);
        // A letter that is marked does not expire.
        x.send(3, 7, 10);
        x.pass(1);
        x.mark(3);
        x.pass(50);
        due("stateOf(3)", x.stateOf(3), MARKED);
        due("coins(3)", x.coins(3), 90);
        // A letter that waits does not expire: the twenty ticks begin when it is delivered.
        StampRelay y = new StampRelay();
        for (int i = 0; i < 10; i++) {
            y.send(0, 4, 10);
        }
        y.pass(24);
        due("stateOf(7)", y.stateOf(7), EXPIRED);
        due("stateOf(8)", y.stateOf(8), DELIVERED);
        y.pass(1);
        due("stateOf(9)", y.stateOf(9), EXPIRED);
        due("coins(0)", y.coins(0), 100);
    }

    private static void passWrongly() {
        part("pass with wrong arguments");
        StampRelay x = new StampRelay();
        x.send(0, 4, 10);
        int[] ticks = {0, -1, 51, Integer.MIN_VALUE, Integer.MAX_VALUE};
        for (int bad : ticks) {
            dueThrow("pass(" + bad + ")", ARGUMENT, () -> x.pass(bad));
        }
        due("time()", x.time(), 0);
        due("stateOf(0)", x.stateOf(0), UNDER_WAY);
        // The time can't come to 100000 in 512 calls, so no more than this can be looked at.
        for (int i = 0; i < 480; i++) {
            x.pass(50);
        }
        due("time()", x.time(), 24000);
        dueThrow("pass(51)", ARGUMENT, () -> x.pass(51));
        due("time()", x.time(), 24000);
    }

    // ---- promise 6

    private static void answer() {
        part("answer");
        StampRelay x = new StampRelay();
        x.send(0, 4, 17);
        dueThrow("answer(0)", STATE, () -> x.answer(0));
        dueThrow("answer(-1)", INDEX, () -> x.answer(-1));
        dueThrow("answer(1)", INDEX, () -> x.answer(1));
        dueThrow("answer(60)", INDEX, () -> x.answer(60));
        dueThrow("answer(least)", INDEX, () -> x.answer(Integer.MIN_VALUE));
        dueThrow("answer(greatest)", INDEX, () -> x.answer(Integer.MAX_VALUE));
        due("stateOf(0)", x.stateOf(0), UNDER_WAY);
        x.pass(1);
        due("answer(0)", x.answer(0), 10);
        dueLetter(x, 0, ANSWERED, NONE, 1);
        due("escrow()", x.escrow(), 0);
        due("pool(0)", x.pool(0), 0);
        dueAllCoins(x, 100, 100, 100, 100, 100, 100, 100, 100);
        dueReputation(x, 0, 10);
        dueReputation(x, 4, 0);
        dueThrow("answer(0)", STATE, () -> x.answer(0));
        dueThrow("mark(0)", STATE, () -> x.mark(0));
        due("coins(0)", x.coins(0), 100);
        // Each letter counts, though the reader is the same.
        x.send(0, 4, 0);
        x.send(0, 4, 5);
        x.pass(1);
        due("answer(2)", x.answer(2), 20);
        due("answer(1)", x.answer(1), 30);
        dueReputation(x, 0, 30);
    }

    // ---- promise 7

    private static void mark() {
        part("mark");
        StampRelay x = new StampRelay();
        x.send(0, 5, 17);
        dueThrow("mark(0)", STATE, () -> x.mark(0));
        dueThrow("mark(-1)", INDEX, () -> x.mark(-1));
        dueThrow("mark(1)", INDEX, () -> x.mark(1));
        dueThrow("mark(60)", INDEX, () -> x.mark(60));
        dueThrow("mark(least)", INDEX, () -> x.mark(Integer.MIN_VALUE));
        dueThrow("mark(greatest)", INDEX, () -> x.mark(Integer.MAX_VALUE));
        x.pass(2);
        due("mark(0)", x.mark(0), 0);
        dueLetter(x, 0, MARKED, NONE, 3);
        due("pool(0)", x.pool(0), 0);
        due("pool(1)", x.pool(1), 17);
        due("escrow()", x.escrow(), 0);
        dueAllCoins(x, 83, 100, 100, 100, 100, 100, 100, 100);
        dueReputation(x, 0, -15);
        dueReputation(x, 5, 0);
        due("leastStake(0)", x.leastStake(0), 20);
        due("falseMarks(5)", x.falseMarks(5), 0);
        dueThrow("mark(0)", STATE, () -> x.mark(0));
        dueThrow("answer(0)", STATE, () -> x.answer(0));
        due("pool(1)", x.pool(1), 17);
        x.send(0, 5, 20);
        x.pass(2);
        due("mark(1)", x.mark(1), 0);
        dueReputation(x, 0, -30);
        due("pool(1)", x.pool(1), 37);
    }

    private static void markFalsely() {
        part("mark falsely");
        StampRelay x = new StampRelay();
        for (int reader = 1; reader <= 3; reader++) {
            x.send(0, reader, 10);
        }
        x.pass(3);
        x.answer(0);
        x.answer(1);
        // Two others have answered, one of them two times: not enough.
        x.send(0, 1, 20);
        x.send(0, 5, 20);
        x.pass(2);
        due("answer(3)", x.answer(3), 30);
        due("mark(4)", x.mark(4), 0);
        dueReputation(x, 0, 15);
        due("falseMarks(5)", x.falseMarks(5), 0);
        due("pool(1)", x.pool(1), 20);
        // The reader itself does not count as one who has answered: only 1 and 2 are others of 3.
        due("answer(2)", x.answer(2), 25);
        x.send(0, 3, 20);
        x.send(0, 5, 14);
        x.send(0, 7, 0);
        x.pass(3);
        due("mark(5)", x.mark(5), 0);
        due("falseMarks(3)", x.falseMarks(3), 0);
        dueReputation(x, 0, 10);
        // For 5 there are three others: 1, 2 and 3. It pays the stake once more, to the sender.
        due("coins(0)", x.coins(0), 46);
        due("mark(6)", x.mark(6), 14);
        due("stateOf(6)", x.stateOf(6), MARKED);
        due("pool(1)", x.pool(1), 34);
        due("falseMarks(5)", x.falseMarks(5), 1);
        dueAllCoins(x, 60, 100, 100, 100, 100, 86, 100, 100);
        // The false mark is no opinion, and the earlier one of 5 now weighs 4: 20 * 2 - 15 - 12.
        dueReputation(x, 0, 13);
        // A false mark of a letter for nothing is false too.
        due("mark(7)", x.mark(7), 0);
        due("falseMarks(7)", x.falseMarks(7), 1);
        dueReputation(x, 0, 13);
        due("coins(7)", x.coins(7), 100);

        // Three others are enough, in whatever order they have answered: for 1 they are 4, 2 and 3.
        part("mark falsely by one who has answered");
        StampRelay z = withFourAnswers();
        z.send(0, 1, 5);
        z.pass(2);
        due("mark(4)", z.mark(4), 5);
        due("falseMarks(1)", z.falseMarks(1), 1);
        dueReputation(z, 0, 38);

        // A mark stays as it was when it was made: answers that come later do not make it false.
        part("mark before the third answer");
        StampRelay y = new StampRelay();
        for (int reader = 1; reader <= 4; reader++) {
            y.send(0, reader, 10);
        }
        y.pass(3);
        y.answer(0);
        y.answer(1);
        due("mark(3)", y.mark(3), 0);
        due("answer(2)", y.answer(2), 15);
        due("falseMarks(4)", y.falseMarks(4), 0);
        dueReputation(y, 0, 15);
        due("coins(0)", y.coins(0), 90);
    }

    private static void markFalselyWithFewCoins() {
        part("mark falsely with few coins");
        StampRelay x = withFourAnswers();
        // Person 5 gives away all but 7 coins, and then all.
        x.send(5, 1, 20);
        x.send(5, 1, 20);
        x.send(5, 1, 20);
        x.send(5, 1, 20);
        x.send(5, 1, 13);
        due("coins(5)", x.coins(5), 7);
        x.send(0, 5, 7);
        x.send(0, 5, 20);
        x.pass(4);
        due("coins(0)", x.coins(0), 73);
        due("mark(10)", x.mark(10), 7);
        due("coins(5)", x.coins(5), 0);
        due("coins(0)", x.coins(0), 80);
        due("pool(1)", x.pool(1), 20);
        due("falseMarks(5)", x.falseMarks(5), 1);
        due("mark(9)", x.mark(9), 0);
        due("falseMarks(5)", x.falseMarks(5), 2);
        due("pool(1)", x.pool(1), 27);
        due("coins(0)", x.coins(0), 80);
        due("escrow()", x.escrow(), 93);
        dueReputation(x, 0, 40);
    }

    private static void markFalselyManyTimes() {
        part("mark falsely many times");
        StampRelay x = withFourAnswers();
        x.send(0, 5, 10);
        x.pass(2);
        due("answer(4)", x.answer(4), 50);
        int[] weights = {4, 3, 2, 1, 1, 1};
        for (int i = 0; i < weights.length; i++) {
            due("send(0, 5, 3)", x.send(0, 5, 3), 5 + i);
            x.pass(2);
            due("mark", x.mark(5 + i), 3);
            due("falseMarks(5)", x.falseMarks(5), 1 + i);
            dueReputation(x, 0, 40 + 2 * weights[i]);
        }
        due("coins(5)", x.coins(5), 82);
        due("coins(0)", x.coins(0), 100);
        due("pool(1)", x.pool(1), 18);
        // The weight is that of the reader for all senders, and of marks as of answers.
        x.send(2, 5, 10);
        x.send(2, 1, 10);
        x.pass(2);
        due("mark(11)", x.mark(11), 0);
        dueReputation(x, 2, -3);
        due("leastStake(2)", x.leastStake(2), 13);
        due("answer(12)", x.answer(12), 7);
        due("leastStake(2)", x.leastStake(2), 3);
        // What the marker writes itself is judged by others.
        x.send(5, 1, 10);
        x.pass(1);
        due("answer(13)", x.answer(13), 10);
    }

    // ---- promises 8 to 12

    private static void whatALetterTells() {
        part("what a letter tells");
        StampRelay x = new StampRelay();
        int[] none = {-1, 0, 60, Integer.MIN_VALUE, Integer.MAX_VALUE};
        for (int bad : none) {
            dueThrow("stateOf(" + bad + ")", INDEX, () -> x.stateOf(bad));
            dueThrow("relayOf(" + bad + ")", INDEX, () -> x.relayOf(bad));
            dueThrow("marksOn(" + bad + ")", INDEX, () -> x.marksOn(bad));
        }
        x.send(6, 3, 10);
        due("letters()", x.letters(), 1);
        dueLetter(x, 0, UNDER_WAY, 2, 4);
        dueThrow("stateOf(1)", INDEX, () -> x.stateOf(1));
        dueThrow("relayOf(1)", INDEX, () -> x.relayOf(1));
        dueThrow("marksOn(1)", INDEX, () -> x.marksOn(1));
        x.pass(1);
        dueLetter(x, 0, UNDER_WAY, 3, 12);
        x.pass(1);
        dueLetter(x, 0, DELIVERED, NONE, 12);
        x.answer(0);
        dueLetter(x, 0, ANSWERED, NONE, 12);
        due("letters()", x.letters(), 1);
        due("time()", x.time(), 2);
    }

    // ---- promises 13 and 14

    private static void queue() {
        part("queue and queueAt");
        StampRelay x = new StampRelay();
        x.send(3, 1, 10);
        x.send(7, 1, 20);
        x.send(3, 2, 15);
        x.send(7, 3, 15);
        x.send(7, 4, 20);
        dueQueue(x, 3, 1, 4, 2, 3, 0);
        dueQueue(x, 0);
        int[] none = {-1, 4, Integer.MIN_VALUE, Integer.MAX_VALUE};
        for (int bad : none) {
            dueThrow("queue(" + bad + ")", INDEX, () -> x.queue(bad));
            dueThrow("queueAt(" + bad + ", 0)", INDEX, () -> x.queueAt(bad, 0));
        }
        dueThrow("queueAt(3, -1)", INDEX, () -> x.queueAt(3, -1));
        dueThrow("queueAt(3, 6)", INDEX, () -> x.queueAt(3, 6));
        dueThrow("queueAt(3, least)", INDEX, () -> x.queueAt(3, Integer.MIN_VALUE));
        dueThrow("queueAt(3, greatest)", INDEX, () -> x.queueAt(3, Integer.MAX_VALUE));
        dueQueue(x, 3, 1, 4, 2, 3, 0);
        x.pass(1);
        dueQueue(x, 3, 2, 3, 0);
        dueQueue(x, 1, 1);
        dueQueue(x, 0, 4);
        x.pass(1);
        dueQueue(x, 3, 0);
        dueQueue(x, 2, 2);
        dueQueue(x, 1);
        dueQueue(x, 0);
    }

    private static void queueAtByReputation() {
        part("queueAt by the reputations of now");
        StampRelay x = new StampRelay();
        x.send(0, 4, 10);
        x.send(4, 0, 20);
        x.pass(1);
        for (int i = 0; i < 2; i++) {
            x.send(0, 1, 10);
            x.send(4, 1, 10);
        }
        x.send(4, 1, 20);
        dueQueue(x, 0, 6, 2, 3, 4, 5);
        x.answer(0);
        dueQueue(x, 0, 2, 4, 6, 3, 5);
        x.mark(1);
        dueQueue(x, 0, 2, 4, 6, 3, 5);
        x.send(0, 1, 0);
        dueQueue(x, 0, 2, 4, 7, 6, 3, 5);
        // The letters go in that order, two a tick.
        x.pass(1);
        dueQueue(x, 1, 2, 4);
        dueQueue(x, 0, 7, 6, 3, 5);
        x.pass(1);
        dueQueue(x, 1, 7, 6);
        dueQueue(x, 0, 3, 5);
    }

    // ---- promises 15 to 17

    private static void coinsPoolsAndEscrow() {
        part("coins, pools and escrow");
        StampRelay x = new StampRelay();
        int[] people = {-1, 8, Integer.MIN_VALUE, Integer.MAX_VALUE};
        for (int bad : people) {
            dueThrow("coins(" + bad + ")", INDEX, () -> x.coins(bad));
            dueThrow("reputation(" + bad + ")", INDEX, () -> x.reputation(bad));
            dueThrow("reputationAtOnce(" + bad + ")", INDEX, () -> x.reputationAtOnce(bad));
            dueThrow("leastStake(" + bad + ")", INDEX, () -> x.leastStake(bad));
            dueThrow("falseMarks(" + bad + ")", INDEX, () -> x.falseMarks(bad));
        }
        int[] relays = {-1, 4, Integer.MIN_VALUE, Integer.MAX_VALUE};
        for (int bad : relays) {
            dueThrow("pool(" + bad + ")", INDEX, () -> x.pool(bad));
        }
        // One letter to each end: answered, marked, lost, expired, delivered, under way.
        x.send(0, 4, 10);
        x.send(1, 5, 11);
        x.setRoute(2, 3, 1);
        x.setRoute(1, 3, 2);
        x.send(2, 7, 12);
        x.send(3, 7, 13);
        due("escrow()", x.escrow(), 46);
        x.pass(1);
        due("escrow()", x.escrow(), 46);
        x.answer(0);
        due("escrow()", x.escrow(), 36);
        x.mark(1);
        due("escrow()", x.escrow(), 25);
        x.pass(1);
        due("stateOf(2)", x.stateOf(2), LOST);
        due("escrow()", x.escrow(), 13);
        x.pass(19);
        due("stateOf(3)", x.stateOf(3), EXPIRED);
        due("escrow()", x.escrow(), 0);
        x.send(4, 0, 14);
        x.pass(1);
        x.send(5, 1, 15);
        due("escrow()", x.escrow(), 29);
        dueAllCoins(x, 100, 89, 88, 100, 86, 85, 100, 100);
        due("pool(0)", x.pool(0), 0);
        due("pool(1)", x.pool(1), 23);
        due("pool(2)", x.pool(2), 0);
        due("pool(3)", x.pool(3), 0);
    }

    // ---- promises 18 to 21

    private static void reputationOfSeveral() {
        part("reputation of several people");
        StampRelay x = new StampRelay();
        x.send(0, 4, 10);
        x.send(4, 0, 10);
        x.send(1, 5, 10);
        x.send(5, 1, 10);
        x.send(6, 2, 10);
        x.pass(1);
        x.answer(0);
        x.mark(1);
        x.answer(2);
        x.answer(3);
        dueReputation(x, 0, 10);
        dueReputation(x, 4, -15);
        dueReputation(x, 1, 10);
        dueReputation(x, 5, 10);
        // Delivered, under way and expired letters tell nothing.
        dueReputation(x, 6, 0);
        x.pass(20);
        due("stateOf(4)", x.stateOf(4), EXPIRED);
        dueReputation(x, 6, 0);
        dueReputation(x, 2, 0);
        dueReputation(x, 7, 0);
        // Looking at all at once twice gives the same.
        dueReputation(x, 0, 10);
        dueReputation(x, 4, -15);
    }

    private static void leastStake() {
        part("leastStake");
        StampRelay x = withFourAnswers();
        due("leastStake(0)", x.leastStake(0), 0);
        due("leastStake(1)", x.leastStake(1), 10);
        // Person 5 marks falsely two times, so that its answers weigh 3 and its marks 3.
        x.send(0, 5, 0);
        x.send(0, 5, 0);
        x.pass(2);
        x.mark(4);
        x.mark(5);
        due("falseMarks(5)", x.falseMarks(5), 2);
        due("falseMarks(0)", x.falseMarks(0), 0);
        x.send(1, 5, 10);
        x.pass(1);
        due("answer(6)", x.answer(6), 6);
        due("leastStake(1)", x.leastStake(1), 4);
        dueThrow("send(1, 5, 3)", STATE, () -> x.send(1, 5, 3));
        due("send(1, 5, 4)", x.send(1, 5, 4), 7);
        x.pass(1);
        due("mark(7)", x.mark(7), 0);
        dueReputation(x, 1, -3);
        due("leastStake(1)", x.leastStake(1), 13);
        dueThrow("send(1, 5, 12)", STATE, () -> x.send(1, 5, 12));
        due("send(1, 5, 13)", x.send(1, 5, 13), 8);
        x.pass(1);
        due("mark(8)", x.mark(8), 0);
        dueReputation(x, 1, -12);
        due("leastStake(1)", x.leastStake(1), 20);
        due("send(1, 5, 20)", x.send(1, 5, 20), 9);
    }

    // ---- README.md

    private static void exampleOfReadme() {
        part("the example in README.md");
        StampRelay relay = new StampRelay();
        due("send(0, 4, 10)", relay.send(0, 4, 10), 0);
        due("pass(1)", relay.pass(1), 1);
        due("stateOf(0)", relay.stateOf(0), DELIVERED);
        due("answer(0)", relay.answer(0), 10);
        due("leastStake(0)", relay.leastStake(0), 0);
        due("setRoute(0, 3, 1)", relay.setRoute(0, 3, 1), 3);
        due("steps(0, 3)", relay.steps(0, 3), 2);
        due("send(0, 7, 5)", relay.send(0, 7, 5), 1);
        due("pass(2)", relay.pass(2), 0);
        due("relayOf(1)", relay.relayOf(1), 3);
        due("marksOn(1)", relay.marksOn(1), 11);
        due("pass(1)", relay.pass(1), 1);
        due("mark(1)", relay.mark(1), 0);
        due("pool(3)", relay.pool(3), 5);
        due("reputation(0)", relay.reputation(0), -5);
    }
}
